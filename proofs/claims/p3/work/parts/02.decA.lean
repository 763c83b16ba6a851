theorem gX0_init_0 : (decode cX0_init 0 = .ok (.aload_n 0, 1)) ∧ (decode cX0_init 1 = .ok (.invokespecial 3, 3)) ∧ (decode cX0_init 4 = .ok (.aload_n 0, 1)) ∧ (decode cX0_init 5 = .ok (.bipush 6, 2)) ∧ (decode cX0_init 7 = .ok (.newarray .int, 2)) ∧ (decode cX0_init 9 = .ok (.putfield 9, 3)) ∧ (decode cX0_init 12 = .ok (.aload_n 0, 1)) ∧ (decode cX0_init 13 = .ok (.bipush 20, 2)) ∧ (decode cX0_init 15 = .ok (.newarray .int, 2)) ∧ (decode cX0_init 17 = .ok (.putfield 15, 3)) ∧ (decode cX0_init 20 = .ok (.aload_n 0, 1)) ∧ (decode cX0_init 21 = .ok (.bipush 20, 2)) := by decide +kernel
theorem dX0_init_0 : decode cX0_init 0 = .ok (.aload_n 0, 1) := gX0_init_0.1
theorem dX0_init_1 : decode cX0_init 1 = .ok (.invokespecial 3, 3) := gX0_init_0.2.1
theorem dX0_init_4 : decode cX0_init 4 = .ok (.aload_n 0, 1) := gX0_init_0.2.2.1
theorem dX0_init_5 : decode cX0_init 5 = .ok (.bipush 6, 2) := gX0_init_0.2.2.2.1
theorem dX0_init_7 : decode cX0_init 7 = .ok (.newarray .int, 2) := gX0_init_0.2.2.2.2.1
theorem dX0_init_9 : decode cX0_init 9 = .ok (.putfield 9, 3) := gX0_init_0.2.2.2.2.2.1
theorem dX0_init_12 : decode cX0_init 12 = .ok (.aload_n 0, 1) := gX0_init_0.2.2.2.2.2.2.1
theorem dX0_init_13 : decode cX0_init 13 = .ok (.bipush 20, 2) := gX0_init_0.2.2.2.2.2.2.2.1
theorem dX0_init_15 : decode cX0_init 15 = .ok (.newarray .int, 2) := gX0_init_0.2.2.2.2.2.2.2.2.1
theorem dX0_init_17 : decode cX0_init 17 = .ok (.putfield 15, 3) := gX0_init_0.2.2.2.2.2.2.2.2.2.1
theorem dX0_init_20 : decode cX0_init 20 = .ok (.aload_n 0, 1) := gX0_init_0.2.2.2.2.2.2.2.2.2.2.1
theorem dX0_init_21 : decode cX0_init 21 = .ok (.bipush 20, 2) := gX0_init_0.2.2.2.2.2.2.2.2.2.2.2
theorem gX0_init_12 : (decode cX0_init 23 = .ok (.newarray .int, 2)) ∧ (decode cX0_init 25 = .ok (.putfield 18, 3)) ∧ (decode cX0_init 28 = .ok (.aload_n 0, 1)) ∧ (decode cX0_init 29 = .ok (.bipush 20, 2)) ∧ (decode cX0_init 31 = .ok (.newarray .boolean, 2)) ∧ (decode cX0_init 33 = .ok (.putfield 21, 3)) ∧ (decode cX0_init 36 = .ok (.aload_n 0, 1)) ∧ (decode cX0_init 37 = .ok (.bipush 20, 2)) ∧ (decode cX0_init 39 = .ok (.newarray .int, 2)) ∧ (decode cX0_init 41 = .ok (.putfield 25, 3)) ∧ (decode cX0_init 44 = .ok (.aload_n 0, 1)) ∧ (decode cX0_init 45 = .ok (.bipush 6, 2)) := by decide +kernel
theorem dX0_init_23 : decode cX0_init 23 = .ok (.newarray .int, 2) := gX0_init_12.1
theorem dX0_init_25 : decode cX0_init 25 = .ok (.putfield 18, 3) := gX0_init_12.2.1
theorem dX0_init_28 : decode cX0_init 28 = .ok (.aload_n 0, 1) := gX0_init_12.2.2.1
theorem dX0_init_29 : decode cX0_init 29 = .ok (.bipush 20, 2) := gX0_init_12.2.2.2.1
theorem dX0_init_31 : decode cX0_init 31 = .ok (.newarray .boolean, 2) := gX0_init_12.2.2.2.2.1
theorem dX0_init_33 : decode cX0_init 33 = .ok (.putfield 21, 3) := gX0_init_12.2.2.2.2.2.1
theorem dX0_init_36 : decode cX0_init 36 = .ok (.aload_n 0, 1) := gX0_init_12.2.2.2.2.2.2.1
theorem dX0_init_37 : decode cX0_init 37 = .ok (.bipush 20, 2) := gX0_init_12.2.2.2.2.2.2.2.1
theorem dX0_init_39 : decode cX0_init 39 = .ok (.newarray .int, 2) := gX0_init_12.2.2.2.2.2.2.2.2.1
theorem dX0_init_41 : decode cX0_init 41 = .ok (.putfield 25, 3) := gX0_init_12.2.2.2.2.2.2.2.2.2.1
theorem dX0_init_44 : decode cX0_init 44 = .ok (.aload_n 0, 1) := gX0_init_12.2.2.2.2.2.2.2.2.2.2.1
theorem dX0_init_45 : decode cX0_init 45 = .ok (.bipush 6, 2) := gX0_init_12.2.2.2.2.2.2.2.2.2.2.2
theorem gX0_init_24 : (decode cX0_init 47 = .ok (.newarray .int, 2)) ∧ (decode cX0_init 49 = .ok (.putfield 28, 3)) ∧ (decode cX0_init 52 = .ok (.aload_n 0, 1)) ∧ (decode cX0_init 53 = .ok (.bipush 6, 2)) ∧ (decode cX0_init 55 = .ok (.newarray .long, 2)) ∧ (decode cX0_init 57 = .ok (.putfield 31, 3)) ∧ (decode cX0_init 60 = .ok (.return_, 1)) := by decide +kernel
theorem dX0_init_47 : decode cX0_init 47 = .ok (.newarray .int, 2) := gX0_init_24.1
theorem dX0_init_49 : decode cX0_init 49 = .ok (.putfield 28, 3) := gX0_init_24.2.1
theorem dX0_init_52 : decode cX0_init 52 = .ok (.aload_n 0, 1) := gX0_init_24.2.2.1
theorem dX0_init_53 : decode cX0_init 53 = .ok (.bipush 6, 2) := gX0_init_24.2.2.2.1
theorem dX0_init_55 : decode cX0_init 55 = .ok (.newarray .long, 2) := gX0_init_24.2.2.2.2.1
theorem dX0_init_57 : decode cX0_init 57 = .ok (.putfield 31, 3) := gX0_init_24.2.2.2.2.2.1
theorem dX0_init_60 : decode cX0_init 60 = .ok (.return_, 1) := gX0_init_24.2.2.2.2.2.2
theorem gX0_begin_0 : (decode cX0_begin 0 = .ok (.aload_n 0, 1)) ∧ (decode cX0_begin 1 = .ok (.iconst 1, 1)) ∧ (decode cX0_begin 2 = .ok (.putfield 35, 3)) ∧ (decode cX0_begin 5 = .ok (.aload_n 0, 1)) ∧ (decode cX0_begin 6 = .ok (.iload_n 1, 1)) ∧ (decode cX0_begin 7 = .ok (.putfield 39, 3)) ∧ (decode cX0_begin 10 = .ok (.aload_n 0, 1)) ∧ (decode cX0_begin 11 = .ok (.dup, 1)) ∧ (decode cX0_begin 12 = .ok (.getfield 43, 3)) ∧ (decode cX0_begin 15 = .ok (.iconst 1, 1)) ∧ (decode cX0_begin 16 = .ok (.iadd, 1)) ∧ (decode cX0_begin 17 = .ok (.putfield 43, 3)) := by decide +kernel
theorem dX0_begin_0 : decode cX0_begin 0 = .ok (.aload_n 0, 1) := gX0_begin_0.1
theorem dX0_begin_1 : decode cX0_begin 1 = .ok (.iconst 1, 1) := gX0_begin_0.2.1
theorem dX0_begin_2 : decode cX0_begin 2 = .ok (.putfield 35, 3) := gX0_begin_0.2.2.1
theorem dX0_begin_5 : decode cX0_begin 5 = .ok (.aload_n 0, 1) := gX0_begin_0.2.2.2.1
theorem dX0_begin_6 : decode cX0_begin 6 = .ok (.iload_n 1, 1) := gX0_begin_0.2.2.2.2.1
theorem dX0_begin_7 : decode cX0_begin 7 = .ok (.putfield 39, 3) := gX0_begin_0.2.2.2.2.2.1
theorem dX0_begin_10 : decode cX0_begin 10 = .ok (.aload_n 0, 1) := gX0_begin_0.2.2.2.2.2.2.1
theorem dX0_begin_11 : decode cX0_begin 11 = .ok (.dup, 1) := gX0_begin_0.2.2.2.2.2.2.2.1
theorem dX0_begin_12 : decode cX0_begin 12 = .ok (.getfield 43, 3) := gX0_begin_0.2.2.2.2.2.2.2.2.1
theorem dX0_begin_15 : decode cX0_begin 15 = .ok (.iconst 1, 1) := gX0_begin_0.2.2.2.2.2.2.2.2.2.1
theorem dX0_begin_16 : decode cX0_begin 16 = .ok (.iadd, 1) := gX0_begin_0.2.2.2.2.2.2.2.2.2.2.1
theorem dX0_begin_17 : decode cX0_begin 17 = .ok (.putfield 43, 3) := gX0_begin_0.2.2.2.2.2.2.2.2.2.2.2
theorem gX0_begin_12 : (decode cX0_begin 20 = .ok (.return_, 1)) := by decide +kernel
theorem dX0_begin_20 : decode cX0_begin 20 = .ok (.return_, 1) := gX0_begin_12
theorem gX0_give_0 : (decode cX0_give 0 = .ok (.aload_n 0, 1)) ∧ (decode cX0_give 1 = .ok (.getfield 9, 3)) ∧ (decode cX0_give 4 = .ok (.iload_n 1, 1)) ∧ (decode cX0_give 5 = .ok (.iload_n 2, 1)) ∧ (decode cX0_give 6 = .ok (.iastore, 1)) ∧ (decode cX0_give 7 = .ok (.aload_n 0, 1)) ∧ (decode cX0_give 8 = .ok (.getfield 28, 3)) ∧ (decode cX0_give 11 = .ok (.iload_n 1, 1)) ∧ (decode cX0_give 12 = .ok (.iload_n 3, 1)) ∧ (decode cX0_give 13 = .ok (.iastore, 1)) ∧ (decode cX0_give 14 = .ok (.return_, 1)) := by decide +kernel
theorem dX0_give_0 : decode cX0_give 0 = .ok (.aload_n 0, 1) := gX0_give_0.1
theorem dX0_give_1 : decode cX0_give 1 = .ok (.getfield 9, 3) := gX0_give_0.2.1
theorem dX0_give_4 : decode cX0_give 4 = .ok (.iload_n 1, 1) := gX0_give_0.2.2.1
theorem dX0_give_5 : decode cX0_give 5 = .ok (.iload_n 2, 1) := gX0_give_0.2.2.2.1
theorem dX0_give_6 : decode cX0_give 6 = .ok (.iastore, 1) := gX0_give_0.2.2.2.2.1
theorem dX0_give_7 : decode cX0_give 7 = .ok (.aload_n 0, 1) := gX0_give_0.2.2.2.2.2.1
theorem dX0_give_8 : decode cX0_give 8 = .ok (.getfield 28, 3) := gX0_give_0.2.2.2.2.2.2.1
theorem dX0_give_11 : decode cX0_give 11 = .ok (.iload_n 1, 1) := gX0_give_0.2.2.2.2.2.2.2.1
theorem dX0_give_12 : decode cX0_give 12 = .ok (.iload_n 3, 1) := gX0_give_0.2.2.2.2.2.2.2.2.1
theorem dX0_give_13 : decode cX0_give 13 = .ok (.iastore, 1) := gX0_give_0.2.2.2.2.2.2.2.2.2.1
theorem dX0_give_14 : decode cX0_give 14 = .ok (.return_, 1) := gX0_give_0.2.2.2.2.2.2.2.2.2.2
theorem gX0_isStandstillOver_0 : (decode cX0_isStandstillOver 0 = .ok (.iload_n 1, 1)) ∧ (decode cX0_isStandstillOver 1 = .ok (.aload_n 0, 1)) ∧ (decode cX0_isStandstillOver 2 = .ok (.getfield 39, 3)) ∧ (decode cX0_isStandstillOver 5 = .ok (.if_icmp .le 7, 3)) ∧ (decode cX0_isStandstillOver 8 = .ok (.iconst 1, 1)) ∧ (decode cX0_isStandstillOver 9 = .ok (.goto 4, 3)) ∧ (decode cX0_isStandstillOver 12 = .ok (.iconst 0, 1)) ∧ (decode cX0_isStandstillOver 13 = .ok (.ireturn, 1)) := by decide +kernel
theorem dX0_isStandstillOver_0 : decode cX0_isStandstillOver 0 = .ok (.iload_n 1, 1) := gX0_isStandstillOver_0.1
theorem dX0_isStandstillOver_1 : decode cX0_isStandstillOver 1 = .ok (.aload_n 0, 1) := gX0_isStandstillOver_0.2.1
theorem dX0_isStandstillOver_2 : decode cX0_isStandstillOver 2 = .ok (.getfield 39, 3) := gX0_isStandstillOver_0.2.2.1
theorem dX0_isStandstillOver_5 : decode cX0_isStandstillOver 5 = .ok (.if_icmp .le 7, 3) := gX0_isStandstillOver_0.2.2.2.1
theorem dX0_isStandstillOver_8 : decode cX0_isStandstillOver 8 = .ok (.iconst 1, 1) := gX0_isStandstillOver_0.2.2.2.2.1
theorem dX0_isStandstillOver_9 : decode cX0_isStandstillOver 9 = .ok (.goto 4, 3) := gX0_isStandstillOver_0.2.2.2.2.2.1
theorem dX0_isStandstillOver_12 : decode cX0_isStandstillOver 12 = .ok (.iconst 0, 1) := gX0_isStandstillOver_0.2.2.2.2.2.2.1
theorem dX0_isStandstillOver_13 : decode cX0_isStandstillOver 13 = .ok (.ireturn, 1) := gX0_isStandstillOver_0.2.2.2.2.2.2.2
theorem gX0_addChallenge_0 : (decode cX0_addChallenge 0 = .ok (.aload_n 0, 1)) ∧ (decode cX0_addChallenge 1 = .ok (.getfield 46, 3)) ∧ (decode cX0_addChallenge 4 = .ok (.istore_n 3, 1)) ∧ (decode cX0_addChallenge 5 = .ok (.aload_n 0, 1)) ∧ (decode cX0_addChallenge 6 = .ok (.getfield 15, 3)) ∧ (decode cX0_addChallenge 9 = .ok (.iload_n 3, 1)) ∧ (decode cX0_addChallenge 10 = .ok (.iload_n 1, 1)) ∧ (decode cX0_addChallenge 11 = .ok (.iastore, 1)) ∧ (decode cX0_addChallenge 12 = .ok (.aload_n 0, 1)) ∧ (decode cX0_addChallenge 13 = .ok (.getfield 18, 3)) ∧ (decode cX0_addChallenge 16 = .ok (.iload_n 3, 1)) ∧ (decode cX0_addChallenge 17 = .ok (.iload_n 2, 1)) := by decide +kernel
theorem dX0_addChallenge_0 : decode cX0_addChallenge 0 = .ok (.aload_n 0, 1) := gX0_addChallenge_0.1
theorem dX0_addChallenge_1 : decode cX0_addChallenge 1 = .ok (.getfield 46, 3) := gX0_addChallenge_0.2.1
theorem dX0_addChallenge_4 : decode cX0_addChallenge 4 = .ok (.istore_n 3, 1) := gX0_addChallenge_0.2.2.1
theorem dX0_addChallenge_5 : decode cX0_addChallenge 5 = .ok (.aload_n 0, 1) := gX0_addChallenge_0.2.2.2.1
theorem dX0_addChallenge_6 : decode cX0_addChallenge 6 = .ok (.getfield 15, 3) := gX0_addChallenge_0.2.2.2.2.1
theorem dX0_addChallenge_9 : decode cX0_addChallenge 9 = .ok (.iload_n 3, 1) := gX0_addChallenge_0.2.2.2.2.2.1
theorem dX0_addChallenge_10 : decode cX0_addChallenge 10 = .ok (.iload_n 1, 1) := gX0_addChallenge_0.2.2.2.2.2.2.1
theorem dX0_addChallenge_11 : decode cX0_addChallenge 11 = .ok (.iastore, 1) := gX0_addChallenge_0.2.2.2.2.2.2.2.1
theorem dX0_addChallenge_12 : decode cX0_addChallenge 12 = .ok (.aload_n 0, 1) := gX0_addChallenge_0.2.2.2.2.2.2.2.2.1
theorem dX0_addChallenge_13 : decode cX0_addChallenge 13 = .ok (.getfield 18, 3) := gX0_addChallenge_0.2.2.2.2.2.2.2.2.2.1
theorem dX0_addChallenge_16 : decode cX0_addChallenge 16 = .ok (.iload_n 3, 1) := gX0_addChallenge_0.2.2.2.2.2.2.2.2.2.2.1
theorem dX0_addChallenge_17 : decode cX0_addChallenge 17 = .ok (.iload_n 2, 1) := gX0_addChallenge_0.2.2.2.2.2.2.2.2.2.2.2
theorem gX0_addChallenge_12 : (decode cX0_addChallenge 18 = .ok (.iastore, 1)) ∧ (decode cX0_addChallenge 19 = .ok (.aload_n 0, 1)) ∧ (decode cX0_addChallenge 20 = .ok (.getfield 25, 3)) ∧ (decode cX0_addChallenge 23 = .ok (.iload_n 3, 1)) ∧ (decode cX0_addChallenge 24 = .ok (.aload_n 0, 1)) ∧ (decode cX0_addChallenge 25 = .ok (.getfield 43, 3)) ∧ (decode cX0_addChallenge 28 = .ok (.iastore, 1)) ∧ (decode cX0_addChallenge 29 = .ok (.aload_n 0, 1)) ∧ (decode cX0_addChallenge 30 = .ok (.dup, 1)) ∧ (decode cX0_addChallenge 31 = .ok (.getfield 46, 3)) ∧ (decode cX0_addChallenge 34 = .ok (.iconst 1, 1)) ∧ (decode cX0_addChallenge 35 = .ok (.iadd, 1)) := by decide +kernel
theorem dX0_addChallenge_18 : decode cX0_addChallenge 18 = .ok (.iastore, 1) := gX0_addChallenge_12.1
theorem dX0_addChallenge_19 : decode cX0_addChallenge 19 = .ok (.aload_n 0, 1) := gX0_addChallenge_12.2.1
theorem dX0_addChallenge_20 : decode cX0_addChallenge 20 = .ok (.getfield 25, 3) := gX0_addChallenge_12.2.2.1
theorem dX0_addChallenge_23 : decode cX0_addChallenge 23 = .ok (.iload_n 3, 1) := gX0_addChallenge_12.2.2.2.1
theorem dX0_addChallenge_24 : decode cX0_addChallenge 24 = .ok (.aload_n 0, 1) := gX0_addChallenge_12.2.2.2.2.1
theorem dX0_addChallenge_25 : decode cX0_addChallenge 25 = .ok (.getfield 43, 3) := gX0_addChallenge_12.2.2.2.2.2.1
theorem dX0_addChallenge_28 : decode cX0_addChallenge 28 = .ok (.iastore, 1) := gX0_addChallenge_12.2.2.2.2.2.2.1
theorem dX0_addChallenge_29 : decode cX0_addChallenge 29 = .ok (.aload_n 0, 1) := gX0_addChallenge_12.2.2.2.2.2.2.2.1
theorem dX0_addChallenge_30 : decode cX0_addChallenge 30 = .ok (.dup, 1) := gX0_addChallenge_12.2.2.2.2.2.2.2.2.1
theorem dX0_addChallenge_31 : decode cX0_addChallenge 31 = .ok (.getfield 46, 3) := gX0_addChallenge_12.2.2.2.2.2.2.2.2.2.1
theorem dX0_addChallenge_34 : decode cX0_addChallenge 34 = .ok (.iconst 1, 1) := gX0_addChallenge_12.2.2.2.2.2.2.2.2.2.2.1
theorem dX0_addChallenge_35 : decode cX0_addChallenge 35 = .ok (.iadd, 1) := gX0_addChallenge_12.2.2.2.2.2.2.2.2.2.2.2
theorem gX0_addChallenge_24 : (decode cX0_addChallenge 36 = .ok (.putfield 46, 3)) ∧ (decode cX0_addChallenge 39 = .ok (.iload_n 3, 1)) ∧ (decode cX0_addChallenge 40 = .ok (.ireturn, 1)) := by decide +kernel
theorem dX0_addChallenge_36 : decode cX0_addChallenge 36 = .ok (.putfield 46, 3) := gX0_addChallenge_24.1
theorem dX0_addChallenge_39 : decode cX0_addChallenge 39 = .ok (.iload_n 3, 1) := gX0_addChallenge_24.2.1
theorem dX0_addChallenge_40 : decode cX0_addChallenge 40 = .ok (.ireturn, 1) := gX0_addChallenge_24.2.2
theorem gX0_holds_0 : (decode cX0_holds 0 = .ok (.aload_n 0, 1)) ∧ (decode cX0_holds 1 = .ok (.getfield 35, 3)) ∧ (decode cX0_holds 4 = .ok (.ifCond .eq 29, 3)) ∧ (decode cX0_holds 7 = .ok (.aload_n 0, 1)) ∧ (decode cX0_holds 8 = .ok (.getfield 21, 3)) ∧ (decode cX0_holds 11 = .ok (.iload_n 1, 1)) ∧ (decode cX0_holds 12 = .ok (.baload, 1)) ∧ (decode cX0_holds 13 = .ok (.ifCond .ne 20, 3)) ∧ (decode cX0_holds 16 = .ok (.aload_n 0, 1)) ∧ (decode cX0_holds 17 = .ok (.getfield 25, 3)) ∧ (decode cX0_holds 20 = .ok (.iload_n 1, 1)) ∧ (decode cX0_holds 21 = .ok (.iaload, 1)) := by decide +kernel
theorem dX0_holds_0 : decode cX0_holds 0 = .ok (.aload_n 0, 1) := gX0_holds_0.1
theorem dX0_holds_1 : decode cX0_holds 1 = .ok (.getfield 35, 3) := gX0_holds_0.2.1
theorem dX0_holds_4 : decode cX0_holds 4 = .ok (.ifCond .eq 29, 3) := gX0_holds_0.2.2.1
theorem dX0_holds_7 : decode cX0_holds 7 = .ok (.aload_n 0, 1) := gX0_holds_0.2.2.2.1
theorem dX0_holds_8 : decode cX0_holds 8 = .ok (.getfield 21, 3) := gX0_holds_0.2.2.2.2.1
theorem dX0_holds_11 : decode cX0_holds 11 = .ok (.iload_n 1, 1) := gX0_holds_0.2.2.2.2.2.1
theorem dX0_holds_12 : decode cX0_holds 12 = .ok (.baload, 1) := gX0_holds_0.2.2.2.2.2.2.1
theorem dX0_holds_13 : decode cX0_holds 13 = .ok (.ifCond .ne 20, 3) := gX0_holds_0.2.2.2.2.2.2.2.1
theorem dX0_holds_16 : decode cX0_holds 16 = .ok (.aload_n 0, 1) := gX0_holds_0.2.2.2.2.2.2.2.2.1
theorem dX0_holds_17 : decode cX0_holds 17 = .ok (.getfield 25, 3) := gX0_holds_0.2.2.2.2.2.2.2.2.2.1
theorem dX0_holds_20 : decode cX0_holds 20 = .ok (.iload_n 1, 1) := gX0_holds_0.2.2.2.2.2.2.2.2.2.2.1
theorem dX0_holds_21 : decode cX0_holds 21 = .ok (.iaload, 1) := gX0_holds_0.2.2.2.2.2.2.2.2.2.2.2
theorem gX0_holds_12 : (decode cX0_holds 22 = .ok (.aload_n 0, 1)) ∧ (decode cX0_holds 23 = .ok (.getfield 43, 3)) ∧ (decode cX0_holds 26 = .ok (.if_icmp .ne 7, 3)) ∧ (decode cX0_holds 29 = .ok (.iconst 1, 1)) ∧ (decode cX0_holds 30 = .ok (.goto 4, 3)) ∧ (decode cX0_holds 33 = .ok (.iconst 0, 1)) ∧ (decode cX0_holds 34 = .ok (.ireturn, 1)) := by decide +kernel
theorem dX0_holds_22 : decode cX0_holds 22 = .ok (.aload_n 0, 1) := gX0_holds_12.1
theorem dX0_holds_23 : decode cX0_holds 23 = .ok (.getfield 43, 3) := gX0_holds_12.2.1
theorem dX0_holds_26 : decode cX0_holds 26 = .ok (.if_icmp .ne 7, 3) := gX0_holds_12.2.2.1
theorem dX0_holds_29 : decode cX0_holds 29 = .ok (.iconst 1, 1) := gX0_holds_12.2.2.2.1
theorem dX0_holds_30 : decode cX0_holds 30 = .ok (.goto 4, 3) := gX0_holds_12.2.2.2.2.1
theorem dX0_holds_33 : decode cX0_holds 33 = .ok (.iconst 0, 1) := gX0_holds_12.2.2.2.2.2.1
theorem dX0_holds_34 : decode cX0_holds 34 = .ok (.ireturn, 1) := gX0_holds_12.2.2.2.2.2.2
theorem gX0_countHolding_0 : (decode cX0_countHolding 0 = .ok (.iconst 0, 1)) ∧ (decode cX0_countHolding 1 = .ok (.istore_n 1, 1)) ∧ (decode cX0_countHolding 2 = .ok (.iconst 0, 1)) ∧ (decode cX0_countHolding 3 = .ok (.istore_n 2, 1)) ∧ (decode cX0_countHolding 4 = .ok (.iload_n 2, 1)) ∧ (decode cX0_countHolding 5 = .ok (.aload_n 0, 1)) ∧ (decode cX0_countHolding 6 = .ok (.getfield 46, 3)) ∧ (decode cX0_countHolding 9 = .ok (.if_icmp .ge 26, 3)) ∧ (decode cX0_countHolding 12 = .ok (.iload_n 2, 1)) ∧ (decode cX0_countHolding 13 = .ok (.bipush 20, 2)) ∧ (decode cX0_countHolding 15 = .ok (.if_icmp .ge 20, 3)) ∧ (decode cX0_countHolding 18 = .ok (.aload_n 0, 1)) := by decide +kernel
theorem dX0_countHolding_0 : decode cX0_countHolding 0 = .ok (.iconst 0, 1) := gX0_countHolding_0.1
theorem dX0_countHolding_1 : decode cX0_countHolding 1 = .ok (.istore_n 1, 1) := gX0_countHolding_0.2.1
theorem dX0_countHolding_2 : decode cX0_countHolding 2 = .ok (.iconst 0, 1) := gX0_countHolding_0.2.2.1
theorem dX0_countHolding_3 : decode cX0_countHolding 3 = .ok (.istore_n 2, 1) := gX0_countHolding_0.2.2.2.1
theorem dX0_countHolding_4 : decode cX0_countHolding 4 = .ok (.iload_n 2, 1) := gX0_countHolding_0.2.2.2.2.1
theorem dX0_countHolding_5 : decode cX0_countHolding 5 = .ok (.aload_n 0, 1) := gX0_countHolding_0.2.2.2.2.2.1
theorem dX0_countHolding_6 : decode cX0_countHolding 6 = .ok (.getfield 46, 3) := gX0_countHolding_0.2.2.2.2.2.2.1
theorem dX0_countHolding_9 : decode cX0_countHolding 9 = .ok (.if_icmp .ge 26, 3) := gX0_countHolding_0.2.2.2.2.2.2.2.1
theorem dX0_countHolding_12 : decode cX0_countHolding 12 = .ok (.iload_n 2, 1) := gX0_countHolding_0.2.2.2.2.2.2.2.2.1
theorem dX0_countHolding_13 : decode cX0_countHolding 13 = .ok (.bipush 20, 2) := gX0_countHolding_0.2.2.2.2.2.2.2.2.2.1
theorem dX0_countHolding_15 : decode cX0_countHolding 15 = .ok (.if_icmp .ge 20, 3) := gX0_countHolding_0.2.2.2.2.2.2.2.2.2.2.1
theorem dX0_countHolding_18 : decode cX0_countHolding 18 = .ok (.aload_n 0, 1) := gX0_countHolding_0.2.2.2.2.2.2.2.2.2.2.2
theorem gX0_countHolding_12 : (decode cX0_countHolding 19 = .ok (.iload_n 2, 1)) ∧ (decode cX0_countHolding 20 = .ok (.invokevirtual 49, 3)) ∧ (decode cX0_countHolding 23 = .ok (.ifCond .eq 6, 3)) ∧ (decode cX0_countHolding 26 = .ok (.iinc 1 1, 3)) ∧ (decode cX0_countHolding 29 = .ok (.iinc 2 1, 3)) ∧ (decode cX0_countHolding 32 = .ok (.goto (-28), 3)) ∧ (decode cX0_countHolding 35 = .ok (.iload_n 1, 1)) ∧ (decode cX0_countHolding 36 = .ok (.ireturn, 1)) := by decide +kernel
theorem dX0_countHolding_19 : decode cX0_countHolding 19 = .ok (.iload_n 2, 1) := gX0_countHolding_12.1
theorem dX0_countHolding_20 : decode cX0_countHolding 20 = .ok (.invokevirtual 49, 3) := gX0_countHolding_12.2.1
theorem dX0_countHolding_23 : decode cX0_countHolding 23 = .ok (.ifCond .eq 6, 3) := gX0_countHolding_12.2.2.1
theorem dX0_countHolding_26 : decode cX0_countHolding 26 = .ok (.iinc 1 1, 3) := gX0_countHolding_12.2.2.2.1
theorem dX0_countHolding_29 : decode cX0_countHolding 29 = .ok (.iinc 2 1, 3) := gX0_countHolding_12.2.2.2.2.1
theorem dX0_countHolding_32 : decode cX0_countHolding 32 = .ok (.goto (-28), 3) := gX0_countHolding_12.2.2.2.2.2.1
theorem dX0_countHolding_35 : decode cX0_countHolding 35 = .ok (.iload_n 1, 1) := gX0_countHolding_12.2.2.2.2.2.2.1
theorem dX0_countHolding_36 : decode cX0_countHolding 36 = .ok (.ireturn, 1) := gX0_countHolding_12.2.2.2.2.2.2.2
theorem gX0_addChange_0 : (decode cX0_addChange 0 = .ok (.aload_n 0, 1)) ∧ (decode cX0_addChange 1 = .ok (.getfield 31, 3)) ∧ (decode cX0_addChange 4 = .ok (.iload_n 1, 1)) ∧ (decode cX0_addChange 5 = .ok (.laload, 1)) ∧ (decode cX0_addChange 6 = .ok (.iload_n 2, 1)) ∧ (decode cX0_addChange 7 = .ok (.i2l, 1)) ∧ (decode cX0_addChange 8 = .ok (.ladd, 1)) ∧ (decode cX0_addChange 9 = .ok (.lstore 4, 2)) ∧ (decode cX0_addChange 11 = .ok (.lload 4, 2)) ∧ (decode cX0_addChange 13 = .ok (.ldc2_w 53, 3)) ∧ (decode cX0_addChange 16 = .ok (.lmul, 1)) ∧ (decode cX0_addChange 17 = .ok (.iload_n 3, 1)) := by decide +kernel
theorem dX0_addChange_0 : decode cX0_addChange 0 = .ok (.aload_n 0, 1) := gX0_addChange_0.1
theorem dX0_addChange_1 : decode cX0_addChange 1 = .ok (.getfield 31, 3) := gX0_addChange_0.2.1
theorem dX0_addChange_4 : decode cX0_addChange 4 = .ok (.iload_n 1, 1) := gX0_addChange_0.2.2.1
theorem dX0_addChange_5 : decode cX0_addChange 5 = .ok (.laload, 1) := gX0_addChange_0.2.2.2.1
theorem dX0_addChange_6 : decode cX0_addChange 6 = .ok (.iload_n 2, 1) := gX0_addChange_0.2.2.2.2.1
theorem dX0_addChange_7 : decode cX0_addChange 7 = .ok (.i2l, 1) := gX0_addChange_0.2.2.2.2.2.1
theorem dX0_addChange_8 : decode cX0_addChange 8 = .ok (.ladd, 1) := gX0_addChange_0.2.2.2.2.2.2.1
theorem dX0_addChange_9 : decode cX0_addChange 9 = .ok (.lstore 4, 2) := gX0_addChange_0.2.2.2.2.2.2.2.1
theorem dX0_addChange_11 : decode cX0_addChange 11 = .ok (.lload 4, 2) := gX0_addChange_0.2.2.2.2.2.2.2.2.1
theorem dX0_addChange_13 : decode cX0_addChange 13 = .ok (.ldc2_w 53, 3) := gX0_addChange_0.2.2.2.2.2.2.2.2.2.1
theorem dX0_addChange_16 : decode cX0_addChange 16 = .ok (.lmul, 1) := gX0_addChange_0.2.2.2.2.2.2.2.2.2.2.1
theorem dX0_addChange_17 : decode cX0_addChange 17 = .ok (.iload_n 3, 1) := gX0_addChange_0.2.2.2.2.2.2.2.2.2.2.2
theorem gX0_addChange_12 : (decode cX0_addChange 18 = .ok (.i2l, 1)) ∧ (decode cX0_addChange 19 = .ok (.aload_n 0, 1)) ∧ (decode cX0_addChange 20 = .ok (.getfield 28, 3)) ∧ (decode cX0_addChange 23 = .ok (.iload_n 1, 1)) ∧ (decode cX0_addChange 24 = .ok (.iaload, 1)) ∧ (decode cX0_addChange 25 = .ok (.i2l, 1)) ∧ (decode cX0_addChange 26 = .ok (.lmul, 1)) ∧ (decode cX0_addChange 27 = .ok (.lcmp, 1)) ∧ (decode cX0_addChange 28 = .ok (.ifCond .le 6, 3)) ∧ (decode cX0_addChange 31 = .ok (.bipush (-9), 2)) ∧ (decode cX0_addChange 33 = .ok (.ireturn, 1)) ∧ (decode cX0_addChange 34 = .ok (.aload_n 0, 1)) := by decide +kernel
theorem dX0_addChange_18 : decode cX0_addChange 18 = .ok (.i2l, 1) := gX0_addChange_12.1
theorem dX0_addChange_19 : decode cX0_addChange 19 = .ok (.aload_n 0, 1) := gX0_addChange_12.2.1
theorem dX0_addChange_20 : decode cX0_addChange 20 = .ok (.getfield 28, 3) := gX0_addChange_12.2.2.1
theorem dX0_addChange_23 : decode cX0_addChange 23 = .ok (.iload_n 1, 1) := gX0_addChange_12.2.2.2.1
theorem dX0_addChange_24 : decode cX0_addChange 24 = .ok (.iaload, 1) := gX0_addChange_12.2.2.2.2.1
theorem dX0_addChange_25 : decode cX0_addChange 25 = .ok (.i2l, 1) := gX0_addChange_12.2.2.2.2.2.1
theorem dX0_addChange_26 : decode cX0_addChange 26 = .ok (.lmul, 1) := gX0_addChange_12.2.2.2.2.2.2.1
theorem dX0_addChange_27 : decode cX0_addChange 27 = .ok (.lcmp, 1) := gX0_addChange_12.2.2.2.2.2.2.2.1
theorem dX0_addChange_28 : decode cX0_addChange 28 = .ok (.ifCond .le 6, 3) := gX0_addChange_12.2.2.2.2.2.2.2.2.1
theorem dX0_addChange_31 : decode cX0_addChange 31 = .ok (.bipush (-9), 2) := gX0_addChange_12.2.2.2.2.2.2.2.2.2.1
theorem dX0_addChange_33 : decode cX0_addChange 33 = .ok (.ireturn, 1) := gX0_addChange_12.2.2.2.2.2.2.2.2.2.2.1
theorem dX0_addChange_34 : decode cX0_addChange 34 = .ok (.aload_n 0, 1) := gX0_addChange_12.2.2.2.2.2.2.2.2.2.2.2
theorem gX0_addChange_24 : (decode cX0_addChange 35 = .ok (.getfield 31, 3)) ∧ (decode cX0_addChange 38 = .ok (.iload_n 1, 1)) ∧ (decode cX0_addChange 39 = .ok (.lload 4, 2)) ∧ (decode cX0_addChange 41 = .ok (.lastore, 1)) ∧ (decode cX0_addChange 42 = .ok (.lload 4, 2)) ∧ (decode cX0_addChange 44 = .ok (.l2i, 1)) ∧ (decode cX0_addChange 45 = .ok (.ireturn, 1)) := by decide +kernel
theorem dX0_addChange_35 : decode cX0_addChange 35 = .ok (.getfield 31, 3) := gX0_addChange_24.1
theorem dX0_addChange_38 : decode cX0_addChange 38 = .ok (.iload_n 1, 1) := gX0_addChange_24.2.1
theorem dX0_addChange_39 : decode cX0_addChange 39 = .ok (.lload 4, 2) := gX0_addChange_24.2.2.1
theorem dX0_addChange_41 : decode cX0_addChange 41 = .ok (.lastore, 1) := gX0_addChange_24.2.2.2.1
theorem dX0_addChange_42 : decode cX0_addChange 42 = .ok (.lload 4, 2) := gX0_addChange_24.2.2.2.2.1
theorem dX0_addChange_44 : decode cX0_addChange 44 = .ok (.l2i, 1) := gX0_addChange_24.2.2.2.2.2.1
theorem dX0_addChange_45 : decode cX0_addChange 45 = .ok (.ireturn, 1) := gX0_addChange_24.2.2.2.2.2.2
theorem gX1_init_0 : (decode cX1_init 0 = .ok (.aload_n 0, 1)) ∧ (decode cX1_init 1 = .ok (.invokespecial 3, 3)) ∧ (decode cX1_init 4 = .ok (.aload_n 0, 1)) ∧ (decode cX1_init 5 = .ok (.iconst 4, 1)) ∧ (decode cX1_init 6 = .ok (.newarray .int, 2)) ∧ (decode cX1_init 8 = .ok (.dup, 1)) ∧ (decode cX1_init 9 = .ok (.iconst 0, 1)) ∧ (decode cX1_init 10 = .ok (.iconst 0, 1)) ∧ (decode cX1_init 11 = .ok (.iastore, 1)) ∧ (decode cX1_init 12 = .ok (.dup, 1)) ∧ (decode cX1_init 13 = .ok (.iconst 1, 1)) ∧ (decode cX1_init 14 = .ok (.iconst 0, 1)) := by decide +kernel
theorem dX1_init_0 : decode cX1_init 0 = .ok (.aload_n 0, 1) := gX1_init_0.1
theorem dX1_init_1 : decode cX1_init 1 = .ok (.invokespecial 3, 3) := gX1_init_0.2.1
theorem dX1_init_4 : decode cX1_init 4 = .ok (.aload_n 0, 1) := gX1_init_0.2.2.1
theorem dX1_init_5 : decode cX1_init 5 = .ok (.iconst 4, 1) := gX1_init_0.2.2.2.1
theorem dX1_init_6 : decode cX1_init 6 = .ok (.newarray .int, 2) := gX1_init_0.2.2.2.2.1
theorem dX1_init_8 : decode cX1_init 8 = .ok (.dup, 1) := gX1_init_0.2.2.2.2.2.1
theorem dX1_init_9 : decode cX1_init 9 = .ok (.iconst 0, 1) := gX1_init_0.2.2.2.2.2.2.1
theorem dX1_init_10 : decode cX1_init 10 = .ok (.iconst 0, 1) := gX1_init_0.2.2.2.2.2.2.2.1
theorem dX1_init_11 : decode cX1_init 11 = .ok (.iastore, 1) := gX1_init_0.2.2.2.2.2.2.2.2.1
theorem dX1_init_12 : decode cX1_init 12 = .ok (.dup, 1) := gX1_init_0.2.2.2.2.2.2.2.2.2.1
theorem dX1_init_13 : decode cX1_init 13 = .ok (.iconst 1, 1) := gX1_init_0.2.2.2.2.2.2.2.2.2.2.1
theorem dX1_init_14 : decode cX1_init 14 = .ok (.iconst 0, 1) := gX1_init_0.2.2.2.2.2.2.2.2.2.2.2
theorem gX1_init_12 : (decode cX1_init 15 = .ok (.iastore, 1)) ∧ (decode cX1_init 16 = .ok (.dup, 1)) ∧ (decode cX1_init 17 = .ok (.iconst 2, 1)) ∧ (decode cX1_init 18 = .ok (.iconst 0, 1)) ∧ (decode cX1_init 19 = .ok (.iastore, 1)) ∧ (decode cX1_init 20 = .ok (.dup, 1)) ∧ (decode cX1_init 21 = .ok (.iconst 3, 1)) ∧ (decode cX1_init 22 = .ok (.bipush 50, 2)) ∧ (decode cX1_init 24 = .ok (.iastore, 1)) ∧ (decode cX1_init 25 = .ok (.putfield 9, 3)) ∧ (decode cX1_init 28 = .ok (.aload_n 0, 1)) ∧ (decode cX1_init 29 = .ok (.iconst 4, 1)) := by decide +kernel
theorem dX1_init_15 : decode cX1_init 15 = .ok (.iastore, 1) := gX1_init_12.1
theorem dX1_init_16 : decode cX1_init 16 = .ok (.dup, 1) := gX1_init_12.2.1
theorem dX1_init_17 : decode cX1_init 17 = .ok (.iconst 2, 1) := gX1_init_12.2.2.1
theorem dX1_init_18 : decode cX1_init 18 = .ok (.iconst 0, 1) := gX1_init_12.2.2.2.1
theorem dX1_init_19 : decode cX1_init 19 = .ok (.iastore, 1) := gX1_init_12.2.2.2.2.1
theorem dX1_init_20 : decode cX1_init 20 = .ok (.dup, 1) := gX1_init_12.2.2.2.2.2.1
theorem dX1_init_21 : decode cX1_init 21 = .ok (.iconst 3, 1) := gX1_init_12.2.2.2.2.2.2.1
theorem dX1_init_22 : decode cX1_init 22 = .ok (.bipush 50, 2) := gX1_init_12.2.2.2.2.2.2.2.1
theorem dX1_init_24 : decode cX1_init 24 = .ok (.iastore, 1) := gX1_init_12.2.2.2.2.2.2.2.2.1
theorem dX1_init_25 : decode cX1_init 25 = .ok (.putfield 9, 3) := gX1_init_12.2.2.2.2.2.2.2.2.2.1
theorem dX1_init_28 : decode cX1_init 28 = .ok (.aload_n 0, 1) := gX1_init_12.2.2.2.2.2.2.2.2.2.2.1
theorem dX1_init_29 : decode cX1_init 29 = .ok (.iconst 4, 1) := gX1_init_12.2.2.2.2.2.2.2.2.2.2.2
theorem gX1_init_24 : (decode cX1_init 30 = .ok (.newarray .int, 2)) ∧ (decode cX1_init 32 = .ok (.dup, 1)) ∧ (decode cX1_init 33 = .ok (.iconst 0, 1)) ∧ (decode cX1_init 34 = .ok (.sipush 1000, 3)) ∧ (decode cX1_init 37 = .ok (.iastore, 1)) ∧ (decode cX1_init 38 = .ok (.dup, 1)) ∧ (decode cX1_init 39 = .ok (.iconst 1, 1)) ∧ (decode cX1_init 40 = .ok (.sipush 1000, 3)) ∧ (decode cX1_init 43 = .ok (.iastore, 1)) ∧ (decode cX1_init 44 = .ok (.dup, 1)) ∧ (decode cX1_init 45 = .ok (.iconst 2, 1)) ∧ (decode cX1_init 46 = .ok (.sipush 1000, 3)) := by decide +kernel
theorem dX1_init_30 : decode cX1_init 30 = .ok (.newarray .int, 2) := gX1_init_24.1
theorem dX1_init_32 : decode cX1_init 32 = .ok (.dup, 1) := gX1_init_24.2.1
theorem dX1_init_33 : decode cX1_init 33 = .ok (.iconst 0, 1) := gX1_init_24.2.2.1
theorem dX1_init_34 : decode cX1_init 34 = .ok (.sipush 1000, 3) := gX1_init_24.2.2.2.1
theorem dX1_init_37 : decode cX1_init 37 = .ok (.iastore, 1) := gX1_init_24.2.2.2.2.1
theorem dX1_init_38 : decode cX1_init 38 = .ok (.dup, 1) := gX1_init_24.2.2.2.2.2.1
theorem dX1_init_39 : decode cX1_init 39 = .ok (.iconst 1, 1) := gX1_init_24.2.2.2.2.2.2.1
theorem dX1_init_40 : decode cX1_init 40 = .ok (.sipush 1000, 3) := gX1_init_24.2.2.2.2.2.2.2.1
theorem dX1_init_43 : decode cX1_init 43 = .ok (.iastore, 1) := gX1_init_24.2.2.2.2.2.2.2.2.1
theorem dX1_init_44 : decode cX1_init 44 = .ok (.dup, 1) := gX1_init_24.2.2.2.2.2.2.2.2.2.1
theorem dX1_init_45 : decode cX1_init 45 = .ok (.iconst 2, 1) := gX1_init_24.2.2.2.2.2.2.2.2.2.2.1
theorem dX1_init_46 : decode cX1_init 46 = .ok (.sipush 1000, 3) := gX1_init_24.2.2.2.2.2.2.2.2.2.2.2
theorem gX1_init_36 : (decode cX1_init 49 = .ok (.iastore, 1)) ∧ (decode cX1_init 50 = .ok (.dup, 1)) ∧ (decode cX1_init 51 = .ok (.iconst 3, 1)) ∧ (decode cX1_init 52 = .ok (.sipush 1000, 3)) ∧ (decode cX1_init 55 = .ok (.iastore, 1)) ∧ (decode cX1_init 56 = .ok (.putfield 15, 3)) ∧ (decode cX1_init 59 = .ok (.aload_n 0, 1)) ∧ (decode cX1_init 60 = .ok (.bipush 48, 2)) ∧ (decode cX1_init 62 = .ok (.newarray .boolean, 2)) ∧ (decode cX1_init 64 = .ok (.putfield 18, 3)) ∧ (decode cX1_init 67 = .ok (.aload_n 0, 1)) ∧ (decode cX1_init 68 = .ok (.bipush 48, 2)) := by decide +kernel
theorem dX1_init_49 : decode cX1_init 49 = .ok (.iastore, 1) := gX1_init_36.1
theorem dX1_init_50 : decode cX1_init 50 = .ok (.dup, 1) := gX1_init_36.2.1
theorem dX1_init_51 : decode cX1_init 51 = .ok (.iconst 3, 1) := gX1_init_36.2.2.1
theorem dX1_init_52 : decode cX1_init 52 = .ok (.sipush 1000, 3) := gX1_init_36.2.2.2.1
theorem dX1_init_55 : decode cX1_init 55 = .ok (.iastore, 1) := gX1_init_36.2.2.2.2.1
theorem dX1_init_56 : decode cX1_init 56 = .ok (.putfield 15, 3) := gX1_init_36.2.2.2.2.2.1
theorem dX1_init_59 : decode cX1_init 59 = .ok (.aload_n 0, 1) := gX1_init_36.2.2.2.2.2.2.1
theorem dX1_init_60 : decode cX1_init 60 = .ok (.bipush 48, 2) := gX1_init_36.2.2.2.2.2.2.2.1
theorem dX1_init_62 : decode cX1_init 62 = .ok (.newarray .boolean, 2) := gX1_init_36.2.2.2.2.2.2.2.2.1
theorem dX1_init_64 : decode cX1_init 64 = .ok (.putfield 18, 3) := gX1_init_36.2.2.2.2.2.2.2.2.2.1
theorem dX1_init_67 : decode cX1_init 67 = .ok (.aload_n 0, 1) := gX1_init_36.2.2.2.2.2.2.2.2.2.2.1
theorem dX1_init_68 : decode cX1_init 68 = .ok (.bipush 48, 2) := gX1_init_36.2.2.2.2.2.2.2.2.2.2.2
theorem gX1_init_48 : (decode cX1_init 70 = .ok (.newarray .boolean, 2)) ∧ (decode cX1_init 72 = .ok (.putfield 22, 3)) ∧ (decode cX1_init 75 = .ok (.aload_n 0, 1)) ∧ (decode cX1_init 76 = .ok (.bipush 48, 2)) ∧ (decode cX1_init 78 = .ok (.newarray .int, 2)) ∧ (decode cX1_init 80 = .ok (.putfield 25, 3)) ∧ (decode cX1_init 83 = .ok (.aload_n 0, 1)) ∧ (decode cX1_init 84 = .ok (.sipush 192, 3)) ∧ (decode cX1_init 87 = .ok (.newarray .int, 2)) ∧ (decode cX1_init 89 = .ok (.putfield 28, 3)) ∧ (decode cX1_init 92 = .ok (.aload_n 0, 1)) ∧ (decode cX1_init 93 = .ok (.bipush 48, 2)) := by decide +kernel
theorem dX1_init_70 : decode cX1_init 70 = .ok (.newarray .boolean, 2) := gX1_init_48.1
theorem dX1_init_72 : decode cX1_init 72 = .ok (.putfield 22, 3) := gX1_init_48.2.1
theorem dX1_init_75 : decode cX1_init 75 = .ok (.aload_n 0, 1) := gX1_init_48.2.2.1
theorem dX1_init_76 : decode cX1_init 76 = .ok (.bipush 48, 2) := gX1_init_48.2.2.2.1
theorem dX1_init_78 : decode cX1_init 78 = .ok (.newarray .int, 2) := gX1_init_48.2.2.2.2.1
theorem dX1_init_80 : decode cX1_init 80 = .ok (.putfield 25, 3) := gX1_init_48.2.2.2.2.2.1
theorem dX1_init_83 : decode cX1_init 83 = .ok (.aload_n 0, 1) := gX1_init_48.2.2.2.2.2.2.1
theorem dX1_init_84 : decode cX1_init 84 = .ok (.sipush 192, 3) := gX1_init_48.2.2.2.2.2.2.2.1
theorem dX1_init_87 : decode cX1_init 87 = .ok (.newarray .int, 2) := gX1_init_48.2.2.2.2.2.2.2.2.1
theorem dX1_init_89 : decode cX1_init 89 = .ok (.putfield 28, 3) := gX1_init_48.2.2.2.2.2.2.2.2.2.1
theorem dX1_init_92 : decode cX1_init 92 = .ok (.aload_n 0, 1) := gX1_init_48.2.2.2.2.2.2.2.2.2.2.1
theorem dX1_init_93 : decode cX1_init 93 = .ok (.bipush 48, 2) := gX1_init_48.2.2.2.2.2.2.2.2.2.2.2
theorem gX1_init_60 : (decode cX1_init 95 = .ok (.newarray .int, 2)) ∧ (decode cX1_init 97 = .ok (.putfield 31, 3)) ∧ (decode cX1_init 100 = .ok (.aload_n 0, 1)) ∧ (decode cX1_init 101 = .ok (.bipush 48, 2)) ∧ (decode cX1_init 103 = .ok (.newarray .int, 2)) ∧ (decode cX1_init 105 = .ok (.putfield 34, 3)) ∧ (decode cX1_init 108 = .ok (.aload_n 0, 1)) ∧ (decode cX1_init 109 = .ok (.bipush 48, 2)) ∧ (decode cX1_init 111 = .ok (.newarray .int, 2)) ∧ (decode cX1_init 113 = .ok (.putfield 37, 3)) ∧ (decode cX1_init 116 = .ok (.aload_n 0, 1)) ∧ (decode cX1_init 117 = .ok (.iconst (-1), 1)) := by decide +kernel
theorem dX1_init_95 : decode cX1_init 95 = .ok (.newarray .int, 2) := gX1_init_60.1
theorem dX1_init_97 : decode cX1_init 97 = .ok (.putfield 31, 3) := gX1_init_60.2.1
theorem dX1_init_100 : decode cX1_init 100 = .ok (.aload_n 0, 1) := gX1_init_60.2.2.1
theorem dX1_init_101 : decode cX1_init 101 = .ok (.bipush 48, 2) := gX1_init_60.2.2.2.1
theorem dX1_init_103 : decode cX1_init 103 = .ok (.newarray .int, 2) := gX1_init_60.2.2.2.2.1
theorem dX1_init_105 : decode cX1_init 105 = .ok (.putfield 34, 3) := gX1_init_60.2.2.2.2.2.1
theorem dX1_init_108 : decode cX1_init 108 = .ok (.aload_n 0, 1) := gX1_init_60.2.2.2.2.2.2.1
theorem dX1_init_109 : decode cX1_init 109 = .ok (.bipush 48, 2) := gX1_init_60.2.2.2.2.2.2.2.1
theorem dX1_init_111 : decode cX1_init 111 = .ok (.newarray .int, 2) := gX1_init_60.2.2.2.2.2.2.2.2.1
theorem dX1_init_113 : decode cX1_init 113 = .ok (.putfield 37, 3) := gX1_init_60.2.2.2.2.2.2.2.2.2.1
theorem dX1_init_116 : decode cX1_init 116 = .ok (.aload_n 0, 1) := gX1_init_60.2.2.2.2.2.2.2.2.2.2.1
theorem dX1_init_117 : decode cX1_init 117 = .ok (.iconst (-1), 1) := gX1_init_60.2.2.2.2.2.2.2.2.2.2.2
theorem gX1_init_72 : (decode cX1_init 118 = .ok (.putfield 40, 3)) ∧ (decode cX1_init 121 = .ok (.aload_n 0, 1)) ∧ (decode cX1_init 122 = .ok (.iconst 1, 1)) ∧ (decode cX1_init 123 = .ok (.putfield 44, 3)) ∧ (decode cX1_init 126 = .ok (.return_, 1)) := by decide +kernel
theorem dX1_init_118 : decode cX1_init 118 = .ok (.putfield 40, 3) := gX1_init_72.1
theorem dX1_init_121 : decode cX1_init 121 = .ok (.aload_n 0, 1) := gX1_init_72.2.1
theorem dX1_init_122 : decode cX1_init 122 = .ok (.iconst 1, 1) := gX1_init_72.2.2.1
theorem dX1_init_123 : decode cX1_init 123 = .ok (.putfield 44, 3) := gX1_init_72.2.2.2.1
theorem dX1_init_126 : decode cX1_init 126 = .ok (.return_, 1) := gX1_init_72.2.2.2.2
theorem gX1_isOpen_0 : (decode cX1_isOpen 0 = .ok (.aload_n 0, 1)) ∧ (decode cX1_isOpen 1 = .ok (.getfield 40, 3)) ∧ (decode cX1_isOpen 4 = .ok (.iconst (-1), 1)) ∧ (decode cX1_isOpen 5 = .ok (.if_icmp .eq 14, 3)) ∧ (decode cX1_isOpen 8 = .ok (.aload_n 0, 1)) ∧ (decode cX1_isOpen 9 = .ok (.getfield 47, 3)) ∧ (decode cX1_isOpen 12 = .ok (.aload_n 0, 1)) ∧ (decode cX1_isOpen 13 = .ok (.getfield 40, 3)) ∧ (decode cX1_isOpen 16 = .ok (.if_icmp .gt 7, 3)) ∧ (decode cX1_isOpen 19 = .ok (.iconst 1, 1)) ∧ (decode cX1_isOpen 20 = .ok (.goto 4, 3)) ∧ (decode cX1_isOpen 23 = .ok (.iconst 0, 1)) := by decide +kernel
theorem dX1_isOpen_0 : decode cX1_isOpen 0 = .ok (.aload_n 0, 1) := gX1_isOpen_0.1
theorem dX1_isOpen_1 : decode cX1_isOpen 1 = .ok (.getfield 40, 3) := gX1_isOpen_0.2.1
theorem dX1_isOpen_4 : decode cX1_isOpen 4 = .ok (.iconst (-1), 1) := gX1_isOpen_0.2.2.1
theorem dX1_isOpen_5 : decode cX1_isOpen 5 = .ok (.if_icmp .eq 14, 3) := gX1_isOpen_0.2.2.2.1
theorem dX1_isOpen_8 : decode cX1_isOpen 8 = .ok (.aload_n 0, 1) := gX1_isOpen_0.2.2.2.2.1
theorem dX1_isOpen_9 : decode cX1_isOpen 9 = .ok (.getfield 47, 3) := gX1_isOpen_0.2.2.2.2.2.1
theorem dX1_isOpen_12 : decode cX1_isOpen 12 = .ok (.aload_n 0, 1) := gX1_isOpen_0.2.2.2.2.2.2.1
theorem dX1_isOpen_13 : decode cX1_isOpen 13 = .ok (.getfield 40, 3) := gX1_isOpen_0.2.2.2.2.2.2.2.1
theorem dX1_isOpen_16 : decode cX1_isOpen 16 = .ok (.if_icmp .gt 7, 3) := gX1_isOpen_0.2.2.2.2.2.2.2.2.1
theorem dX1_isOpen_19 : decode cX1_isOpen 19 = .ok (.iconst 1, 1) := gX1_isOpen_0.2.2.2.2.2.2.2.2.2.1
theorem dX1_isOpen_20 : decode cX1_isOpen 20 = .ok (.goto 4, 3) := gX1_isOpen_0.2.2.2.2.2.2.2.2.2.2.1
theorem dX1_isOpen_23 : decode cX1_isOpen 23 = .ok (.iconst 0, 1) := gX1_isOpen_0.2.2.2.2.2.2.2.2.2.2.2
theorem gX1_isOpen_12 : (decode cX1_isOpen 24 = .ok (.ireturn, 1)) := by decide +kernel
theorem dX1_isOpen_24 : decode cX1_isOpen 24 = .ok (.ireturn, 1) := gX1_isOpen_12
theorem gX1_keepLots_0 : (decode cX1_keepLots 0 = .ok (.iconst 0, 1)) ∧ (decode cX1_keepLots 1 = .ok (.istore_n 2, 1)) ∧ (decode cX1_keepLots 2 = .ok (.iload_n 2, 1)) ∧ (decode cX1_keepLots 3 = .ok (.bipush 48, 2)) ∧ (decode cX1_keepLots 5 = .ok (.if_icmp .ge 22, 3)) ∧ (decode cX1_keepLots 8 = .ok (.iload_n 2, 1)) ∧ (decode cX1_keepLots 9 = .ok (.bipush 6, 2)) ∧ (decode cX1_keepLots 11 = .ok (.irem, 1)) ∧ (decode cX1_keepLots 12 = .ok (.iload_n 1, 1)) ∧ (decode cX1_keepLots 13 = .ok (.if_icmp .lt 8, 3)) ∧ (decode cX1_keepLots 16 = .ok (.aload_n 0, 1)) ∧ (decode cX1_keepLots 17 = .ok (.iload_n 2, 1)) := by decide +kernel
theorem dX1_keepLots_0 : decode cX1_keepLots 0 = .ok (.iconst 0, 1) := gX1_keepLots_0.1
theorem dX1_keepLots_1 : decode cX1_keepLots 1 = .ok (.istore_n 2, 1) := gX1_keepLots_0.2.1
theorem dX1_keepLots_2 : decode cX1_keepLots 2 = .ok (.iload_n 2, 1) := gX1_keepLots_0.2.2.1
theorem dX1_keepLots_3 : decode cX1_keepLots 3 = .ok (.bipush 48, 2) := gX1_keepLots_0.2.2.2.1
theorem dX1_keepLots_5 : decode cX1_keepLots 5 = .ok (.if_icmp .ge 22, 3) := gX1_keepLots_0.2.2.2.2.1
theorem dX1_keepLots_8 : decode cX1_keepLots 8 = .ok (.iload_n 2, 1) := gX1_keepLots_0.2.2.2.2.2.1
theorem dX1_keepLots_9 : decode cX1_keepLots 9 = .ok (.bipush 6, 2) := gX1_keepLots_0.2.2.2.2.2.2.1
theorem dX1_keepLots_11 : decode cX1_keepLots 11 = .ok (.irem, 1) := gX1_keepLots_0.2.2.2.2.2.2.2.1
theorem dX1_keepLots_12 : decode cX1_keepLots 12 = .ok (.iload_n 1, 1) := gX1_keepLots_0.2.2.2.2.2.2.2.2.1
theorem dX1_keepLots_13 : decode cX1_keepLots 13 = .ok (.if_icmp .lt 8, 3) := gX1_keepLots_0.2.2.2.2.2.2.2.2.2.1
theorem dX1_keepLots_16 : decode cX1_keepLots 16 = .ok (.aload_n 0, 1) := gX1_keepLots_0.2.2.2.2.2.2.2.2.2.2.1
theorem dX1_keepLots_17 : decode cX1_keepLots 17 = .ok (.iload_n 2, 1) := gX1_keepLots_0.2.2.2.2.2.2.2.2.2.2.2
theorem gX1_keepLots_12 : (decode cX1_keepLots 18 = .ok (.invokevirtual 50, 3)) ∧ (decode cX1_keepLots 21 = .ok (.iinc 2 1, 3)) ∧ (decode cX1_keepLots 24 = .ok (.goto (-22), 3)) ∧ (decode cX1_keepLots 27 = .ok (.aload_n 0, 1)) ∧ (decode cX1_keepLots 28 = .ok (.iload_n 1, 1)) ∧ (decode cX1_keepLots 29 = .ok (.putfield 44, 3)) ∧ (decode cX1_keepLots 32 = .ok (.return_, 1)) := by decide +kernel
theorem dX1_keepLots_18 : decode cX1_keepLots 18 = .ok (.invokevirtual 50, 3) := gX1_keepLots_12.1
theorem dX1_keepLots_21 : decode cX1_keepLots 21 = .ok (.iinc 2 1, 3) := gX1_keepLots_12.2.1
theorem dX1_keepLots_24 : decode cX1_keepLots 24 = .ok (.goto (-22), 3) := gX1_keepLots_12.2.2.1
theorem dX1_keepLots_27 : decode cX1_keepLots 27 = .ok (.aload_n 0, 1) := gX1_keepLots_12.2.2.2.1
theorem dX1_keepLots_28 : decode cX1_keepLots 28 = .ok (.iload_n 1, 1) := gX1_keepLots_12.2.2.2.2.1
theorem dX1_keepLots_29 : decode cX1_keepLots 29 = .ok (.putfield 44, 3) := gX1_keepLots_12.2.2.2.2.2.1
theorem dX1_keepLots_32 : decode cX1_keepLots 32 = .ok (.return_, 1) := gX1_keepLots_12.2.2.2.2.2.2
theorem gX1_drop_0 : (decode cX1_drop 0 = .ok (.aload_n 0, 1)) ∧ (decode cX1_drop 1 = .ok (.getfield 18, 3)) ∧ (decode cX1_drop 4 = .ok (.iload_n 1, 1)) ∧ (decode cX1_drop 5 = .ok (.iconst 0, 1)) ∧ (decode cX1_drop 6 = .ok (.bastore, 1)) ∧ (decode cX1_drop 7 = .ok (.aload_n 0, 1)) ∧ (decode cX1_drop 8 = .ok (.getfield 25, 3)) ∧ (decode cX1_drop 11 = .ok (.iload_n 1, 1)) ∧ (decode cX1_drop 12 = .ok (.iconst 0, 1)) ∧ (decode cX1_drop 13 = .ok (.iastore, 1)) ∧ (decode cX1_drop 14 = .ok (.return_, 1)) := by decide +kernel
theorem dX1_drop_0 : decode cX1_drop 0 = .ok (.aload_n 0, 1) := gX1_drop_0.1
theorem dX1_drop_1 : decode cX1_drop 1 = .ok (.getfield 18, 3) := gX1_drop_0.2.1
theorem dX1_drop_4 : decode cX1_drop 4 = .ok (.iload_n 1, 1) := gX1_drop_0.2.2.1
theorem dX1_drop_5 : decode cX1_drop 5 = .ok (.iconst 0, 1) := gX1_drop_0.2.2.2.1
theorem dX1_drop_6 : decode cX1_drop 6 = .ok (.bastore, 1) := gX1_drop_0.2.2.2.2.1
theorem dX1_drop_7 : decode cX1_drop 7 = .ok (.aload_n 0, 1) := gX1_drop_0.2.2.2.2.2.1
theorem dX1_drop_8 : decode cX1_drop 8 = .ok (.getfield 25, 3) := gX1_drop_0.2.2.2.2.2.2.1
theorem dX1_drop_11 : decode cX1_drop 11 = .ok (.iload_n 1, 1) := gX1_drop_0.2.2.2.2.2.2.2.1
theorem dX1_drop_12 : decode cX1_drop 12 = .ok (.iconst 0, 1) := gX1_drop_0.2.2.2.2.2.2.2.2.1
theorem dX1_drop_13 : decode cX1_drop 13 = .ok (.iastore, 1) := gX1_drop_0.2.2.2.2.2.2.2.2.2.1
theorem dX1_drop_14 : decode cX1_drop 14 = .ok (.return_, 1) := gX1_drop_0.2.2.2.2.2.2.2.2.2.2
theorem gX1_putTerms_0 : (decode cX1_putTerms 0 = .ok (.aload_n 0, 1)) ∧ (decode cX1_putTerms 1 = .ok (.getfield 18, 3)) ∧ (decode cX1_putTerms 4 = .ok (.iload_n 1, 1)) ∧ (decode cX1_putTerms 5 = .ok (.iconst 1, 1)) ∧ (decode cX1_putTerms 6 = .ok (.bastore, 1)) ∧ (decode cX1_putTerms 7 = .ok (.aload_n 0, 1)) ∧ (decode cX1_putTerms 8 = .ok (.getfield 31, 3)) ∧ (decode cX1_putTerms 11 = .ok (.iload_n 1, 1)) ∧ (decode cX1_putTerms 12 = .ok (.iload_n 2, 1)) ∧ (decode cX1_putTerms 13 = .ok (.iastore, 1)) ∧ (decode cX1_putTerms 14 = .ok (.aload_n 0, 1)) ∧ (decode cX1_putTerms 15 = .ok (.getfield 34, 3)) := by decide +kernel
theorem dX1_putTerms_0 : decode cX1_putTerms 0 = .ok (.aload_n 0, 1) := gX1_putTerms_0.1
theorem dX1_putTerms_1 : decode cX1_putTerms 1 = .ok (.getfield 18, 3) := gX1_putTerms_0.2.1
theorem dX1_putTerms_4 : decode cX1_putTerms 4 = .ok (.iload_n 1, 1) := gX1_putTerms_0.2.2.1
theorem dX1_putTerms_5 : decode cX1_putTerms 5 = .ok (.iconst 1, 1) := gX1_putTerms_0.2.2.2.1
theorem dX1_putTerms_6 : decode cX1_putTerms 6 = .ok (.bastore, 1) := gX1_putTerms_0.2.2.2.2.1
theorem dX1_putTerms_7 : decode cX1_putTerms 7 = .ok (.aload_n 0, 1) := gX1_putTerms_0.2.2.2.2.2.1
theorem dX1_putTerms_8 : decode cX1_putTerms 8 = .ok (.getfield 31, 3) := gX1_putTerms_0.2.2.2.2.2.2.1
theorem dX1_putTerms_11 : decode cX1_putTerms 11 = .ok (.iload_n 1, 1) := gX1_putTerms_0.2.2.2.2.2.2.2.1
theorem dX1_putTerms_12 : decode cX1_putTerms 12 = .ok (.iload_n 2, 1) := gX1_putTerms_0.2.2.2.2.2.2.2.2.1
theorem dX1_putTerms_13 : decode cX1_putTerms 13 = .ok (.iastore, 1) := gX1_putTerms_0.2.2.2.2.2.2.2.2.2.1
theorem dX1_putTerms_14 : decode cX1_putTerms 14 = .ok (.aload_n 0, 1) := gX1_putTerms_0.2.2.2.2.2.2.2.2.2.2.1
theorem dX1_putTerms_15 : decode cX1_putTerms 15 = .ok (.getfield 34, 3) := gX1_putTerms_0.2.2.2.2.2.2.2.2.2.2.2
theorem gX1_putTerms_12 : (decode cX1_putTerms 18 = .ok (.iload_n 1, 1)) ∧ (decode cX1_putTerms 19 = .ok (.iload_n 3, 1)) ∧ (decode cX1_putTerms 20 = .ok (.iastore, 1)) ∧ (decode cX1_putTerms 21 = .ok (.aload_n 0, 1)) ∧ (decode cX1_putTerms 22 = .ok (.getfield 37, 3)) ∧ (decode cX1_putTerms 25 = .ok (.iload_n 1, 1)) ∧ (decode cX1_putTerms 26 = .ok (.iload 4, 2)) ∧ (decode cX1_putTerms 28 = .ok (.iastore, 1)) ∧ (decode cX1_putTerms 29 = .ok (.return_, 1)) := by decide +kernel
theorem dX1_putTerms_18 : decode cX1_putTerms 18 = .ok (.iload_n 1, 1) := gX1_putTerms_12.1
theorem dX1_putTerms_19 : decode cX1_putTerms 19 = .ok (.iload_n 3, 1) := gX1_putTerms_12.2.1
theorem dX1_putTerms_20 : decode cX1_putTerms 20 = .ok (.iastore, 1) := gX1_putTerms_12.2.2.1
theorem dX1_putTerms_21 : decode cX1_putTerms 21 = .ok (.aload_n 0, 1) := gX1_putTerms_12.2.2.2.1
theorem dX1_putTerms_22 : decode cX1_putTerms 22 = .ok (.getfield 37, 3) := gX1_putTerms_12.2.2.2.2.1
theorem dX1_putTerms_25 : decode cX1_putTerms 25 = .ok (.iload_n 1, 1) := gX1_putTerms_12.2.2.2.2.2.1
theorem dX1_putTerms_26 : decode cX1_putTerms 26 = .ok (.iload 4, 2) := gX1_putTerms_12.2.2.2.2.2.2.1
theorem dX1_putTerms_28 : decode cX1_putTerms 28 = .ok (.iastore, 1) := gX1_putTerms_12.2.2.2.2.2.2.2.1
theorem dX1_putTerms_29 : decode cX1_putTerms 29 = .ok (.return_, 1) := gX1_putTerms_12.2.2.2.2.2.2.2.2
theorem gX1_putItems_0 : (decode cX1_putItems 0 = .ok (.iload_n 1, 1)) ∧ (decode cX1_putItems 1 = .ok (.iconst 4, 1)) ∧ (decode cX1_putItems 2 = .ok (.imul, 1)) ∧ (decode cX1_putItems 3 = .ok (.istore 6, 2)) ∧ (decode cX1_putItems 5 = .ok (.aload_n 0, 1)) ∧ (decode cX1_putItems 6 = .ok (.getfield 28, 3)) ∧ (decode cX1_putItems 9 = .ok (.iload 6, 2)) ∧ (decode cX1_putItems 11 = .ok (.iload_n 2, 1)) ∧ (decode cX1_putItems 12 = .ok (.iastore, 1)) ∧ (decode cX1_putItems 13 = .ok (.aload_n 0, 1)) ∧ (decode cX1_putItems 14 = .ok (.getfield 28, 3)) ∧ (decode cX1_putItems 17 = .ok (.iload 6, 2)) := by decide +kernel
theorem dX1_putItems_0 : decode cX1_putItems 0 = .ok (.iload_n 1, 1) := gX1_putItems_0.1
theorem dX1_putItems_1 : decode cX1_putItems 1 = .ok (.iconst 4, 1) := gX1_putItems_0.2.1
theorem dX1_putItems_2 : decode cX1_putItems 2 = .ok (.imul, 1) := gX1_putItems_0.2.2.1
theorem dX1_putItems_3 : decode cX1_putItems 3 = .ok (.istore 6, 2) := gX1_putItems_0.2.2.2.1
theorem dX1_putItems_5 : decode cX1_putItems 5 = .ok (.aload_n 0, 1) := gX1_putItems_0.2.2.2.2.1
theorem dX1_putItems_6 : decode cX1_putItems 6 = .ok (.getfield 28, 3) := gX1_putItems_0.2.2.2.2.2.1
theorem dX1_putItems_9 : decode cX1_putItems 9 = .ok (.iload 6, 2) := gX1_putItems_0.2.2.2.2.2.2.1
theorem dX1_putItems_11 : decode cX1_putItems 11 = .ok (.iload_n 2, 1) := gX1_putItems_0.2.2.2.2.2.2.2.1
theorem dX1_putItems_12 : decode cX1_putItems 12 = .ok (.iastore, 1) := gX1_putItems_0.2.2.2.2.2.2.2.2.1
theorem dX1_putItems_13 : decode cX1_putItems 13 = .ok (.aload_n 0, 1) := gX1_putItems_0.2.2.2.2.2.2.2.2.2.1
theorem dX1_putItems_14 : decode cX1_putItems 14 = .ok (.getfield 28, 3) := gX1_putItems_0.2.2.2.2.2.2.2.2.2.2.1
theorem dX1_putItems_17 : decode cX1_putItems 17 = .ok (.iload 6, 2) := gX1_putItems_0.2.2.2.2.2.2.2.2.2.2.2
theorem gX1_putItems_12 : (decode cX1_putItems 19 = .ok (.iconst 1, 1)) ∧ (decode cX1_putItems 20 = .ok (.iadd, 1)) ∧ (decode cX1_putItems 21 = .ok (.iload_n 3, 1)) ∧ (decode cX1_putItems 22 = .ok (.iastore, 1)) ∧ (decode cX1_putItems 23 = .ok (.aload_n 0, 1)) ∧ (decode cX1_putItems 24 = .ok (.getfield 28, 3)) ∧ (decode cX1_putItems 27 = .ok (.iload 6, 2)) ∧ (decode cX1_putItems 29 = .ok (.iconst 2, 1)) ∧ (decode cX1_putItems 30 = .ok (.iadd, 1)) ∧ (decode cX1_putItems 31 = .ok (.iload 4, 2)) ∧ (decode cX1_putItems 33 = .ok (.iastore, 1)) ∧ (decode cX1_putItems 34 = .ok (.aload_n 0, 1)) := by decide +kernel
theorem dX1_putItems_19 : decode cX1_putItems 19 = .ok (.iconst 1, 1) := gX1_putItems_12.1
theorem dX1_putItems_20 : decode cX1_putItems 20 = .ok (.iadd, 1) := gX1_putItems_12.2.1
theorem dX1_putItems_21 : decode cX1_putItems 21 = .ok (.iload_n 3, 1) := gX1_putItems_12.2.2.1
theorem dX1_putItems_22 : decode cX1_putItems 22 = .ok (.iastore, 1) := gX1_putItems_12.2.2.2.1
theorem dX1_putItems_23 : decode cX1_putItems 23 = .ok (.aload_n 0, 1) := gX1_putItems_12.2.2.2.2.1
theorem dX1_putItems_24 : decode cX1_putItems 24 = .ok (.getfield 28, 3) := gX1_putItems_12.2.2.2.2.2.1
theorem dX1_putItems_27 : decode cX1_putItems 27 = .ok (.iload 6, 2) := gX1_putItems_12.2.2.2.2.2.2.1
theorem dX1_putItems_29 : decode cX1_putItems 29 = .ok (.iconst 2, 1) := gX1_putItems_12.2.2.2.2.2.2.2.1
theorem dX1_putItems_30 : decode cX1_putItems 30 = .ok (.iadd, 1) := gX1_putItems_12.2.2.2.2.2.2.2.2.1
theorem dX1_putItems_31 : decode cX1_putItems 31 = .ok (.iload 4, 2) := gX1_putItems_12.2.2.2.2.2.2.2.2.2.1
theorem dX1_putItems_33 : decode cX1_putItems 33 = .ok (.iastore, 1) := gX1_putItems_12.2.2.2.2.2.2.2.2.2.2.1
theorem dX1_putItems_34 : decode cX1_putItems 34 = .ok (.aload_n 0, 1) := gX1_putItems_12.2.2.2.2.2.2.2.2.2.2.2
theorem gX1_putItems_24 : (decode cX1_putItems 35 = .ok (.getfield 28, 3)) ∧ (decode cX1_putItems 38 = .ok (.iload 6, 2)) ∧ (decode cX1_putItems 40 = .ok (.iconst 3, 1)) ∧ (decode cX1_putItems 41 = .ok (.iadd, 1)) ∧ (decode cX1_putItems 42 = .ok (.iload 5, 2)) ∧ (decode cX1_putItems 44 = .ok (.iastore, 1)) ∧ (decode cX1_putItems 45 = .ok (.return_, 1)) := by decide +kernel
theorem dX1_putItems_35 : decode cX1_putItems 35 = .ok (.getfield 28, 3) := gX1_putItems_24.1
theorem dX1_putItems_38 : decode cX1_putItems 38 = .ok (.iload 6, 2) := gX1_putItems_24.2.1
theorem dX1_putItems_40 : decode cX1_putItems 40 = .ok (.iconst 3, 1) := gX1_putItems_24.2.2.1
theorem dX1_putItems_41 : decode cX1_putItems 41 = .ok (.iadd, 1) := gX1_putItems_24.2.2.2.1
theorem dX1_putItems_42 : decode cX1_putItems 42 = .ok (.iload 5, 2) := gX1_putItems_24.2.2.2.2.1
theorem dX1_putItems_44 : decode cX1_putItems 44 = .ok (.iastore, 1) := gX1_putItems_24.2.2.2.2.2.1
theorem dX1_putItems_45 : decode cX1_putItems 45 = .ok (.return_, 1) := gX1_putItems_24.2.2.2.2.2.2
theorem gX1_itemSum_0 : (decode cX1_itemSum 0 = .ok (.iconst 0, 1)) ∧ (decode cX1_itemSum 1 = .ok (.istore_n 2, 1)) ∧ (decode cX1_itemSum 2 = .ok (.iconst 0, 1)) ∧ (decode cX1_itemSum 3 = .ok (.istore_n 3, 1)) ∧ (decode cX1_itemSum 4 = .ok (.iload_n 3, 1)) ∧ (decode cX1_itemSum 5 = .ok (.iconst 4, 1)) ∧ (decode cX1_itemSum 6 = .ok (.if_icmp .ge 22, 3)) ∧ (decode cX1_itemSum 9 = .ok (.iload_n 2, 1)) ∧ (decode cX1_itemSum 10 = .ok (.aload_n 0, 1)) ∧ (decode cX1_itemSum 11 = .ok (.getfield 28, 3)) ∧ (decode cX1_itemSum 14 = .ok (.iload_n 1, 1)) ∧ (decode cX1_itemSum 15 = .ok (.iconst 4, 1)) := by decide +kernel
theorem dX1_itemSum_0 : decode cX1_itemSum 0 = .ok (.iconst 0, 1) := gX1_itemSum_0.1
theorem dX1_itemSum_1 : decode cX1_itemSum 1 = .ok (.istore_n 2, 1) := gX1_itemSum_0.2.1
theorem dX1_itemSum_2 : decode cX1_itemSum 2 = .ok (.iconst 0, 1) := gX1_itemSum_0.2.2.1
theorem dX1_itemSum_3 : decode cX1_itemSum 3 = .ok (.istore_n 3, 1) := gX1_itemSum_0.2.2.2.1
theorem dX1_itemSum_4 : decode cX1_itemSum 4 = .ok (.iload_n 3, 1) := gX1_itemSum_0.2.2.2.2.1
theorem dX1_itemSum_5 : decode cX1_itemSum 5 = .ok (.iconst 4, 1) := gX1_itemSum_0.2.2.2.2.2.1
theorem dX1_itemSum_6 : decode cX1_itemSum 6 = .ok (.if_icmp .ge 22, 3) := gX1_itemSum_0.2.2.2.2.2.2.1
theorem dX1_itemSum_9 : decode cX1_itemSum 9 = .ok (.iload_n 2, 1) := gX1_itemSum_0.2.2.2.2.2.2.2.1
theorem dX1_itemSum_10 : decode cX1_itemSum 10 = .ok (.aload_n 0, 1) := gX1_itemSum_0.2.2.2.2.2.2.2.2.1
theorem dX1_itemSum_11 : decode cX1_itemSum 11 = .ok (.getfield 28, 3) := gX1_itemSum_0.2.2.2.2.2.2.2.2.2.1
theorem dX1_itemSum_14 : decode cX1_itemSum 14 = .ok (.iload_n 1, 1) := gX1_itemSum_0.2.2.2.2.2.2.2.2.2.2.1
theorem dX1_itemSum_15 : decode cX1_itemSum 15 = .ok (.iconst 4, 1) := gX1_itemSum_0.2.2.2.2.2.2.2.2.2.2.2
theorem gX1_itemSum_12 : (decode cX1_itemSum 16 = .ok (.imul, 1)) ∧ (decode cX1_itemSum 17 = .ok (.iload_n 3, 1)) ∧ (decode cX1_itemSum 18 = .ok (.iadd, 1)) ∧ (decode cX1_itemSum 19 = .ok (.iaload, 1)) ∧ (decode cX1_itemSum 20 = .ok (.iadd, 1)) ∧ (decode cX1_itemSum 21 = .ok (.istore_n 2, 1)) ∧ (decode cX1_itemSum 22 = .ok (.iinc 3 1, 3)) ∧ (decode cX1_itemSum 25 = .ok (.goto (-21), 3)) ∧ (decode cX1_itemSum 28 = .ok (.iload_n 2, 1)) ∧ (decode cX1_itemSum 29 = .ok (.ireturn, 1)) := by decide +kernel
theorem dX1_itemSum_16 : decode cX1_itemSum 16 = .ok (.imul, 1) := gX1_itemSum_12.1
theorem dX1_itemSum_17 : decode cX1_itemSum 17 = .ok (.iload_n 3, 1) := gX1_itemSum_12.2.1
theorem dX1_itemSum_18 : decode cX1_itemSum 18 = .ok (.iadd, 1) := gX1_itemSum_12.2.2.1
theorem dX1_itemSum_19 : decode cX1_itemSum 19 = .ok (.iaload, 1) := gX1_itemSum_12.2.2.2.1
theorem dX1_itemSum_20 : decode cX1_itemSum 20 = .ok (.iadd, 1) := gX1_itemSum_12.2.2.2.2.1
theorem dX1_itemSum_21 : decode cX1_itemSum 21 = .ok (.istore_n 2, 1) := gX1_itemSum_12.2.2.2.2.2.1
theorem dX1_itemSum_22 : decode cX1_itemSum 22 = .ok (.iinc 3 1, 3) := gX1_itemSum_12.2.2.2.2.2.2.1
theorem dX1_itemSum_25 : decode cX1_itemSum 25 = .ok (.goto (-21), 3) := gX1_itemSum_12.2.2.2.2.2.2.2.1
theorem dX1_itemSum_28 : decode cX1_itemSum 28 = .ok (.iload_n 2, 1) := gX1_itemSum_12.2.2.2.2.2.2.2.2.1
theorem dX1_itemSum_29 : decode cX1_itemSum 29 = .ok (.ireturn, 1) := gX1_itemSum_12.2.2.2.2.2.2.2.2.2
theorem gX1_priceAt_0 : (decode cX1_priceAt 0 = .ok (.aload_n 0, 1)) ∧ (decode cX1_priceAt 1 = .ok (.iload_n 1, 1)) ∧ (decode cX1_priceAt 2 = .ok (.invokevirtual 54, 3)) ∧ (decode cX1_priceAt 5 = .ok (.aload_n 0, 1)) ∧ (decode cX1_priceAt 6 = .ok (.getfield 37, 3)) ∧ (decode cX1_priceAt 9 = .ok (.iload_n 1, 1)) ∧ (decode cX1_priceAt 10 = .ok (.iaload, 1)) ∧ (decode cX1_priceAt 11 = .ok (.aload_n 0, 1)) ∧ (decode cX1_priceAt 12 = .ok (.getfield 9, 3)) ∧ (decode cX1_priceAt 15 = .ok (.iconst 1, 1)) ∧ (decode cX1_priceAt 16 = .ok (.iaload, 1)) ∧ (decode cX1_priceAt 17 = .ok (.imul, 1)) := by decide +kernel
theorem dX1_priceAt_0 : decode cX1_priceAt 0 = .ok (.aload_n 0, 1) := gX1_priceAt_0.1
theorem dX1_priceAt_1 : decode cX1_priceAt 1 = .ok (.iload_n 1, 1) := gX1_priceAt_0.2.1
theorem dX1_priceAt_2 : decode cX1_priceAt 2 = .ok (.invokevirtual 54, 3) := gX1_priceAt_0.2.2.1
theorem dX1_priceAt_5 : decode cX1_priceAt 5 = .ok (.aload_n 0, 1) := gX1_priceAt_0.2.2.2.1
theorem dX1_priceAt_6 : decode cX1_priceAt 6 = .ok (.getfield 37, 3) := gX1_priceAt_0.2.2.2.2.1
theorem dX1_priceAt_9 : decode cX1_priceAt 9 = .ok (.iload_n 1, 1) := gX1_priceAt_0.2.2.2.2.2.1
theorem dX1_priceAt_10 : decode cX1_priceAt 10 = .ok (.iaload, 1) := gX1_priceAt_0.2.2.2.2.2.2.1
theorem dX1_priceAt_11 : decode cX1_priceAt 11 = .ok (.aload_n 0, 1) := gX1_priceAt_0.2.2.2.2.2.2.2.1
theorem dX1_priceAt_12 : decode cX1_priceAt 12 = .ok (.getfield 9, 3) := gX1_priceAt_0.2.2.2.2.2.2.2.2.1
theorem dX1_priceAt_15 : decode cX1_priceAt 15 = .ok (.iconst 1, 1) := gX1_priceAt_0.2.2.2.2.2.2.2.2.2.1
theorem dX1_priceAt_16 : decode cX1_priceAt 16 = .ok (.iaload, 1) := gX1_priceAt_0.2.2.2.2.2.2.2.2.2.2.1
theorem dX1_priceAt_17 : decode cX1_priceAt 17 = .ok (.imul, 1) := gX1_priceAt_0.2.2.2.2.2.2.2.2.2.2.2
theorem gX1_priceAt_12 : (decode cX1_priceAt 18 = .ok (.bipush 100, 2)) ∧ (decode cX1_priceAt 20 = .ok (.idiv, 1)) ∧ (decode cX1_priceAt 21 = .ok (.iadd, 1)) ∧ (decode cX1_priceAt 22 = .ok (.i2l, 1)) ∧ (decode cX1_priceAt 23 = .ok (.lstore_n 2, 1)) ∧ (decode cX1_priceAt 24 = .ok (.lload_n 2, 1)) ∧ (decode cX1_priceAt 25 = .ok (.aload_n 0, 1)) ∧ (decode cX1_priceAt 26 = .ok (.getfield 15, 3)) ∧ (decode cX1_priceAt 29 = .ok (.aload_n 0, 1)) ∧ (decode cX1_priceAt 30 = .ok (.getfield 31, 3)) ∧ (decode cX1_priceAt 33 = .ok (.iload_n 1, 1)) ∧ (decode cX1_priceAt 34 = .ok (.iaload, 1)) := by decide +kernel
theorem dX1_priceAt_18 : decode cX1_priceAt 18 = .ok (.bipush 100, 2) := gX1_priceAt_12.1
theorem dX1_priceAt_20 : decode cX1_priceAt 20 = .ok (.idiv, 1) := gX1_priceAt_12.2.1
theorem dX1_priceAt_21 : decode cX1_priceAt 21 = .ok (.iadd, 1) := gX1_priceAt_12.2.2.1
theorem dX1_priceAt_22 : decode cX1_priceAt 22 = .ok (.i2l, 1) := gX1_priceAt_12.2.2.2.1
theorem dX1_priceAt_23 : decode cX1_priceAt 23 = .ok (.lstore_n 2, 1) := gX1_priceAt_12.2.2.2.2.1
theorem dX1_priceAt_24 : decode cX1_priceAt 24 = .ok (.lload_n 2, 1) := gX1_priceAt_12.2.2.2.2.2.1
theorem dX1_priceAt_25 : decode cX1_priceAt 25 = .ok (.aload_n 0, 1) := gX1_priceAt_12.2.2.2.2.2.2.1
theorem dX1_priceAt_26 : decode cX1_priceAt 26 = .ok (.getfield 15, 3) := gX1_priceAt_12.2.2.2.2.2.2.2.1
theorem dX1_priceAt_29 : decode cX1_priceAt 29 = .ok (.aload_n 0, 1) := gX1_priceAt_12.2.2.2.2.2.2.2.2.1
theorem dX1_priceAt_30 : decode cX1_priceAt 30 = .ok (.getfield 31, 3) := gX1_priceAt_12.2.2.2.2.2.2.2.2.2.1
theorem dX1_priceAt_33 : decode cX1_priceAt 33 = .ok (.iload_n 1, 1) := gX1_priceAt_12.2.2.2.2.2.2.2.2.2.2.1
theorem dX1_priceAt_34 : decode cX1_priceAt 34 = .ok (.iaload, 1) := gX1_priceAt_12.2.2.2.2.2.2.2.2.2.2.2
theorem gX1_priceAt_24 : (decode cX1_priceAt 35 = .ok (.iaload, 1)) ∧ (decode cX1_priceAt 36 = .ok (.i2l, 1)) ∧ (decode cX1_priceAt 37 = .ok (.lmul, 1)) ∧ (decode cX1_priceAt 38 = .ok (.ldc2_w 58, 3)) ∧ (decode cX1_priceAt 41 = .ok (.ldiv, 1)) ∧ (decode cX1_priceAt 42 = .ok (.lstore 4, 2)) ∧ (decode cX1_priceAt 44 = .ok (.lconst 1, 1)) ∧ (decode cX1_priceAt 45 = .ok (.lload 4, 2)) ∧ (decode cX1_priceAt 47 = .ok (.invokestatic 60, 3)) ∧ (decode cX1_priceAt 50 = .ok (.l2i, 1)) ∧ (decode cX1_priceAt 51 = .ok (.ireturn, 1)) := by decide +kernel
theorem dX1_priceAt_35 : decode cX1_priceAt 35 = .ok (.iaload, 1) := gX1_priceAt_24.1
theorem dX1_priceAt_36 : decode cX1_priceAt 36 = .ok (.i2l, 1) := gX1_priceAt_24.2.1
theorem dX1_priceAt_37 : decode cX1_priceAt 37 = .ok (.lmul, 1) := gX1_priceAt_24.2.2.1
theorem dX1_priceAt_38 : decode cX1_priceAt 38 = .ok (.ldc2_w 58, 3) := gX1_priceAt_24.2.2.2.1
theorem dX1_priceAt_41 : decode cX1_priceAt 41 = .ok (.ldiv, 1) := gX1_priceAt_24.2.2.2.2.1
theorem dX1_priceAt_42 : decode cX1_priceAt 42 = .ok (.lstore 4, 2) := gX1_priceAt_24.2.2.2.2.2.1
theorem dX1_priceAt_44 : decode cX1_priceAt 44 = .ok (.lconst 1, 1) := gX1_priceAt_24.2.2.2.2.2.2.1
theorem dX1_priceAt_45 : decode cX1_priceAt 45 = .ok (.lload 4, 2) := gX1_priceAt_24.2.2.2.2.2.2.2.1
theorem dX1_priceAt_47 : decode cX1_priceAt 47 = .ok (.invokestatic 60, 3) := gX1_priceAt_24.2.2.2.2.2.2.2.2.1
theorem dX1_priceAt_50 : decode cX1_priceAt 50 = .ok (.l2i, 1) := gX1_priceAt_24.2.2.2.2.2.2.2.2.2.1
theorem dX1_priceAt_51 : decode cX1_priceAt 51 = .ok (.ireturn, 1) := gX1_priceAt_24.2.2.2.2.2.2.2.2.2.2
theorem gX1_countedSum_0 : (decode cX1_countedSum 0 = .ok (.aload_n 0, 1)) ∧ (decode cX1_countedSum 1 = .ok (.iload_n 1, 1)) ∧ (decode cX1_countedSum 2 = .ok (.invokevirtual 66, 3)) ∧ (decode cX1_countedSum 5 = .ok (.istore_n 2, 1)) ∧ (decode cX1_countedSum 6 = .ok (.aload_n 0, 1)) ∧ (decode cX1_countedSum 7 = .ok (.getfield 9, 3)) ∧ (decode cX1_countedSum 10 = .ok (.iconst 0, 1)) ∧ (decode cX1_countedSum 11 = .ok (.iaload, 1)) ∧ (decode cX1_countedSum 12 = .ok (.iconst 1, 1)) ∧ (decode cX1_countedSum 13 = .ok (.if_icmp .ne 10, 3)) ∧ (decode cX1_countedSum 16 = .ok (.aload_n 0, 1)) ∧ (decode cX1_countedSum 17 = .ok (.getfield 34, 3)) := by decide +kernel
theorem dX1_countedSum_0 : decode cX1_countedSum 0 = .ok (.aload_n 0, 1) := gX1_countedSum_0.1
theorem dX1_countedSum_1 : decode cX1_countedSum 1 = .ok (.iload_n 1, 1) := gX1_countedSum_0.2.1
theorem dX1_countedSum_2 : decode cX1_countedSum 2 = .ok (.invokevirtual 66, 3) := gX1_countedSum_0.2.2.1
theorem dX1_countedSum_5 : decode cX1_countedSum 5 = .ok (.istore_n 2, 1) := gX1_countedSum_0.2.2.2.1
theorem dX1_countedSum_6 : decode cX1_countedSum 6 = .ok (.aload_n 0, 1) := gX1_countedSum_0.2.2.2.2.1
theorem dX1_countedSum_7 : decode cX1_countedSum 7 = .ok (.getfield 9, 3) := gX1_countedSum_0.2.2.2.2.2.1
theorem dX1_countedSum_10 : decode cX1_countedSum 10 = .ok (.iconst 0, 1) := gX1_countedSum_0.2.2.2.2.2.2.1
theorem dX1_countedSum_11 : decode cX1_countedSum 11 = .ok (.iaload, 1) := gX1_countedSum_0.2.2.2.2.2.2.2.1
theorem dX1_countedSum_12 : decode cX1_countedSum 12 = .ok (.iconst 1, 1) := gX1_countedSum_0.2.2.2.2.2.2.2.2.1
theorem dX1_countedSum_13 : decode cX1_countedSum 13 = .ok (.if_icmp .ne 10, 3) := gX1_countedSum_0.2.2.2.2.2.2.2.2.2.1
theorem dX1_countedSum_16 : decode cX1_countedSum 16 = .ok (.aload_n 0, 1) := gX1_countedSum_0.2.2.2.2.2.2.2.2.2.2.1
theorem dX1_countedSum_17 : decode cX1_countedSum 17 = .ok (.getfield 34, 3) := gX1_countedSum_0.2.2.2.2.2.2.2.2.2.2.2
theorem gX1_countedSum_12 : (decode cX1_countedSum 20 = .ok (.iload_n 1, 1)) ∧ (decode cX1_countedSum 21 = .ok (.iaload, 1)) ∧ (decode cX1_countedSum 22 = .ok (.ireturn, 1)) ∧ (decode cX1_countedSum 23 = .ok (.aload_n 0, 1)) ∧ (decode cX1_countedSum 24 = .ok (.getfield 9, 3)) ∧ (decode cX1_countedSum 27 = .ok (.iconst 0, 1)) ∧ (decode cX1_countedSum 28 = .ok (.iaload, 1)) ∧ (decode cX1_countedSum 29 = .ok (.iconst 2, 1)) ∧ (decode cX1_countedSum 30 = .ok (.if_icmp .ne 16, 3)) ∧ (decode cX1_countedSum 33 = .ok (.iload_n 2, 1)) ∧ (decode cX1_countedSum 34 = .ok (.aload_n 0, 1)) ∧ (decode cX1_countedSum 35 = .ok (.getfield 34, 3)) := by decide +kernel
theorem dX1_countedSum_20 : decode cX1_countedSum 20 = .ok (.iload_n 1, 1) := gX1_countedSum_12.1
theorem dX1_countedSum_21 : decode cX1_countedSum 21 = .ok (.iaload, 1) := gX1_countedSum_12.2.1
theorem dX1_countedSum_22 : decode cX1_countedSum 22 = .ok (.ireturn, 1) := gX1_countedSum_12.2.2.1
theorem dX1_countedSum_23 : decode cX1_countedSum 23 = .ok (.aload_n 0, 1) := gX1_countedSum_12.2.2.2.1
theorem dX1_countedSum_24 : decode cX1_countedSum 24 = .ok (.getfield 9, 3) := gX1_countedSum_12.2.2.2.2.1
theorem dX1_countedSum_27 : decode cX1_countedSum 27 = .ok (.iconst 0, 1) := gX1_countedSum_12.2.2.2.2.2.1
theorem dX1_countedSum_28 : decode cX1_countedSum 28 = .ok (.iaload, 1) := gX1_countedSum_12.2.2.2.2.2.2.1
theorem dX1_countedSum_29 : decode cX1_countedSum 29 = .ok (.iconst 2, 1) := gX1_countedSum_12.2.2.2.2.2.2.2.1
theorem dX1_countedSum_30 : decode cX1_countedSum 30 = .ok (.if_icmp .ne 16, 3) := gX1_countedSum_12.2.2.2.2.2.2.2.2.1
theorem dX1_countedSum_33 : decode cX1_countedSum 33 = .ok (.iload_n 2, 1) := gX1_countedSum_12.2.2.2.2.2.2.2.2.2.1
theorem dX1_countedSum_34 : decode cX1_countedSum 34 = .ok (.aload_n 0, 1) := gX1_countedSum_12.2.2.2.2.2.2.2.2.2.2.1
theorem dX1_countedSum_35 : decode cX1_countedSum 35 = .ok (.getfield 34, 3) := gX1_countedSum_12.2.2.2.2.2.2.2.2.2.2.2
theorem gX1_countedSum_24 : (decode cX1_countedSum 38 = .ok (.iload_n 1, 1)) ∧ (decode cX1_countedSum 39 = .ok (.iaload, 1)) ∧ (decode cX1_countedSum 40 = .ok (.invokestatic 69, 3)) ∧ (decode cX1_countedSum 43 = .ok (.goto 4, 3)) ∧ (decode cX1_countedSum 46 = .ok (.iload_n 2, 1)) ∧ (decode cX1_countedSum 47 = .ok (.ireturn, 1)) := by decide +kernel
theorem dX1_countedSum_38 : decode cX1_countedSum 38 = .ok (.iload_n 1, 1) := gX1_countedSum_24.1
theorem dX1_countedSum_39 : decode cX1_countedSum 39 = .ok (.iaload, 1) := gX1_countedSum_24.2.1
theorem dX1_countedSum_40 : decode cX1_countedSum 40 = .ok (.invokestatic 69, 3) := gX1_countedSum_24.2.2.1
theorem dX1_countedSum_43 : decode cX1_countedSum 43 = .ok (.goto 4, 3) := gX1_countedSum_24.2.2.2.1
theorem dX1_countedSum_46 : decode cX1_countedSum 46 = .ok (.iload_n 2, 1) := gX1_countedSum_24.2.2.2.2.1
theorem dX1_countedSum_47 : decode cX1_countedSum 47 = .ok (.ireturn, 1) := gX1_countedSum_24.2.2.2.2.2
theorem gX1_isLapsed_0 : (decode cX1_isLapsed 0 = .ok (.aload_n 0, 1)) ∧ (decode cX1_isLapsed 1 = .ok (.getfield 25, 3)) ∧ (decode cX1_isLapsed 4 = .ok (.iload_n 1, 1)) ∧ (decode cX1_isLapsed 5 = .ok (.iaload, 1)) ∧ (decode cX1_isLapsed 6 = .ok (.ifCond .eq 20, 3)) ∧ (decode cX1_isLapsed 9 = .ok (.aload_n 0, 1)) ∧ (decode cX1_isLapsed 10 = .ok (.getfield 47, 3)) ∧ (decode cX1_isLapsed 13 = .ok (.aload_n 0, 1)) ∧ (decode cX1_isLapsed 14 = .ok (.getfield 25, 3)) ∧ (decode cX1_isLapsed 17 = .ok (.iload_n 1, 1)) ∧ (decode cX1_isLapsed 18 = .ok (.iaload, 1)) ∧ (decode cX1_isLapsed 19 = .ok (.if_icmp .le 7, 3)) := by decide +kernel
theorem dX1_isLapsed_0 : decode cX1_isLapsed 0 = .ok (.aload_n 0, 1) := gX1_isLapsed_0.1
theorem dX1_isLapsed_1 : decode cX1_isLapsed 1 = .ok (.getfield 25, 3) := gX1_isLapsed_0.2.1
theorem dX1_isLapsed_4 : decode cX1_isLapsed 4 = .ok (.iload_n 1, 1) := gX1_isLapsed_0.2.2.1
theorem dX1_isLapsed_5 : decode cX1_isLapsed 5 = .ok (.iaload, 1) := gX1_isLapsed_0.2.2.2.1
theorem dX1_isLapsed_6 : decode cX1_isLapsed 6 = .ok (.ifCond .eq 20, 3) := gX1_isLapsed_0.2.2.2.2.1
theorem dX1_isLapsed_9 : decode cX1_isLapsed 9 = .ok (.aload_n 0, 1) := gX1_isLapsed_0.2.2.2.2.2.1
theorem dX1_isLapsed_10 : decode cX1_isLapsed 10 = .ok (.getfield 47, 3) := gX1_isLapsed_0.2.2.2.2.2.2.1
theorem dX1_isLapsed_13 : decode cX1_isLapsed 13 = .ok (.aload_n 0, 1) := gX1_isLapsed_0.2.2.2.2.2.2.2.1
theorem dX1_isLapsed_14 : decode cX1_isLapsed 14 = .ok (.getfield 25, 3) := gX1_isLapsed_0.2.2.2.2.2.2.2.2.1
theorem dX1_isLapsed_17 : decode cX1_isLapsed 17 = .ok (.iload_n 1, 1) := gX1_isLapsed_0.2.2.2.2.2.2.2.2.2.1
theorem dX1_isLapsed_18 : decode cX1_isLapsed 18 = .ok (.iaload, 1) := gX1_isLapsed_0.2.2.2.2.2.2.2.2.2.2.1
theorem dX1_isLapsed_19 : decode cX1_isLapsed 19 = .ok (.if_icmp .le 7, 3) := gX1_isLapsed_0.2.2.2.2.2.2.2.2.2.2.2
theorem gX1_isLapsed_12 : (decode cX1_isLapsed 22 = .ok (.iconst 1, 1)) ∧ (decode cX1_isLapsed 23 = .ok (.goto 4, 3)) ∧ (decode cX1_isLapsed 26 = .ok (.iconst 0, 1)) ∧ (decode cX1_isLapsed 27 = .ok (.ireturn, 1)) := by decide +kernel
theorem dX1_isLapsed_22 : decode cX1_isLapsed 22 = .ok (.iconst 1, 1) := gX1_isLapsed_12.1
theorem dX1_isLapsed_23 : decode cX1_isLapsed 23 = .ok (.goto 4, 3) := gX1_isLapsed_12.2.1
theorem dX1_isLapsed_26 : decode cX1_isLapsed 26 = .ok (.iconst 0, 1) := gX1_isLapsed_12.2.2.1
theorem dX1_isLapsed_27 : decode cX1_isLapsed 27 = .ok (.ireturn, 1) := gX1_isLapsed_12.2.2.2
theorem gX1_isOutAt_0 : (decode cX1_isOutAt 0 = .ok (.aload_n 0, 1)) ∧ (decode cX1_isOutAt 1 = .ok (.getfield 22, 3)) ∧ (decode cX1_isOutAt 4 = .ok (.iload_n 1, 1)) ∧ (decode cX1_isOutAt 5 = .ok (.baload, 1)) ∧ (decode cX1_isOutAt 6 = .ok (.ifCond .ne 11, 3)) ∧ (decode cX1_isOutAt 9 = .ok (.aload_n 0, 1)) ∧ (decode cX1_isOutAt 10 = .ok (.iload_n 1, 1)) ∧ (decode cX1_isOutAt 11 = .ok (.invokevirtual 72, 3)) ∧ (decode cX1_isOutAt 14 = .ok (.ifCond .eq 7, 3)) ∧ (decode cX1_isOutAt 17 = .ok (.iconst 1, 1)) ∧ (decode cX1_isOutAt 18 = .ok (.goto 4, 3)) ∧ (decode cX1_isOutAt 21 = .ok (.iconst 0, 1)) := by decide +kernel
theorem dX1_isOutAt_0 : decode cX1_isOutAt 0 = .ok (.aload_n 0, 1) := gX1_isOutAt_0.1
theorem dX1_isOutAt_1 : decode cX1_isOutAt 1 = .ok (.getfield 22, 3) := gX1_isOutAt_0.2.1
theorem dX1_isOutAt_4 : decode cX1_isOutAt 4 = .ok (.iload_n 1, 1) := gX1_isOutAt_0.2.2.1
theorem dX1_isOutAt_5 : decode cX1_isOutAt 5 = .ok (.baload, 1) := gX1_isOutAt_0.2.2.2.1
theorem dX1_isOutAt_6 : decode cX1_isOutAt 6 = .ok (.ifCond .ne 11, 3) := gX1_isOutAt_0.2.2.2.2.1
theorem dX1_isOutAt_9 : decode cX1_isOutAt 9 = .ok (.aload_n 0, 1) := gX1_isOutAt_0.2.2.2.2.2.1
theorem dX1_isOutAt_10 : decode cX1_isOutAt 10 = .ok (.iload_n 1, 1) := gX1_isOutAt_0.2.2.2.2.2.2.1
theorem dX1_isOutAt_11 : decode cX1_isOutAt 11 = .ok (.invokevirtual 72, 3) := gX1_isOutAt_0.2.2.2.2.2.2.2.1
theorem dX1_isOutAt_14 : decode cX1_isOutAt 14 = .ok (.ifCond .eq 7, 3) := gX1_isOutAt_0.2.2.2.2.2.2.2.2.1
theorem dX1_isOutAt_17 : decode cX1_isOutAt 17 = .ok (.iconst 1, 1) := gX1_isOutAt_0.2.2.2.2.2.2.2.2.2.1
theorem dX1_isOutAt_18 : decode cX1_isOutAt 18 = .ok (.goto 4, 3) := gX1_isOutAt_0.2.2.2.2.2.2.2.2.2.2.1
theorem dX1_isOutAt_21 : decode cX1_isOutAt 21 = .ok (.iconst 0, 1) := gX1_isOutAt_0.2.2.2.2.2.2.2.2.2.2.2
theorem gX1_isOutAt_12 : (decode cX1_isOutAt 22 = .ok (.ireturn, 1)) := by decide +kernel
theorem dX1_isOutAt_22 : decode cX1_isOutAt 22 = .ok (.ireturn, 1) := gX1_isOutAt_12
theorem gX1_standsAt_0 : (decode cX1_standsAt 0 = .ok (.aload_n 0, 1)) ∧ (decode cX1_standsAt 1 = .ok (.getfield 18, 3)) ∧ (decode cX1_standsAt 4 = .ok (.iload_n 1, 1)) ∧ (decode cX1_standsAt 5 = .ok (.baload, 1)) ∧ (decode cX1_standsAt 6 = .ok (.ifCond .eq 15, 3)) ∧ (decode cX1_standsAt 9 = .ok (.aload_n 0, 1)) ∧ (decode cX1_standsAt 10 = .ok (.iload_n 1, 1)) ∧ (decode cX1_standsAt 11 = .ok (.invokevirtual 76, 3)) ∧ (decode cX1_standsAt 14 = .ok (.ifCond .ne 7, 3)) ∧ (decode cX1_standsAt 17 = .ok (.iconst 1, 1)) ∧ (decode cX1_standsAt 18 = .ok (.goto 4, 3)) ∧ (decode cX1_standsAt 21 = .ok (.iconst 0, 1)) := by decide +kernel
theorem dX1_standsAt_0 : decode cX1_standsAt 0 = .ok (.aload_n 0, 1) := gX1_standsAt_0.1
theorem dX1_standsAt_1 : decode cX1_standsAt 1 = .ok (.getfield 18, 3) := gX1_standsAt_0.2.1
theorem dX1_standsAt_4 : decode cX1_standsAt 4 = .ok (.iload_n 1, 1) := gX1_standsAt_0.2.2.1
theorem dX1_standsAt_5 : decode cX1_standsAt 5 = .ok (.baload, 1) := gX1_standsAt_0.2.2.2.1
theorem dX1_standsAt_6 : decode cX1_standsAt 6 = .ok (.ifCond .eq 15, 3) := gX1_standsAt_0.2.2.2.2.1
theorem dX1_standsAt_9 : decode cX1_standsAt 9 = .ok (.aload_n 0, 1) := gX1_standsAt_0.2.2.2.2.2.1
theorem dX1_standsAt_10 : decode cX1_standsAt 10 = .ok (.iload_n 1, 1) := gX1_standsAt_0.2.2.2.2.2.2.1
theorem dX1_standsAt_11 : decode cX1_standsAt 11 = .ok (.invokevirtual 76, 3) := gX1_standsAt_0.2.2.2.2.2.2.2.1
theorem dX1_standsAt_14 : decode cX1_standsAt 14 = .ok (.ifCond .ne 7, 3) := gX1_standsAt_0.2.2.2.2.2.2.2.2.1
theorem dX1_standsAt_17 : decode cX1_standsAt 17 = .ok (.iconst 1, 1) := gX1_standsAt_0.2.2.2.2.2.2.2.2.2.1
theorem dX1_standsAt_18 : decode cX1_standsAt 18 = .ok (.goto 4, 3) := gX1_standsAt_0.2.2.2.2.2.2.2.2.2.2.1
theorem dX1_standsAt_21 : decode cX1_standsAt 21 = .ok (.iconst 0, 1) := gX1_standsAt_0.2.2.2.2.2.2.2.2.2.2.2
theorem gX1_standsAt_12 : (decode cX1_standsAt 22 = .ok (.ireturn, 1)) := by decide +kernel
theorem dX1_standsAt_22 : decode cX1_standsAt 22 = .ok (.ireturn, 1) := gX1_standsAt_12
theorem gX1_clearOut_0 : (decode cX1_clearOut 0 = .ok (.aload_n 0, 1)) ∧ (decode cX1_clearOut 1 = .ok (.getfield 22, 3)) ∧ (decode cX1_clearOut 4 = .ok (.iload_n 1, 1)) ∧ (decode cX1_clearOut 5 = .ok (.iconst 0, 1)) ∧ (decode cX1_clearOut 6 = .ok (.bastore, 1)) ∧ (decode cX1_clearOut 7 = .ok (.aload_n 0, 1)) ∧ (decode cX1_clearOut 8 = .ok (.iload_n 1, 1)) ∧ (decode cX1_clearOut 9 = .ok (.invokevirtual 72, 3)) ∧ (decode cX1_clearOut 12 = .ok (.ifCond .eq 10, 3)) ∧ (decode cX1_clearOut 15 = .ok (.aload_n 0, 1)) ∧ (decode cX1_clearOut 16 = .ok (.getfield 25, 3)) ∧ (decode cX1_clearOut 19 = .ok (.iload_n 1, 1)) := by decide +kernel
theorem dX1_clearOut_0 : decode cX1_clearOut 0 = .ok (.aload_n 0, 1) := gX1_clearOut_0.1
theorem dX1_clearOut_1 : decode cX1_clearOut 1 = .ok (.getfield 22, 3) := gX1_clearOut_0.2.1
theorem dX1_clearOut_4 : decode cX1_clearOut 4 = .ok (.iload_n 1, 1) := gX1_clearOut_0.2.2.1
theorem dX1_clearOut_5 : decode cX1_clearOut 5 = .ok (.iconst 0, 1) := gX1_clearOut_0.2.2.2.1
theorem dX1_clearOut_6 : decode cX1_clearOut 6 = .ok (.bastore, 1) := gX1_clearOut_0.2.2.2.2.1
theorem dX1_clearOut_7 : decode cX1_clearOut 7 = .ok (.aload_n 0, 1) := gX1_clearOut_0.2.2.2.2.2.1
theorem dX1_clearOut_8 : decode cX1_clearOut 8 = .ok (.iload_n 1, 1) := gX1_clearOut_0.2.2.2.2.2.2.1
theorem dX1_clearOut_9 : decode cX1_clearOut 9 = .ok (.invokevirtual 72, 3) := gX1_clearOut_0.2.2.2.2.2.2.2.1
theorem dX1_clearOut_12 : decode cX1_clearOut 12 = .ok (.ifCond .eq 10, 3) := gX1_clearOut_0.2.2.2.2.2.2.2.2.1
theorem dX1_clearOut_15 : decode cX1_clearOut 15 = .ok (.aload_n 0, 1) := gX1_clearOut_0.2.2.2.2.2.2.2.2.2.1
theorem dX1_clearOut_16 : decode cX1_clearOut 16 = .ok (.getfield 25, 3) := gX1_clearOut_0.2.2.2.2.2.2.2.2.2.2.1
theorem dX1_clearOut_19 : decode cX1_clearOut 19 = .ok (.iload_n 1, 1) := gX1_clearOut_0.2.2.2.2.2.2.2.2.2.2.2
theorem gX1_clearOut_12 : (decode cX1_clearOut 20 = .ok (.iconst 0, 1)) ∧ (decode cX1_clearOut 21 = .ok (.iastore, 1)) ∧ (decode cX1_clearOut 22 = .ok (.return_, 1)) := by decide +kernel
theorem dX1_clearOut_20 : decode cX1_clearOut 20 = .ok (.iconst 0, 1) := gX1_clearOut_12.1
theorem dX1_clearOut_21 : decode cX1_clearOut 21 = .ok (.iastore, 1) := gX1_clearOut_12.2.1
theorem dX1_clearOut_22 : decode cX1_clearOut 22 = .ok (.return_, 1) := gX1_clearOut_12.2.2
theorem gX1_clearOuts_0 : (decode cX1_clearOuts 0 = .ok (.iconst 0, 1)) ∧ (decode cX1_clearOuts 1 = .ok (.istore_n 2, 1)) ∧ (decode cX1_clearOuts 2 = .ok (.iload_n 2, 1)) ∧ (decode cX1_clearOuts 3 = .ok (.bipush 8, 2)) ∧ (decode cX1_clearOuts 5 = .ok (.if_icmp .ge 29, 3)) ∧ (decode cX1_clearOuts 8 = .ok (.iload_n 2, 1)) ∧ (decode cX1_clearOuts 9 = .ok (.iload_n 1, 1)) ∧ (decode cX1_clearOuts 10 = .ok (.invokestatic 79, 3)) ∧ (decode cX1_clearOuts 13 = .ok (.istore_n 3, 1)) ∧ (decode cX1_clearOuts 14 = .ok (.aload_n 0, 1)) ∧ (decode cX1_clearOuts 15 = .ok (.getfield 18, 3)) ∧ (decode cX1_clearOuts 18 = .ok (.iload_n 3, 1)) := by decide +kernel
theorem dX1_clearOuts_0 : decode cX1_clearOuts 0 = .ok (.iconst 0, 1) := gX1_clearOuts_0.1
theorem dX1_clearOuts_1 : decode cX1_clearOuts 1 = .ok (.istore_n 2, 1) := gX1_clearOuts_0.2.1
theorem dX1_clearOuts_2 : decode cX1_clearOuts 2 = .ok (.iload_n 2, 1) := gX1_clearOuts_0.2.2.1
theorem dX1_clearOuts_3 : decode cX1_clearOuts 3 = .ok (.bipush 8, 2) := gX1_clearOuts_0.2.2.2.1
theorem dX1_clearOuts_5 : decode cX1_clearOuts 5 = .ok (.if_icmp .ge 29, 3) := gX1_clearOuts_0.2.2.2.2.1
theorem dX1_clearOuts_8 : decode cX1_clearOuts 8 = .ok (.iload_n 2, 1) := gX1_clearOuts_0.2.2.2.2.2.1
theorem dX1_clearOuts_9 : decode cX1_clearOuts 9 = .ok (.iload_n 1, 1) := gX1_clearOuts_0.2.2.2.2.2.2.1
theorem dX1_clearOuts_10 : decode cX1_clearOuts 10 = .ok (.invokestatic 79, 3) := gX1_clearOuts_0.2.2.2.2.2.2.2.1
theorem dX1_clearOuts_13 : decode cX1_clearOuts 13 = .ok (.istore_n 3, 1) := gX1_clearOuts_0.2.2.2.2.2.2.2.2.1
theorem dX1_clearOuts_14 : decode cX1_clearOuts 14 = .ok (.aload_n 0, 1) := gX1_clearOuts_0.2.2.2.2.2.2.2.2.2.1
theorem dX1_clearOuts_15 : decode cX1_clearOuts 15 = .ok (.getfield 18, 3) := gX1_clearOuts_0.2.2.2.2.2.2.2.2.2.2.1
theorem dX1_clearOuts_18 : decode cX1_clearOuts 18 = .ok (.iload_n 3, 1) := gX1_clearOuts_0.2.2.2.2.2.2.2.2.2.2.2
theorem gX1_clearOuts_12 : (decode cX1_clearOuts 19 = .ok (.baload, 1)) ∧ (decode cX1_clearOuts 20 = .ok (.ifCond .eq 8, 3)) ∧ (decode cX1_clearOuts 23 = .ok (.aload_n 0, 1)) ∧ (decode cX1_clearOuts 24 = .ok (.iload_n 3, 1)) ∧ (decode cX1_clearOuts 25 = .ok (.invokevirtual 82, 3)) ∧ (decode cX1_clearOuts 28 = .ok (.iinc 2 1, 3)) ∧ (decode cX1_clearOuts 31 = .ok (.goto (-29), 3)) ∧ (decode cX1_clearOuts 34 = .ok (.return_, 1)) := by decide +kernel
theorem dX1_clearOuts_19 : decode cX1_clearOuts 19 = .ok (.baload, 1) := gX1_clearOuts_12.1
theorem dX1_clearOuts_20 : decode cX1_clearOuts 20 = .ok (.ifCond .eq 8, 3) := gX1_clearOuts_12.2.1
theorem dX1_clearOuts_23 : decode cX1_clearOuts 23 = .ok (.aload_n 0, 1) := gX1_clearOuts_12.2.2.1
theorem dX1_clearOuts_24 : decode cX1_clearOuts 24 = .ok (.iload_n 3, 1) := gX1_clearOuts_12.2.2.2.1
theorem dX1_clearOuts_25 : decode cX1_clearOuts 25 = .ok (.invokevirtual 82, 3) := gX1_clearOuts_12.2.2.2.2.1
theorem dX1_clearOuts_28 : decode cX1_clearOuts 28 = .ok (.iinc 2 1, 3) := gX1_clearOuts_12.2.2.2.2.2.1
theorem dX1_clearOuts_31 : decode cX1_clearOuts 31 = .ok (.goto (-29), 3) := gX1_clearOuts_12.2.2.2.2.2.2.1
theorem dX1_clearOuts_34 : decode cX1_clearOuts 34 = .ok (.return_, 1) := gX1_clearOuts_12.2.2.2.2.2.2.2
theorem gX1_isTooLow_0 : (decode cX1_isTooLow 0 = .ok (.lconst 0, 1)) ∧ (decode cX1_isTooLow 1 = .ok (.lstore_n 3, 1)) ∧ (decode cX1_isTooLow 2 = .ok (.lconst 0, 1)) ∧ (decode cX1_isTooLow 3 = .ok (.lstore 5, 2)) ∧ (decode cX1_isTooLow 5 = .ok (.iconst 0, 1)) ∧ (decode cX1_isTooLow 6 = .ok (.istore 7, 2)) ∧ (decode cX1_isTooLow 8 = .ok (.iload 7, 2)) ∧ (decode cX1_isTooLow 10 = .ok (.bipush 8, 2)) ∧ (decode cX1_isTooLow 12 = .ok (.if_icmp .ge 48, 3)) ∧ (decode cX1_isTooLow 15 = .ok (.iload 7, 2)) ∧ (decode cX1_isTooLow 17 = .ok (.iload_n 2, 1)) ∧ (decode cX1_isTooLow 18 = .ok (.invokestatic 79, 3)) := by decide +kernel
theorem dX1_isTooLow_0 : decode cX1_isTooLow 0 = .ok (.lconst 0, 1) := gX1_isTooLow_0.1
theorem dX1_isTooLow_1 : decode cX1_isTooLow 1 = .ok (.lstore_n 3, 1) := gX1_isTooLow_0.2.1
theorem dX1_isTooLow_2 : decode cX1_isTooLow 2 = .ok (.lconst 0, 1) := gX1_isTooLow_0.2.2.1
theorem dX1_isTooLow_3 : decode cX1_isTooLow 3 = .ok (.lstore 5, 2) := gX1_isTooLow_0.2.2.2.1
theorem dX1_isTooLow_5 : decode cX1_isTooLow 5 = .ok (.iconst 0, 1) := gX1_isTooLow_0.2.2.2.2.1
theorem dX1_isTooLow_6 : decode cX1_isTooLow 6 = .ok (.istore 7, 2) := gX1_isTooLow_0.2.2.2.2.2.1
theorem dX1_isTooLow_8 : decode cX1_isTooLow 8 = .ok (.iload 7, 2) := gX1_isTooLow_0.2.2.2.2.2.2.1
theorem dX1_isTooLow_10 : decode cX1_isTooLow 10 = .ok (.bipush 8, 2) := gX1_isTooLow_0.2.2.2.2.2.2.2.1
theorem dX1_isTooLow_12 : decode cX1_isTooLow 12 = .ok (.if_icmp .ge 48, 3) := gX1_isTooLow_0.2.2.2.2.2.2.2.2.1
theorem dX1_isTooLow_15 : decode cX1_isTooLow 15 = .ok (.iload 7, 2) := gX1_isTooLow_0.2.2.2.2.2.2.2.2.2.1
theorem dX1_isTooLow_17 : decode cX1_isTooLow 17 = .ok (.iload_n 2, 1) := gX1_isTooLow_0.2.2.2.2.2.2.2.2.2.2.1
theorem dX1_isTooLow_18 : decode cX1_isTooLow 18 = .ok (.invokestatic 79, 3) := gX1_isTooLow_0.2.2.2.2.2.2.2.2.2.2.2
theorem gX1_isTooLow_12 : (decode cX1_isTooLow 21 = .ok (.istore 8, 2)) ∧ (decode cX1_isTooLow 23 = .ok (.iload 7, 2)) ∧ (decode cX1_isTooLow 25 = .ok (.iload_n 1, 1)) ∧ (decode cX1_isTooLow 26 = .ok (.if_icmp .eq 28, 3)) ∧ (decode cX1_isTooLow 29 = .ok (.aload_n 0, 1)) ∧ (decode cX1_isTooLow 30 = .ok (.iload 8, 2)) ∧ (decode cX1_isTooLow 32 = .ok (.invokevirtual 85, 3)) ∧ (decode cX1_isTooLow 35 = .ok (.ifCond .eq 19, 3)) ∧ (decode cX1_isTooLow 38 = .ok (.lload_n 3, 1)) ∧ (decode cX1_isTooLow 39 = .ok (.lconst 1, 1)) ∧ (decode cX1_isTooLow 40 = .ok (.ladd, 1)) ∧ (decode cX1_isTooLow 41 = .ok (.lstore_n 3, 1)) := by decide +kernel
theorem dX1_isTooLow_21 : decode cX1_isTooLow 21 = .ok (.istore 8, 2) := gX1_isTooLow_12.1
theorem dX1_isTooLow_23 : decode cX1_isTooLow 23 = .ok (.iload 7, 2) := gX1_isTooLow_12.2.1
theorem dX1_isTooLow_25 : decode cX1_isTooLow 25 = .ok (.iload_n 1, 1) := gX1_isTooLow_12.2.2.1
theorem dX1_isTooLow_26 : decode cX1_isTooLow 26 = .ok (.if_icmp .eq 28, 3) := gX1_isTooLow_12.2.2.2.1
theorem dX1_isTooLow_29 : decode cX1_isTooLow 29 = .ok (.aload_n 0, 1) := gX1_isTooLow_12.2.2.2.2.1
theorem dX1_isTooLow_30 : decode cX1_isTooLow 30 = .ok (.iload 8, 2) := gX1_isTooLow_12.2.2.2.2.2.1
theorem dX1_isTooLow_32 : decode cX1_isTooLow 32 = .ok (.invokevirtual 85, 3) := gX1_isTooLow_12.2.2.2.2.2.2.1
theorem dX1_isTooLow_35 : decode cX1_isTooLow 35 = .ok (.ifCond .eq 19, 3) := gX1_isTooLow_12.2.2.2.2.2.2.2.1
theorem dX1_isTooLow_38 : decode cX1_isTooLow 38 = .ok (.lload_n 3, 1) := gX1_isTooLow_12.2.2.2.2.2.2.2.2.1
theorem dX1_isTooLow_39 : decode cX1_isTooLow 39 = .ok (.lconst 1, 1) := gX1_isTooLow_12.2.2.2.2.2.2.2.2.2.1
theorem dX1_isTooLow_40 : decode cX1_isTooLow 40 = .ok (.ladd, 1) := gX1_isTooLow_12.2.2.2.2.2.2.2.2.2.2.1
theorem dX1_isTooLow_41 : decode cX1_isTooLow 41 = .ok (.lstore_n 3, 1) := gX1_isTooLow_12.2.2.2.2.2.2.2.2.2.2.2
theorem gX1_isTooLow_24 : (decode cX1_isTooLow 42 = .ok (.lload 5, 2)) ∧ (decode cX1_isTooLow 44 = .ok (.aload_n 0, 1)) ∧ (decode cX1_isTooLow 45 = .ok (.iload 8, 2)) ∧ (decode cX1_isTooLow 47 = .ok (.invokevirtual 88, 3)) ∧ (decode cX1_isTooLow 50 = .ok (.i2l, 1)) ∧ (decode cX1_isTooLow 51 = .ok (.ladd, 1)) ∧ (decode cX1_isTooLow 52 = .ok (.lstore 5, 2)) ∧ (decode cX1_isTooLow 54 = .ok (.iinc 7 1, 3)) ∧ (decode cX1_isTooLow 57 = .ok (.goto (-49), 3)) ∧ (decode cX1_isTooLow 60 = .ok (.aload_n 0, 1)) ∧ (decode cX1_isTooLow 61 = .ok (.iload_n 1, 1)) ∧ (decode cX1_isTooLow 62 = .ok (.iload_n 2, 1)) := by decide +kernel
theorem dX1_isTooLow_42 : decode cX1_isTooLow 42 = .ok (.lload 5, 2) := gX1_isTooLow_24.1
theorem dX1_isTooLow_44 : decode cX1_isTooLow 44 = .ok (.aload_n 0, 1) := gX1_isTooLow_24.2.1
theorem dX1_isTooLow_45 : decode cX1_isTooLow 45 = .ok (.iload 8, 2) := gX1_isTooLow_24.2.2.1
theorem dX1_isTooLow_47 : decode cX1_isTooLow 47 = .ok (.invokevirtual 88, 3) := gX1_isTooLow_24.2.2.2.1
theorem dX1_isTooLow_50 : decode cX1_isTooLow 50 = .ok (.i2l, 1) := gX1_isTooLow_24.2.2.2.2.1
theorem dX1_isTooLow_51 : decode cX1_isTooLow 51 = .ok (.ladd, 1) := gX1_isTooLow_24.2.2.2.2.2.1
theorem dX1_isTooLow_52 : decode cX1_isTooLow 52 = .ok (.lstore 5, 2) := gX1_isTooLow_24.2.2.2.2.2.2.1
theorem dX1_isTooLow_54 : decode cX1_isTooLow 54 = .ok (.iinc 7 1, 3) := gX1_isTooLow_24.2.2.2.2.2.2.2.1
theorem dX1_isTooLow_57 : decode cX1_isTooLow 57 = .ok (.goto (-49), 3) := gX1_isTooLow_24.2.2.2.2.2.2.2.2.1
theorem dX1_isTooLow_60 : decode cX1_isTooLow 60 = .ok (.aload_n 0, 1) := gX1_isTooLow_24.2.2.2.2.2.2.2.2.2.1
theorem dX1_isTooLow_61 : decode cX1_isTooLow 61 = .ok (.iload_n 1, 1) := gX1_isTooLow_24.2.2.2.2.2.2.2.2.2.2.1
theorem dX1_isTooLow_62 : decode cX1_isTooLow 62 = .ok (.iload_n 2, 1) := gX1_isTooLow_24.2.2.2.2.2.2.2.2.2.2.2
theorem gX1_isTooLow_36 : (decode cX1_isTooLow 63 = .ok (.invokestatic 79, 3)) ∧ (decode cX1_isTooLow 66 = .ok (.invokevirtual 88, 3)) ∧ (decode cX1_isTooLow 69 = .ok (.i2l, 1)) ∧ (decode cX1_isTooLow 70 = .ok (.ldc2_w 91, 3)) ∧ (decode cX1_isTooLow 73 = .ok (.lmul, 1)) ∧ (decode cX1_isTooLow 74 = .ok (.lload_n 3, 1)) ∧ (decode cX1_isTooLow 75 = .ok (.lmul, 1)) ∧ (decode cX1_isTooLow 76 = .ok (.aload_n 0, 1)) ∧ (decode cX1_isTooLow 77 = .ok (.getfield 9, 3)) ∧ (decode cX1_isTooLow 80 = .ok (.iconst 2, 1)) ∧ (decode cX1_isTooLow 81 = .ok (.iaload, 1)) ∧ (decode cX1_isTooLow 82 = .ok (.i2l, 1)) := by decide +kernel
theorem dX1_isTooLow_63 : decode cX1_isTooLow 63 = .ok (.invokestatic 79, 3) := gX1_isTooLow_36.1
theorem dX1_isTooLow_66 : decode cX1_isTooLow 66 = .ok (.invokevirtual 88, 3) := gX1_isTooLow_36.2.1
theorem dX1_isTooLow_69 : decode cX1_isTooLow 69 = .ok (.i2l, 1) := gX1_isTooLow_36.2.2.1
theorem dX1_isTooLow_70 : decode cX1_isTooLow 70 = .ok (.ldc2_w 91, 3) := gX1_isTooLow_36.2.2.2.1
theorem dX1_isTooLow_73 : decode cX1_isTooLow 73 = .ok (.lmul, 1) := gX1_isTooLow_36.2.2.2.2.1
theorem dX1_isTooLow_74 : decode cX1_isTooLow 74 = .ok (.lload_n 3, 1) := gX1_isTooLow_36.2.2.2.2.2.1
theorem dX1_isTooLow_75 : decode cX1_isTooLow 75 = .ok (.lmul, 1) := gX1_isTooLow_36.2.2.2.2.2.2.1
theorem dX1_isTooLow_76 : decode cX1_isTooLow 76 = .ok (.aload_n 0, 1) := gX1_isTooLow_36.2.2.2.2.2.2.2.1
theorem dX1_isTooLow_77 : decode cX1_isTooLow 77 = .ok (.getfield 9, 3) := gX1_isTooLow_36.2.2.2.2.2.2.2.2.1
theorem dX1_isTooLow_80 : decode cX1_isTooLow 80 = .ok (.iconst 2, 1) := gX1_isTooLow_36.2.2.2.2.2.2.2.2.2.1
theorem dX1_isTooLow_81 : decode cX1_isTooLow 81 = .ok (.iaload, 1) := gX1_isTooLow_36.2.2.2.2.2.2.2.2.2.2.1
theorem dX1_isTooLow_82 : decode cX1_isTooLow 82 = .ok (.i2l, 1) := gX1_isTooLow_36.2.2.2.2.2.2.2.2.2.2.2
theorem gX1_isTooLow_48 : (decode cX1_isTooLow 83 = .ok (.lload 5, 2)) ∧ (decode cX1_isTooLow 85 = .ok (.lmul, 1)) ∧ (decode cX1_isTooLow 86 = .ok (.lcmp, 1)) ∧ (decode cX1_isTooLow 87 = .ok (.ifCond .ge 7, 3)) ∧ (decode cX1_isTooLow 90 = .ok (.iconst 1, 1)) ∧ (decode cX1_isTooLow 91 = .ok (.goto 4, 3)) ∧ (decode cX1_isTooLow 94 = .ok (.iconst 0, 1)) ∧ (decode cX1_isTooLow 95 = .ok (.ireturn, 1)) := by decide +kernel
theorem dX1_isTooLow_83 : decode cX1_isTooLow 83 = .ok (.lload 5, 2) := gX1_isTooLow_48.1
theorem dX1_isTooLow_85 : decode cX1_isTooLow 85 = .ok (.lmul, 1) := gX1_isTooLow_48.2.1
theorem dX1_isTooLow_86 : decode cX1_isTooLow 86 = .ok (.lcmp, 1) := gX1_isTooLow_48.2.2.1
theorem dX1_isTooLow_87 : decode cX1_isTooLow 87 = .ok (.ifCond .ge 7, 3) := gX1_isTooLow_48.2.2.2.1
theorem dX1_isTooLow_90 : decode cX1_isTooLow 90 = .ok (.iconst 1, 1) := gX1_isTooLow_48.2.2.2.2.1
theorem dX1_isTooLow_91 : decode cX1_isTooLow 91 = .ok (.goto 4, 3) := gX1_isTooLow_48.2.2.2.2.2.1
theorem dX1_isTooLow_94 : decode cX1_isTooLow 94 = .ok (.iconst 0, 1) := gX1_isTooLow_48.2.2.2.2.2.2.1
theorem dX1_isTooLow_95 : decode cX1_isTooLow 95 = .ok (.ireturn, 1) := gX1_isTooLow_48.2.2.2.2.2.2.2
theorem gX1_countThere_0 : (decode cX1_countThere 0 = .ok (.iconst 0, 1)) ∧ (decode cX1_countThere 1 = .ok (.istore_n 1, 1)) ∧ (decode cX1_countThere 2 = .ok (.iconst 0, 1)) ∧ (decode cX1_countThere 3 = .ok (.istore_n 2, 1)) ∧ (decode cX1_countThere 4 = .ok (.iload_n 2, 1)) ∧ (decode cX1_countThere 5 = .ok (.bipush 48, 2)) ∧ (decode cX1_countThere 7 = .ok (.if_icmp .ge 21, 3)) ∧ (decode cX1_countThere 10 = .ok (.aload_n 0, 1)) ∧ (decode cX1_countThere 11 = .ok (.getfield 18, 3)) ∧ (decode cX1_countThere 14 = .ok (.iload_n 2, 1)) ∧ (decode cX1_countThere 15 = .ok (.baload, 1)) ∧ (decode cX1_countThere 16 = .ok (.ifCond .eq 6, 3)) := by decide +kernel
theorem dX1_countThere_0 : decode cX1_countThere 0 = .ok (.iconst 0, 1) := gX1_countThere_0.1
theorem dX1_countThere_1 : decode cX1_countThere 1 = .ok (.istore_n 1, 1) := gX1_countThere_0.2.1
theorem dX1_countThere_2 : decode cX1_countThere 2 = .ok (.iconst 0, 1) := gX1_countThere_0.2.2.1
theorem dX1_countThere_3 : decode cX1_countThere 3 = .ok (.istore_n 2, 1) := gX1_countThere_0.2.2.2.1
theorem dX1_countThere_4 : decode cX1_countThere 4 = .ok (.iload_n 2, 1) := gX1_countThere_0.2.2.2.2.1
theorem dX1_countThere_5 : decode cX1_countThere 5 = .ok (.bipush 48, 2) := gX1_countThere_0.2.2.2.2.2.1
theorem dX1_countThere_7 : decode cX1_countThere 7 = .ok (.if_icmp .ge 21, 3) := gX1_countThere_0.2.2.2.2.2.2.1
theorem dX1_countThere_10 : decode cX1_countThere 10 = .ok (.aload_n 0, 1) := gX1_countThere_0.2.2.2.2.2.2.2.1
theorem dX1_countThere_11 : decode cX1_countThere 11 = .ok (.getfield 18, 3) := gX1_countThere_0.2.2.2.2.2.2.2.2.1
theorem dX1_countThere_14 : decode cX1_countThere 14 = .ok (.iload_n 2, 1) := gX1_countThere_0.2.2.2.2.2.2.2.2.2.1
theorem dX1_countThere_15 : decode cX1_countThere 15 = .ok (.baload, 1) := gX1_countThere_0.2.2.2.2.2.2.2.2.2.2.1
theorem dX1_countThere_16 : decode cX1_countThere 16 = .ok (.ifCond .eq 6, 3) := gX1_countThere_0.2.2.2.2.2.2.2.2.2.2.2
theorem gX1_countThere_12 : (decode cX1_countThere 19 = .ok (.iinc 1 1, 3)) ∧ (decode cX1_countThere 22 = .ok (.iinc 2 1, 3)) ∧ (decode cX1_countThere 25 = .ok (.goto (-21), 3)) ∧ (decode cX1_countThere 28 = .ok (.iload_n 1, 1)) ∧ (decode cX1_countThere 29 = .ok (.ireturn, 1)) := by decide +kernel
theorem dX1_countThere_19 : decode cX1_countThere 19 = .ok (.iinc 1 1, 3) := gX1_countThere_12.1
theorem dX1_countThere_22 : decode cX1_countThere 22 = .ok (.iinc 2 1, 3) := gX1_countThere_12.2.1
theorem dX1_countThere_25 : decode cX1_countThere 25 = .ok (.goto (-21), 3) := gX1_countThere_12.2.2.1
theorem dX1_countThere_28 : decode cX1_countThere 28 = .ok (.iload_n 1, 1) := gX1_countThere_12.2.2.2.1
theorem dX1_countThere_29 : decode cX1_countThere 29 = .ok (.ireturn, 1) := gX1_countThere_12.2.2.2.2
theorem gX1_countStanding_0 : (decode cX1_countStanding 0 = .ok (.iconst 0, 1)) ∧ (decode cX1_countStanding 1 = .ok (.istore_n 1, 1)) ∧ (decode cX1_countStanding 2 = .ok (.iconst 0, 1)) ∧ (decode cX1_countStanding 3 = .ok (.istore_n 2, 1)) ∧ (decode cX1_countStanding 4 = .ok (.iload_n 2, 1)) ∧ (decode cX1_countStanding 5 = .ok (.bipush 48, 2)) ∧ (decode cX1_countStanding 7 = .ok (.if_icmp .ge 20, 3)) ∧ (decode cX1_countStanding 10 = .ok (.aload_n 0, 1)) ∧ (decode cX1_countStanding 11 = .ok (.iload_n 2, 1)) ∧ (decode cX1_countStanding 12 = .ok (.invokevirtual 85, 3)) ∧ (decode cX1_countStanding 15 = .ok (.ifCond .eq 6, 3)) ∧ (decode cX1_countStanding 18 = .ok (.iinc 1 1, 3)) := by decide +kernel
theorem dX1_countStanding_0 : decode cX1_countStanding 0 = .ok (.iconst 0, 1) := gX1_countStanding_0.1
theorem dX1_countStanding_1 : decode cX1_countStanding 1 = .ok (.istore_n 1, 1) := gX1_countStanding_0.2.1
theorem dX1_countStanding_2 : decode cX1_countStanding 2 = .ok (.iconst 0, 1) := gX1_countStanding_0.2.2.1
theorem dX1_countStanding_3 : decode cX1_countStanding 3 = .ok (.istore_n 2, 1) := gX1_countStanding_0.2.2.2.1
theorem dX1_countStanding_4 : decode cX1_countStanding 4 = .ok (.iload_n 2, 1) := gX1_countStanding_0.2.2.2.2.1
theorem dX1_countStanding_5 : decode cX1_countStanding 5 = .ok (.bipush 48, 2) := gX1_countStanding_0.2.2.2.2.2.1
theorem dX1_countStanding_7 : decode cX1_countStanding 7 = .ok (.if_icmp .ge 20, 3) := gX1_countStanding_0.2.2.2.2.2.2.1
theorem dX1_countStanding_10 : decode cX1_countStanding 10 = .ok (.aload_n 0, 1) := gX1_countStanding_0.2.2.2.2.2.2.2.1
theorem dX1_countStanding_11 : decode cX1_countStanding 11 = .ok (.iload_n 2, 1) := gX1_countStanding_0.2.2.2.2.2.2.2.2.1
theorem dX1_countStanding_12 : decode cX1_countStanding 12 = .ok (.invokevirtual 85, 3) := gX1_countStanding_0.2.2.2.2.2.2.2.2.2.1
theorem dX1_countStanding_15 : decode cX1_countStanding 15 = .ok (.ifCond .eq 6, 3) := gX1_countStanding_0.2.2.2.2.2.2.2.2.2.2.1
theorem dX1_countStanding_18 : decode cX1_countStanding 18 = .ok (.iinc 1 1, 3) := gX1_countStanding_0.2.2.2.2.2.2.2.2.2.2.2
theorem gX1_countStanding_12 : (decode cX1_countStanding 21 = .ok (.iinc 2 1, 3)) ∧ (decode cX1_countStanding 24 = .ok (.goto (-20), 3)) ∧ (decode cX1_countStanding 27 = .ok (.iload_n 1, 1)) ∧ (decode cX1_countStanding 28 = .ok (.ireturn, 1)) := by decide +kernel
theorem dX1_countStanding_21 : decode cX1_countStanding 21 = .ok (.iinc 2 1, 3) := gX1_countStanding_12.1
theorem dX1_countStanding_24 : decode cX1_countStanding 24 = .ok (.goto (-20), 3) := gX1_countStanding_12.2.1
theorem dX1_countStanding_27 : decode cX1_countStanding 27 = .ok (.iload_n 1, 1) := gX1_countStanding_12.2.2.1
theorem dX1_countStanding_28 : decode cX1_countStanding 28 = .ok (.ireturn, 1) := gX1_countStanding_12.2.2.2
theorem gX2_init_0 : (decode cX2_init 0 = .ok (.aload_n 0, 1)) ∧ (decode cX2_init 1 = .ok (.invokespecial 3, 3)) ∧ (decode cX2_init 4 = .ok (.aload_n 0, 1)) ∧ (decode cX2_init 5 = .ok (.bipush 80, 2)) ∧ (decode cX2_init 7 = .ok (.newarray .int, 2)) ∧ (decode cX2_init 9 = .ok (.putfield 9, 3)) ∧ (decode cX2_init 12 = .ok (.aload_n 0, 1)) ∧ (decode cX2_init 13 = .ok (.iconst 1, 1)) ∧ (decode cX2_init 14 = .ok (.putfield 15, 3)) ∧ (decode cX2_init 17 = .ok (.aload_n 0, 1)) ∧ (decode cX2_init 18 = .ok (.bipush 80, 2)) ∧ (decode cX2_init 20 = .ok (.newarray .int, 2)) := by decide +kernel
theorem dX2_init_0 : decode cX2_init 0 = .ok (.aload_n 0, 1) := gX2_init_0.1
theorem dX2_init_1 : decode cX2_init 1 = .ok (.invokespecial 3, 3) := gX2_init_0.2.1
theorem dX2_init_4 : decode cX2_init 4 = .ok (.aload_n 0, 1) := gX2_init_0.2.2.1
theorem dX2_init_5 : decode cX2_init 5 = .ok (.bipush 80, 2) := gX2_init_0.2.2.2.1
theorem dX2_init_7 : decode cX2_init 7 = .ok (.newarray .int, 2) := gX2_init_0.2.2.2.2.1
theorem dX2_init_9 : decode cX2_init 9 = .ok (.putfield 9, 3) := gX2_init_0.2.2.2.2.2.1
theorem dX2_init_12 : decode cX2_init 12 = .ok (.aload_n 0, 1) := gX2_init_0.2.2.2.2.2.2.1
theorem dX2_init_13 : decode cX2_init 13 = .ok (.iconst 1, 1) := gX2_init_0.2.2.2.2.2.2.2.1
theorem dX2_init_14 : decode cX2_init 14 = .ok (.putfield 15, 3) := gX2_init_0.2.2.2.2.2.2.2.2.1
theorem dX2_init_17 : decode cX2_init 17 = .ok (.aload_n 0, 1) := gX2_init_0.2.2.2.2.2.2.2.2.2.1
theorem dX2_init_18 : decode cX2_init 18 = .ok (.bipush 80, 2) := gX2_init_0.2.2.2.2.2.2.2.2.2.2.1
theorem dX2_init_20 : decode cX2_init 20 = .ok (.newarray .int, 2) := gX2_init_0.2.2.2.2.2.2.2.2.2.2.2
theorem gX2_init_12 : (decode cX2_init 22 = .ok (.putfield 19, 3)) ∧ (decode cX2_init 25 = .ok (.aload_n 0, 1)) ∧ (decode cX2_init 26 = .ok (.bipush 80, 2)) ∧ (decode cX2_init 28 = .ok (.newarray .int, 2)) ∧ (decode cX2_init 30 = .ok (.putfield 22, 3)) ∧ (decode cX2_init 33 = .ok (.aload_n 0, 1)) ∧ (decode cX2_init 34 = .ok (.getfield 9, 3)) ∧ (decode cX2_init 37 = .ok (.iconst 0, 1)) ∧ (decode cX2_init 38 = .ok (.bipush (-113), 2)) ∧ (decode cX2_init 40 = .ok (.iastore, 1)) ∧ (decode cX2_init 41 = .ok (.return_, 1)) := by decide +kernel
theorem dX2_init_22 : decode cX2_init 22 = .ok (.putfield 19, 3) := gX2_init_12.1
theorem dX2_init_25 : decode cX2_init 25 = .ok (.aload_n 0, 1) := gX2_init_12.2.1
theorem dX2_init_26 : decode cX2_init 26 = .ok (.bipush 80, 2) := gX2_init_12.2.2.1
theorem dX2_init_28 : decode cX2_init 28 = .ok (.newarray .int, 2) := gX2_init_12.2.2.2.1
theorem dX2_init_30 : decode cX2_init 30 = .ok (.putfield 22, 3) := gX2_init_12.2.2.2.2.1
theorem dX2_init_33 : decode cX2_init 33 = .ok (.aload_n 0, 1) := gX2_init_12.2.2.2.2.2.1
theorem dX2_init_34 : decode cX2_init 34 = .ok (.getfield 9, 3) := gX2_init_12.2.2.2.2.2.2.1
theorem dX2_init_37 : decode cX2_init 37 = .ok (.iconst 0, 1) := gX2_init_12.2.2.2.2.2.2.2.1
theorem dX2_init_38 : decode cX2_init 38 = .ok (.bipush (-113), 2) := gX2_init_12.2.2.2.2.2.2.2.2.1
theorem dX2_init_40 : decode cX2_init 40 = .ok (.iastore, 1) := gX2_init_12.2.2.2.2.2.2.2.2.2.1
theorem dX2_init_41 : decode cX2_init 41 = .ok (.return_, 1) := gX2_init_12.2.2.2.2.2.2.2.2.2.2
theorem gX2_useQuality_0 : (decode cX2_useQuality 0 = .ok (.aload_n 0, 1)) ∧ (decode cX2_useQuality 1 = .ok (.getfield 9, 3)) ∧ (decode cX2_useQuality 4 = .ok (.iconst 0, 1)) ∧ (decode cX2_useQuality 5 = .ok (.bipush (-113), 2)) ∧ (decode cX2_useQuality 7 = .ok (.iastore, 1)) ∧ (decode cX2_useQuality 8 = .ok (.aload_n 0, 1)) ∧ (decode cX2_useQuality 9 = .ok (.iconst 1, 1)) ∧ (decode cX2_useQuality 10 = .ok (.putfield 15, 3)) ∧ (decode cX2_useQuality 13 = .ok (.return_, 1)) := by decide +kernel
theorem dX2_useQuality_0 : decode cX2_useQuality 0 = .ok (.aload_n 0, 1) := gX2_useQuality_0.1
theorem dX2_useQuality_1 : decode cX2_useQuality 1 = .ok (.getfield 9, 3) := gX2_useQuality_0.2.1
theorem dX2_useQuality_4 : decode cX2_useQuality 4 = .ok (.iconst 0, 1) := gX2_useQuality_0.2.2.1
theorem dX2_useQuality_5 : decode cX2_useQuality 5 = .ok (.bipush (-113), 2) := gX2_useQuality_0.2.2.2.1
theorem dX2_useQuality_7 : decode cX2_useQuality 7 = .ok (.iastore, 1) := gX2_useQuality_0.2.2.2.2.1
theorem dX2_useQuality_8 : decode cX2_useQuality 8 = .ok (.aload_n 0, 1) := gX2_useQuality_0.2.2.2.2.2.1
theorem dX2_useQuality_9 : decode cX2_useQuality 9 = .ok (.iconst 1, 1) := gX2_useQuality_0.2.2.2.2.2.2.1
theorem dX2_useQuality_10 : decode cX2_useQuality 10 = .ok (.putfield 15, 3) := gX2_useQuality_0.2.2.2.2.2.2.2.1
theorem dX2_useQuality_13 : decode cX2_useQuality 13 = .ok (.return_, 1) := gX2_useQuality_0.2.2.2.2.2.2.2.2
theorem gX2_take_0 : (decode cX2_take 0 = .ok (.lload_n 2, 1)) ∧ (decode cX2_take 1 = .ok (.lstore 4, 2)) ∧ (decode cX2_take 3 = .ok (.iconst 0, 1)) ∧ (decode cX2_take 4 = .ok (.istore 6, 2)) ∧ (decode cX2_take 6 = .ok (.iload 6, 2)) ∧ (decode cX2_take 8 = .ok (.iload_n 1, 1)) ∧ (decode cX2_take 9 = .ok (.if_icmp .ge 51, 3)) ∧ (decode cX2_take 12 = .ok (.aload_n 0, 1)) ∧ (decode cX2_take 13 = .ok (.getfield 25, 3)) ∧ (decode cX2_take 16 = .ok (.bipush 80, 2)) ∧ (decode cX2_take 18 = .ok (.if_icmp .ge 42, 3)) ∧ (decode cX2_take 21 = .ok (.aload_n 0, 1)) := by decide +kernel
theorem dX2_take_0 : decode cX2_take 0 = .ok (.lload_n 2, 1) := gX2_take_0.1
theorem dX2_take_1 : decode cX2_take 1 = .ok (.lstore 4, 2) := gX2_take_0.2.1
theorem dX2_take_3 : decode cX2_take 3 = .ok (.iconst 0, 1) := gX2_take_0.2.2.1
theorem dX2_take_4 : decode cX2_take 4 = .ok (.istore 6, 2) := gX2_take_0.2.2.2.1
theorem dX2_take_6 : decode cX2_take 6 = .ok (.iload 6, 2) := gX2_take_0.2.2.2.2.1
theorem dX2_take_8 : decode cX2_take 8 = .ok (.iload_n 1, 1) := gX2_take_0.2.2.2.2.2.1
theorem dX2_take_9 : decode cX2_take 9 = .ok (.if_icmp .ge 51, 3) := gX2_take_0.2.2.2.2.2.2.1
theorem dX2_take_12 : decode cX2_take 12 = .ok (.aload_n 0, 1) := gX2_take_0.2.2.2.2.2.2.2.1
theorem dX2_take_13 : decode cX2_take 13 = .ok (.getfield 25, 3) := gX2_take_0.2.2.2.2.2.2.2.2.1
theorem dX2_take_16 : decode cX2_take 16 = .ok (.bipush 80, 2) := gX2_take_0.2.2.2.2.2.2.2.2.2.1
theorem dX2_take_18 : decode cX2_take 18 = .ok (.if_icmp .ge 42, 3) := gX2_take_0.2.2.2.2.2.2.2.2.2.2.1
theorem dX2_take_21 : decode cX2_take 21 = .ok (.aload_n 0, 1) := gX2_take_0.2.2.2.2.2.2.2.2.2.2.2
theorem gX2_take_12 : (decode cX2_take 22 = .ok (.getfield 19, 3)) ∧ (decode cX2_take 25 = .ok (.aload_n 0, 1)) ∧ (decode cX2_take 26 = .ok (.getfield 25, 3)) ∧ (decode cX2_take 29 = .ok (.lload 4, 2)) ∧ (decode cX2_take 31 = .ok (.ldc2_w 28, 3)) ∧ (decode cX2_take 34 = .ok (.land, 1)) ∧ (decode cX2_take 35 = .ok (.l2i, 1)) ∧ (decode cX2_take 36 = .ok (.iastore, 1)) ∧ (decode cX2_take 37 = .ok (.lload 4, 2)) ∧ (decode cX2_take 39 = .ok (.bipush 8, 2)) ∧ (decode cX2_take 41 = .ok (.lushr, 1)) ∧ (decode cX2_take 42 = .ok (.lstore 4, 2)) := by decide +kernel
theorem dX2_take_22 : decode cX2_take 22 = .ok (.getfield 19, 3) := gX2_take_12.1
theorem dX2_take_25 : decode cX2_take 25 = .ok (.aload_n 0, 1) := gX2_take_12.2.1
theorem dX2_take_26 : decode cX2_take 26 = .ok (.getfield 25, 3) := gX2_take_12.2.2.1
theorem dX2_take_29 : decode cX2_take 29 = .ok (.lload 4, 2) := gX2_take_12.2.2.2.1
theorem dX2_take_31 : decode cX2_take 31 = .ok (.ldc2_w 28, 3) := gX2_take_12.2.2.2.2.1
theorem dX2_take_34 : decode cX2_take 34 = .ok (.land, 1) := gX2_take_12.2.2.2.2.2.1
theorem dX2_take_35 : decode cX2_take 35 = .ok (.l2i, 1) := gX2_take_12.2.2.2.2.2.2.1
theorem dX2_take_36 : decode cX2_take 36 = .ok (.iastore, 1) := gX2_take_12.2.2.2.2.2.2.2.1
theorem dX2_take_37 : decode cX2_take 37 = .ok (.lload 4, 2) := gX2_take_12.2.2.2.2.2.2.2.2.1
theorem dX2_take_39 : decode cX2_take 39 = .ok (.bipush 8, 2) := gX2_take_12.2.2.2.2.2.2.2.2.2.1
theorem dX2_take_41 : decode cX2_take 41 = .ok (.lushr, 1) := gX2_take_12.2.2.2.2.2.2.2.2.2.2.1
theorem dX2_take_42 : decode cX2_take 42 = .ok (.lstore 4, 2) := gX2_take_12.2.2.2.2.2.2.2.2.2.2.2
theorem gX2_take_24 : (decode cX2_take 44 = .ok (.aload_n 0, 1)) ∧ (decode cX2_take 45 = .ok (.dup, 1)) ∧ (decode cX2_take 46 = .ok (.getfield 25, 3)) ∧ (decode cX2_take 49 = .ok (.iconst 1, 1)) ∧ (decode cX2_take 50 = .ok (.iadd, 1)) ∧ (decode cX2_take 51 = .ok (.putfield 25, 3)) ∧ (decode cX2_take 54 = .ok (.iinc 6 1, 3)) ∧ (decode cX2_take 57 = .ok (.goto (-51), 3)) ∧ (decode cX2_take 60 = .ok (.aload_n 0, 1)) ∧ (decode cX2_take 61 = .ok (.getfield 25, 3)) ∧ (decode cX2_take 64 = .ok (.ireturn, 1)) := by decide +kernel
theorem dX2_take_44 : decode cX2_take 44 = .ok (.aload_n 0, 1) := gX2_take_24.1
theorem dX2_take_45 : decode cX2_take 45 = .ok (.dup, 1) := gX2_take_24.2.1
theorem dX2_take_46 : decode cX2_take 46 = .ok (.getfield 25, 3) := gX2_take_24.2.2.1
theorem dX2_take_49 : decode cX2_take 49 = .ok (.iconst 1, 1) := gX2_take_24.2.2.2.1
theorem dX2_take_50 : decode cX2_take 50 = .ok (.iadd, 1) := gX2_take_24.2.2.2.2.1
theorem dX2_take_51 : decode cX2_take 51 = .ok (.putfield 25, 3) := gX2_take_24.2.2.2.2.2.1
theorem dX2_take_54 : decode cX2_take 54 = .ok (.iinc 6 1, 3) := gX2_take_24.2.2.2.2.2.2.1
theorem dX2_take_57 : decode cX2_take 57 = .ok (.goto (-51), 3) := gX2_take_24.2.2.2.2.2.2.2.1
theorem dX2_take_60 : decode cX2_take 60 = .ok (.aload_n 0, 1) := gX2_take_24.2.2.2.2.2.2.2.2.1
theorem dX2_take_61 : decode cX2_take 61 = .ok (.getfield 25, 3) := gX2_take_24.2.2.2.2.2.2.2.2.2.1
theorem dX2_take_64 : decode cX2_take 64 = .ok (.ireturn, 1) := gX2_take_24.2.2.2.2.2.2.2.2.2.2
theorem gX2_readTape_0 : (decode cX2_readTape 0 = .ok (.aload_n 0, 1)) ∧ (decode cX2_readTape 1 = .ok (.iconst 0, 1)) ∧ (decode cX2_readTape 2 = .ok (.putfield 30, 3)) ∧ (decode cX2_readTape 5 = .ok (.aload_n 0, 1)) ∧ (decode cX2_readTape 6 = .ok (.iconst 0, 1)) ∧ (decode cX2_readTape 7 = .ok (.putfield 33, 3)) ∧ (decode cX2_readTape 10 = .ok (.aload_n 0, 1)) ∧ (decode cX2_readTape 11 = .ok (.iconst 0, 1)) ∧ (decode cX2_readTape 12 = .ok (.putfield 36, 3)) ∧ (decode cX2_readTape 15 = .ok (.aload_n 0, 1)) ∧ (decode cX2_readTape 16 = .ok (.iconst (-1), 1)) ∧ (decode cX2_readTape 17 = .ok (.putfield 39, 3)) := by decide +kernel
theorem dX2_readTape_0 : decode cX2_readTape 0 = .ok (.aload_n 0, 1) := gX2_readTape_0.1
theorem dX2_readTape_1 : decode cX2_readTape 1 = .ok (.iconst 0, 1) := gX2_readTape_0.2.1
theorem dX2_readTape_2 : decode cX2_readTape 2 = .ok (.putfield 30, 3) := gX2_readTape_0.2.2.1
theorem dX2_readTape_5 : decode cX2_readTape 5 = .ok (.aload_n 0, 1) := gX2_readTape_0.2.2.2.1
theorem dX2_readTape_6 : decode cX2_readTape 6 = .ok (.iconst 0, 1) := gX2_readTape_0.2.2.2.2.1
theorem dX2_readTape_7 : decode cX2_readTape 7 = .ok (.putfield 33, 3) := gX2_readTape_0.2.2.2.2.2.1
theorem dX2_readTape_10 : decode cX2_readTape 10 = .ok (.aload_n 0, 1) := gX2_readTape_0.2.2.2.2.2.2.1
theorem dX2_readTape_11 : decode cX2_readTape 11 = .ok (.iconst 0, 1) := gX2_readTape_0.2.2.2.2.2.2.2.1
theorem dX2_readTape_12 : decode cX2_readTape 12 = .ok (.putfield 36, 3) := gX2_readTape_0.2.2.2.2.2.2.2.2.1
theorem dX2_readTape_15 : decode cX2_readTape 15 = .ok (.aload_n 0, 1) := gX2_readTape_0.2.2.2.2.2.2.2.2.2.1
theorem dX2_readTape_16 : decode cX2_readTape 16 = .ok (.iconst (-1), 1) := gX2_readTape_0.2.2.2.2.2.2.2.2.2.2.1
theorem dX2_readTape_17 : decode cX2_readTape 17 = .ok (.putfield 39, 3) := gX2_readTape_0.2.2.2.2.2.2.2.2.2.2.2
theorem gX2_readTape_12 : (decode cX2_readTape 20 = .ok (.aload_n 0, 1)) ∧ (decode cX2_readTape 21 = .ok (.iconst 0, 1)) ∧ (decode cX2_readTape 22 = .ok (.invokevirtual 42, 3)) ∧ (decode cX2_readTape 25 = .ok (.aload_n 0, 1)) ∧ (decode cX2_readTape 26 = .ok (.getfield 36, 3)) ∧ (decode cX2_readTape 29 = .ok (.aload_n 0, 1)) ∧ (decode cX2_readTape 30 = .ok (.getfield 25, 3)) ∧ (decode cX2_readTape 33 = .ok (.if_icmp .ge 7, 3)) ∧ (decode cX2_readTape 36 = .ok (.aload_n 0, 1)) ∧ (decode cX2_readTape 37 = .ok (.invokevirtual 46, 3)) ∧ (decode cX2_readTape 40 = .ok (.aload_n 0, 1)) ∧ (decode cX2_readTape 41 = .ok (.iconst 0, 1)) := by decide +kernel
theorem dX2_readTape_20 : decode cX2_readTape 20 = .ok (.aload_n 0, 1) := gX2_readTape_12.1
theorem dX2_readTape_21 : decode cX2_readTape 21 = .ok (.iconst 0, 1) := gX2_readTape_12.2.1
theorem dX2_readTape_22 : decode cX2_readTape 22 = .ok (.invokevirtual 42, 3) := gX2_readTape_12.2.2.1
theorem dX2_readTape_25 : decode cX2_readTape 25 = .ok (.aload_n 0, 1) := gX2_readTape_12.2.2.2.1
theorem dX2_readTape_26 : decode cX2_readTape 26 = .ok (.getfield 36, 3) := gX2_readTape_12.2.2.2.2.1
theorem dX2_readTape_29 : decode cX2_readTape 29 = .ok (.aload_n 0, 1) := gX2_readTape_12.2.2.2.2.2.1
theorem dX2_readTape_30 : decode cX2_readTape 30 = .ok (.getfield 25, 3) := gX2_readTape_12.2.2.2.2.2.2.1
theorem dX2_readTape_33 : decode cX2_readTape 33 = .ok (.if_icmp .ge 7, 3) := gX2_readTape_12.2.2.2.2.2.2.2.1
theorem dX2_readTape_36 : decode cX2_readTape 36 = .ok (.aload_n 0, 1) := gX2_readTape_12.2.2.2.2.2.2.2.2.1
theorem dX2_readTape_37 : decode cX2_readTape 37 = .ok (.invokevirtual 46, 3) := gX2_readTape_12.2.2.2.2.2.2.2.2.2.1
theorem dX2_readTape_40 : decode cX2_readTape 40 = .ok (.aload_n 0, 1) := gX2_readTape_12.2.2.2.2.2.2.2.2.2.2.1
theorem dX2_readTape_41 : decode cX2_readTape 41 = .ok (.iconst 0, 1) := gX2_readTape_12.2.2.2.2.2.2.2.2.2.2.2
theorem gX2_readTape_24 : (decode cX2_readTape 42 = .ok (.putfield 25, 3)) ∧ (decode cX2_readTape 45 = .ok (.aload_n 0, 1)) ∧ (decode cX2_readTape 46 = .ok (.getfield 39, 3)) ∧ (decode cX2_readTape 49 = .ok (.iconst (-1), 1)) ∧ (decode cX2_readTape 50 = .ok (.if_icmp .eq 11, 3)) ∧ (decode cX2_readTape 53 = .ok (.bipush (-20), 2)) ∧ (decode cX2_readTape 55 = .ok (.aload_n 0, 1)) ∧ (decode cX2_readTape 56 = .ok (.getfield 39, 3)) ∧ (decode cX2_readTape 59 = .ok (.isub, 1)) ∧ (decode cX2_readTape 60 = .ok (.ireturn, 1)) ∧ (decode cX2_readTape 61 = .ok (.aload_n 0, 1)) ∧ (decode cX2_readTape 62 = .ok (.getfield 22, 3)) := by decide +kernel
theorem dX2_readTape_42 : decode cX2_readTape 42 = .ok (.putfield 25, 3) := gX2_readTape_24.1
theorem dX2_readTape_45 : decode cX2_readTape 45 = .ok (.aload_n 0, 1) := gX2_readTape_24.2.1
theorem dX2_readTape_46 : decode cX2_readTape 46 = .ok (.getfield 39, 3) := gX2_readTape_24.2.2.1
theorem dX2_readTape_49 : decode cX2_readTape 49 = .ok (.iconst (-1), 1) := gX2_readTape_24.2.2.2.1
theorem dX2_readTape_50 : decode cX2_readTape 50 = .ok (.if_icmp .eq 11, 3) := gX2_readTape_24.2.2.2.2.1
theorem dX2_readTape_53 : decode cX2_readTape 53 = .ok (.bipush (-20), 2) := gX2_readTape_24.2.2.2.2.2.1
theorem dX2_readTape_55 : decode cX2_readTape 55 = .ok (.aload_n 0, 1) := gX2_readTape_24.2.2.2.2.2.2.1
theorem dX2_readTape_56 : decode cX2_readTape 56 = .ok (.getfield 39, 3) := gX2_readTape_24.2.2.2.2.2.2.2.1
theorem dX2_readTape_59 : decode cX2_readTape 59 = .ok (.isub, 1) := gX2_readTape_24.2.2.2.2.2.2.2.2.1
theorem dX2_readTape_60 : decode cX2_readTape 60 = .ok (.ireturn, 1) := gX2_readTape_24.2.2.2.2.2.2.2.2.2.1
theorem dX2_readTape_61 : decode cX2_readTape 61 = .ok (.aload_n 0, 1) := gX2_readTape_24.2.2.2.2.2.2.2.2.2.2.1
theorem dX2_readTape_62 : decode cX2_readTape 62 = .ok (.getfield 22, 3) := gX2_readTape_24.2.2.2.2.2.2.2.2.2.2.2
theorem gX2_readTape_36 : (decode cX2_readTape 65 = .ok (.iconst 0, 1)) ∧ (decode cX2_readTape 66 = .ok (.aload_n 0, 1)) ∧ (decode cX2_readTape 67 = .ok (.getfield 9, 3)) ∧ (decode cX2_readTape 70 = .ok (.iconst 0, 1)) ∧ (decode cX2_readTape 71 = .ok (.aload_n 0, 1)) ∧ (decode cX2_readTape 72 = .ok (.getfield 30, 3)) ∧ (decode cX2_readTape 75 = .ok (.invokestatic 49, 3)) ∧ (decode cX2_readTape 78 = .ok (.aload_n 0, 1)) ∧ (decode cX2_readTape 79 = .ok (.aload_n 0, 1)) ∧ (decode cX2_readTape 80 = .ok (.getfield 30, 3)) ∧ (decode cX2_readTape 83 = .ok (.putfield 15, 3)) ∧ (decode cX2_readTape 86 = .ok (.aload_n 0, 1)) := by decide +kernel
theorem dX2_readTape_65 : decode cX2_readTape 65 = .ok (.iconst 0, 1) := gX2_readTape_36.1
theorem dX2_readTape_66 : decode cX2_readTape 66 = .ok (.aload_n 0, 1) := gX2_readTape_36.2.1
theorem dX2_readTape_67 : decode cX2_readTape 67 = .ok (.getfield 9, 3) := gX2_readTape_36.2.2.1
theorem dX2_readTape_70 : decode cX2_readTape 70 = .ok (.iconst 0, 1) := gX2_readTape_36.2.2.2.1
theorem dX2_readTape_71 : decode cX2_readTape 71 = .ok (.aload_n 0, 1) := gX2_readTape_36.2.2.2.2.1
theorem dX2_readTape_72 : decode cX2_readTape 72 = .ok (.getfield 30, 3) := gX2_readTape_36.2.2.2.2.2.1
theorem dX2_readTape_75 : decode cX2_readTape 75 = .ok (.invokestatic 49, 3) := gX2_readTape_36.2.2.2.2.2.2.1
theorem dX2_readTape_78 : decode cX2_readTape 78 = .ok (.aload_n 0, 1) := gX2_readTape_36.2.2.2.2.2.2.2.1
theorem dX2_readTape_79 : decode cX2_readTape 79 = .ok (.aload_n 0, 1) := gX2_readTape_36.2.2.2.2.2.2.2.2.1
theorem dX2_readTape_80 : decode cX2_readTape 80 = .ok (.getfield 30, 3) := gX2_readTape_36.2.2.2.2.2.2.2.2.2.1
theorem dX2_readTape_83 : decode cX2_readTape 83 = .ok (.putfield 15, 3) := gX2_readTape_36.2.2.2.2.2.2.2.2.2.2.1
theorem dX2_readTape_86 : decode cX2_readTape 86 = .ok (.aload_n 0, 1) := gX2_readTape_36.2.2.2.2.2.2.2.2.2.2.2
theorem gX2_readTape_48 : (decode cX2_readTape 87 = .ok (.getfield 33, 3)) ∧ (decode cX2_readTape 90 = .ok (.ireturn, 1)) := by decide +kernel
theorem dX2_readTape_87 : decode cX2_readTape 87 = .ok (.getfield 33, 3) := gX2_readTape_48.1
theorem dX2_readTape_90 : decode cX2_readTape 90 = .ok (.ireturn, 1) := gX2_readTape_48.2
theorem gX2_peek_0 : (decode cX2_peek 0 = .ok (.aload_n 0, 1)) ∧ (decode cX2_peek 1 = .ok (.getfield 36, 3)) ∧ (decode cX2_peek 4 = .ok (.aload_n 0, 1)) ∧ (decode cX2_peek 5 = .ok (.getfield 25, 3)) ∧ (decode cX2_peek 8 = .ok (.if_icmp .ge 15, 3)) ∧ (decode cX2_peek 11 = .ok (.aload_n 0, 1)) ∧ (decode cX2_peek 12 = .ok (.getfield 19, 3)) ∧ (decode cX2_peek 15 = .ok (.aload_n 0, 1)) ∧ (decode cX2_peek 16 = .ok (.getfield 36, 3)) ∧ (decode cX2_peek 19 = .ok (.iaload, 1)) ∧ (decode cX2_peek 20 = .ok (.goto 4, 3)) ∧ (decode cX2_peek 23 = .ok (.iconst (-1), 1)) := by decide +kernel
theorem dX2_peek_0 : decode cX2_peek 0 = .ok (.aload_n 0, 1) := gX2_peek_0.1
theorem dX2_peek_1 : decode cX2_peek 1 = .ok (.getfield 36, 3) := gX2_peek_0.2.1
theorem dX2_peek_4 : decode cX2_peek 4 = .ok (.aload_n 0, 1) := gX2_peek_0.2.2.1
theorem dX2_peek_5 : decode cX2_peek 5 = .ok (.getfield 25, 3) := gX2_peek_0.2.2.2.1
theorem dX2_peek_8 : decode cX2_peek 8 = .ok (.if_icmp .ge 15, 3) := gX2_peek_0.2.2.2.2.1
theorem dX2_peek_11 : decode cX2_peek 11 = .ok (.aload_n 0, 1) := gX2_peek_0.2.2.2.2.2.1
theorem dX2_peek_12 : decode cX2_peek 12 = .ok (.getfield 19, 3) := gX2_peek_0.2.2.2.2.2.2.1
theorem dX2_peek_15 : decode cX2_peek 15 = .ok (.aload_n 0, 1) := gX2_peek_0.2.2.2.2.2.2.2.1
theorem dX2_peek_16 : decode cX2_peek 16 = .ok (.getfield 36, 3) := gX2_peek_0.2.2.2.2.2.2.2.2.1
theorem dX2_peek_19 : decode cX2_peek 19 = .ok (.iaload, 1) := gX2_peek_0.2.2.2.2.2.2.2.2.2.1
theorem dX2_peek_20 : decode cX2_peek 20 = .ok (.goto 4, 3) := gX2_peek_0.2.2.2.2.2.2.2.2.2.2.1
theorem dX2_peek_23 : decode cX2_peek 23 = .ok (.iconst (-1), 1) := gX2_peek_0.2.2.2.2.2.2.2.2.2.2.2
theorem gX2_peek_12 : (decode cX2_peek 24 = .ok (.ireturn, 1)) := by decide +kernel
theorem dX2_peek_24 : decode cX2_peek 24 = .ok (.ireturn, 1) := gX2_peek_12
theorem gX2_findFault_0 : (decode cX2_findFault 0 = .ok (.aload_n 0, 1)) ∧ (decode cX2_findFault 1 = .ok (.getfield 39, 3)) ∧ (decode cX2_findFault 4 = .ok (.iconst (-1), 1)) ∧ (decode cX2_findFault 5 = .ok (.if_icmp .ne 11, 3)) ∧ (decode cX2_findFault 8 = .ok (.aload_n 0, 1)) ∧ (decode cX2_findFault 9 = .ok (.aload_n 0, 1)) ∧ (decode cX2_findFault 10 = .ok (.getfield 36, 3)) ∧ (decode cX2_findFault 13 = .ok (.putfield 39, 3)) ∧ (decode cX2_findFault 16 = .ok (.return_, 1)) := by decide +kernel
theorem dX2_findFault_0 : decode cX2_findFault 0 = .ok (.aload_n 0, 1) := gX2_findFault_0.1
theorem dX2_findFault_1 : decode cX2_findFault 1 = .ok (.getfield 39, 3) := gX2_findFault_0.2.1
theorem dX2_findFault_4 : decode cX2_findFault 4 = .ok (.iconst (-1), 1) := gX2_findFault_0.2.2.1
theorem dX2_findFault_5 : decode cX2_findFault 5 = .ok (.if_icmp .ne 11, 3) := gX2_findFault_0.2.2.2.1
theorem dX2_findFault_8 : decode cX2_findFault 8 = .ok (.aload_n 0, 1) := gX2_findFault_0.2.2.2.2.1
theorem dX2_findFault_9 : decode cX2_findFault 9 = .ok (.aload_n 0, 1) := gX2_findFault_0.2.2.2.2.2.1
theorem dX2_findFault_10 : decode cX2_findFault 10 = .ok (.getfield 36, 3) := gX2_findFault_0.2.2.2.2.2.2.1
theorem dX2_findFault_13 : decode cX2_findFault 13 = .ok (.putfield 39, 3) := gX2_findFault_0.2.2.2.2.2.2.2.1
theorem dX2_findFault_16 : decode cX2_findFault 16 = .ok (.return_, 1) := gX2_findFault_0.2.2.2.2.2.2.2.2
theorem gX2_emit_0 : (decode cX2_emit 0 = .ok (.aload_n 0, 1)) ∧ (decode cX2_emit 1 = .ok (.getfield 30, 3)) ∧ (decode cX2_emit 4 = .ok (.bipush 80, 2)) ∧ (decode cX2_emit 6 = .ok (.if_icmp .ge 23, 3)) ∧ (decode cX2_emit 9 = .ok (.aload_n 0, 1)) ∧ (decode cX2_emit 10 = .ok (.getfield 22, 3)) ∧ (decode cX2_emit 13 = .ok (.aload_n 0, 1)) ∧ (decode cX2_emit 14 = .ok (.getfield 30, 3)) ∧ (decode cX2_emit 17 = .ok (.iload_n 1, 1)) ∧ (decode cX2_emit 18 = .ok (.iastore, 1)) ∧ (decode cX2_emit 19 = .ok (.aload_n 0, 1)) ∧ (decode cX2_emit 20 = .ok (.dup, 1)) := by decide +kernel
theorem dX2_emit_0 : decode cX2_emit 0 = .ok (.aload_n 0, 1) := gX2_emit_0.1
theorem dX2_emit_1 : decode cX2_emit 1 = .ok (.getfield 30, 3) := gX2_emit_0.2.1
theorem dX2_emit_4 : decode cX2_emit 4 = .ok (.bipush 80, 2) := gX2_emit_0.2.2.1
theorem dX2_emit_6 : decode cX2_emit 6 = .ok (.if_icmp .ge 23, 3) := gX2_emit_0.2.2.2.1
theorem dX2_emit_9 : decode cX2_emit 9 = .ok (.aload_n 0, 1) := gX2_emit_0.2.2.2.2.1
theorem dX2_emit_10 : decode cX2_emit 10 = .ok (.getfield 22, 3) := gX2_emit_0.2.2.2.2.2.1
theorem dX2_emit_13 : decode cX2_emit 13 = .ok (.aload_n 0, 1) := gX2_emit_0.2.2.2.2.2.2.1
theorem dX2_emit_14 : decode cX2_emit 14 = .ok (.getfield 30, 3) := gX2_emit_0.2.2.2.2.2.2.2.1
theorem dX2_emit_17 : decode cX2_emit 17 = .ok (.iload_n 1, 1) := gX2_emit_0.2.2.2.2.2.2.2.2.1
theorem dX2_emit_18 : decode cX2_emit 18 = .ok (.iastore, 1) := gX2_emit_0.2.2.2.2.2.2.2.2.2.1
theorem dX2_emit_19 : decode cX2_emit 19 = .ok (.aload_n 0, 1) := gX2_emit_0.2.2.2.2.2.2.2.2.2.2.1
theorem dX2_emit_20 : decode cX2_emit 20 = .ok (.dup, 1) := gX2_emit_0.2.2.2.2.2.2.2.2.2.2.2
theorem gX2_emit_12 : (decode cX2_emit 21 = .ok (.getfield 30, 3)) ∧ (decode cX2_emit 24 = .ok (.iconst 1, 1)) ∧ (decode cX2_emit 25 = .ok (.iadd, 1)) ∧ (decode cX2_emit 26 = .ok (.putfield 30, 3)) ∧ (decode cX2_emit 29 = .ok (.return_, 1)) := by decide +kernel
theorem dX2_emit_21 : decode cX2_emit 21 = .ok (.getfield 30, 3) := gX2_emit_12.1
theorem dX2_emit_24 : decode cX2_emit 24 = .ok (.iconst 1, 1) := gX2_emit_12.2.1
theorem dX2_emit_25 : decode cX2_emit 25 = .ok (.iadd, 1) := gX2_emit_12.2.2.1
theorem dX2_emit_26 : decode cX2_emit 26 = .ok (.putfield 30, 3) := gX2_emit_12.2.2.2.1
theorem dX2_emit_29 : decode cX2_emit 29 = .ok (.return_, 1) := gX2_emit_12.2.2.2.2
theorem gX2_readSum_0 : (decode cX2_readSum 0 = .ok (.aload_n 0, 1)) ∧ (decode cX2_readSum 1 = .ok (.iload_n 1, 1)) ∧ (decode cX2_readSum 2 = .ok (.invokevirtual 55, 3)) ∧ (decode cX2_readSum 5 = .ok (.iconst 0, 1)) ∧ (decode cX2_readSum 6 = .ok (.istore_n 2, 1)) ∧ (decode cX2_readSum 7 = .ok (.iload_n 2, 1)) ∧ (decode cX2_readSum 8 = .ok (.bipush 80, 2)) ∧ (decode cX2_readSum 10 = .ok (.if_icmp .ge 56, 3)) ∧ (decode cX2_readSum 13 = .ok (.aload_n 0, 1)) ∧ (decode cX2_readSum 14 = .ok (.getfield 39, 3)) ∧ (decode cX2_readSum 17 = .ok (.iconst (-1), 1)) ∧ (decode cX2_readSum 18 = .ok (.if_icmp .ne 48, 3)) := by decide +kernel
theorem dX2_readSum_0 : decode cX2_readSum 0 = .ok (.aload_n 0, 1) := gX2_readSum_0.1
theorem dX2_readSum_1 : decode cX2_readSum 1 = .ok (.iload_n 1, 1) := gX2_readSum_0.2.1
theorem dX2_readSum_2 : decode cX2_readSum 2 = .ok (.invokevirtual 55, 3) := gX2_readSum_0.2.2.1
theorem dX2_readSum_5 : decode cX2_readSum 5 = .ok (.iconst 0, 1) := gX2_readSum_0.2.2.2.1
theorem dX2_readSum_6 : decode cX2_readSum 6 = .ok (.istore_n 2, 1) := gX2_readSum_0.2.2.2.2.1
theorem dX2_readSum_7 : decode cX2_readSum 7 = .ok (.iload_n 2, 1) := gX2_readSum_0.2.2.2.2.2.1
theorem dX2_readSum_8 : decode cX2_readSum 8 = .ok (.bipush 80, 2) := gX2_readSum_0.2.2.2.2.2.2.1
theorem dX2_readSum_10 : decode cX2_readSum 10 = .ok (.if_icmp .ge 56, 3) := gX2_readSum_0.2.2.2.2.2.2.2.1
theorem dX2_readSum_13 : decode cX2_readSum 13 = .ok (.aload_n 0, 1) := gX2_readSum_0.2.2.2.2.2.2.2.2.1
theorem dX2_readSum_14 : decode cX2_readSum 14 = .ok (.getfield 39, 3) := gX2_readSum_0.2.2.2.2.2.2.2.2.2.1
theorem dX2_readSum_17 : decode cX2_readSum 17 = .ok (.iconst (-1), 1) := gX2_readSum_0.2.2.2.2.2.2.2.2.2.2.1
theorem dX2_readSum_18 : decode cX2_readSum 18 = .ok (.if_icmp .ne 48, 3) := gX2_readSum_0.2.2.2.2.2.2.2.2.2.2.2
theorem gX2_readSum_12 : (decode cX2_readSum 21 = .ok (.aload_n 0, 1)) ∧ (decode cX2_readSum 22 = .ok (.invokevirtual 58, 3)) ∧ (decode cX2_readSum 25 = .ok (.istore_n 3, 1)) ∧ (decode cX2_readSum 26 = .ok (.iload_n 3, 1)) ∧ (decode cX2_readSum 27 = .ok (.bipush 43, 2)) ∧ (decode cX2_readSum 29 = .ok (.if_icmp .eq 10, 3)) ∧ (decode cX2_readSum 32 = .ok (.iload_n 3, 1)) ∧ (decode cX2_readSum 33 = .ok (.bipush 45, 2)) ∧ (decode cX2_readSum 35 = .ok (.if_icmp .eq 4, 3)) ∧ (decode cX2_readSum 38 = .ok (.return_, 1)) ∧ (decode cX2_readSum 39 = .ok (.aload_n 0, 1)) ∧ (decode cX2_readSum 40 = .ok (.dup, 1)) := by decide +kernel
theorem dX2_readSum_21 : decode cX2_readSum 21 = .ok (.aload_n 0, 1) := gX2_readSum_12.1
theorem dX2_readSum_22 : decode cX2_readSum 22 = .ok (.invokevirtual 58, 3) := gX2_readSum_12.2.1
theorem dX2_readSum_25 : decode cX2_readSum 25 = .ok (.istore_n 3, 1) := gX2_readSum_12.2.2.1
theorem dX2_readSum_26 : decode cX2_readSum 26 = .ok (.iload_n 3, 1) := gX2_readSum_12.2.2.2.1
theorem dX2_readSum_27 : decode cX2_readSum 27 = .ok (.bipush 43, 2) := gX2_readSum_12.2.2.2.2.1
theorem dX2_readSum_29 : decode cX2_readSum 29 = .ok (.if_icmp .eq 10, 3) := gX2_readSum_12.2.2.2.2.2.1
theorem dX2_readSum_32 : decode cX2_readSum 32 = .ok (.iload_n 3, 1) := gX2_readSum_12.2.2.2.2.2.2.1
theorem dX2_readSum_33 : decode cX2_readSum 33 = .ok (.bipush 45, 2) := gX2_readSum_12.2.2.2.2.2.2.2.1
theorem dX2_readSum_35 : decode cX2_readSum 35 = .ok (.if_icmp .eq 4, 3) := gX2_readSum_12.2.2.2.2.2.2.2.2.1
theorem dX2_readSum_38 : decode cX2_readSum 38 = .ok (.return_, 1) := gX2_readSum_12.2.2.2.2.2.2.2.2.2.1
theorem dX2_readSum_39 : decode cX2_readSum 39 = .ok (.aload_n 0, 1) := gX2_readSum_12.2.2.2.2.2.2.2.2.2.2.1
theorem dX2_readSum_40 : decode cX2_readSum 40 = .ok (.dup, 1) := gX2_readSum_12.2.2.2.2.2.2.2.2.2.2.2
theorem gX2_readSum_24 : (decode cX2_readSum 41 = .ok (.getfield 36, 3)) ∧ (decode cX2_readSum 44 = .ok (.iconst 1, 1)) ∧ (decode cX2_readSum 45 = .ok (.iadd, 1)) ∧ (decode cX2_readSum 46 = .ok (.putfield 36, 3)) ∧ (decode cX2_readSum 49 = .ok (.aload_n 0, 1)) ∧ (decode cX2_readSum 50 = .ok (.iload_n 1, 1)) ∧ (decode cX2_readSum 51 = .ok (.invokevirtual 55, 3)) ∧ (decode cX2_readSum 54 = .ok (.aload_n 0, 1)) ∧ (decode cX2_readSum 55 = .ok (.iload_n 3, 1)) ∧ (decode cX2_readSum 56 = .ok (.ineg, 1)) ∧ (decode cX2_readSum 57 = .ok (.invokevirtual 62, 3)) ∧ (decode cX2_readSum 60 = .ok (.iinc 2 1, 3)) := by decide +kernel
theorem dX2_readSum_41 : decode cX2_readSum 41 = .ok (.getfield 36, 3) := gX2_readSum_24.1
theorem dX2_readSum_44 : decode cX2_readSum 44 = .ok (.iconst 1, 1) := gX2_readSum_24.2.1
theorem dX2_readSum_45 : decode cX2_readSum 45 = .ok (.iadd, 1) := gX2_readSum_24.2.2.1
theorem dX2_readSum_46 : decode cX2_readSum 46 = .ok (.putfield 36, 3) := gX2_readSum_24.2.2.2.1
theorem dX2_readSum_49 : decode cX2_readSum 49 = .ok (.aload_n 0, 1) := gX2_readSum_24.2.2.2.2.1
theorem dX2_readSum_50 : decode cX2_readSum 50 = .ok (.iload_n 1, 1) := gX2_readSum_24.2.2.2.2.2.1
theorem dX2_readSum_51 : decode cX2_readSum 51 = .ok (.invokevirtual 55, 3) := gX2_readSum_24.2.2.2.2.2.2.1
theorem dX2_readSum_54 : decode cX2_readSum 54 = .ok (.aload_n 0, 1) := gX2_readSum_24.2.2.2.2.2.2.2.1
theorem dX2_readSum_55 : decode cX2_readSum 55 = .ok (.iload_n 3, 1) := gX2_readSum_24.2.2.2.2.2.2.2.2.1
theorem dX2_readSum_56 : decode cX2_readSum 56 = .ok (.ineg, 1) := gX2_readSum_24.2.2.2.2.2.2.2.2.2.1
theorem dX2_readSum_57 : decode cX2_readSum 57 = .ok (.invokevirtual 62, 3) := gX2_readSum_24.2.2.2.2.2.2.2.2.2.2.1
theorem dX2_readSum_60 : decode cX2_readSum 60 = .ok (.iinc 2 1, 3) := gX2_readSum_24.2.2.2.2.2.2.2.2.2.2.2
theorem gX2_readSum_36 : (decode cX2_readSum 63 = .ok (.goto (-56), 3)) ∧ (decode cX2_readSum 66 = .ok (.return_, 1)) := by decide +kernel
theorem dX2_readSum_63 : decode cX2_readSum 63 = .ok (.goto (-56), 3) := gX2_readSum_36.1
theorem dX2_readSum_66 : decode cX2_readSum 66 = .ok (.return_, 1) := gX2_readSum_36.2
theorem gX2_readTerm_0 : (decode cX2_readTerm 0 = .ok (.aload_n 0, 1)) ∧ (decode cX2_readTerm 1 = .ok (.iload_n 1, 1)) ∧ (decode cX2_readTerm 2 = .ok (.invokevirtual 65, 3)) ∧ (decode cX2_readTerm 5 = .ok (.iconst 0, 1)) ∧ (decode cX2_readTerm 6 = .ok (.istore_n 2, 1)) ∧ (decode cX2_readTerm 7 = .ok (.iload_n 2, 1)) ∧ (decode cX2_readTerm 8 = .ok (.bipush 80, 2)) ∧ (decode cX2_readTerm 10 = .ok (.if_icmp .ge 56, 3)) ∧ (decode cX2_readTerm 13 = .ok (.aload_n 0, 1)) ∧ (decode cX2_readTerm 14 = .ok (.getfield 39, 3)) ∧ (decode cX2_readTerm 17 = .ok (.iconst (-1), 1)) ∧ (decode cX2_readTerm 18 = .ok (.if_icmp .ne 48, 3)) := by decide +kernel
theorem dX2_readTerm_0 : decode cX2_readTerm 0 = .ok (.aload_n 0, 1) := gX2_readTerm_0.1
theorem dX2_readTerm_1 : decode cX2_readTerm 1 = .ok (.iload_n 1, 1) := gX2_readTerm_0.2.1
theorem dX2_readTerm_2 : decode cX2_readTerm 2 = .ok (.invokevirtual 65, 3) := gX2_readTerm_0.2.2.1
theorem dX2_readTerm_5 : decode cX2_readTerm 5 = .ok (.iconst 0, 1) := gX2_readTerm_0.2.2.2.1
theorem dX2_readTerm_6 : decode cX2_readTerm 6 = .ok (.istore_n 2, 1) := gX2_readTerm_0.2.2.2.2.1
theorem dX2_readTerm_7 : decode cX2_readTerm 7 = .ok (.iload_n 2, 1) := gX2_readTerm_0.2.2.2.2.2.1
theorem dX2_readTerm_8 : decode cX2_readTerm 8 = .ok (.bipush 80, 2) := gX2_readTerm_0.2.2.2.2.2.2.1
theorem dX2_readTerm_10 : decode cX2_readTerm 10 = .ok (.if_icmp .ge 56, 3) := gX2_readTerm_0.2.2.2.2.2.2.2.1
theorem dX2_readTerm_13 : decode cX2_readTerm 13 = .ok (.aload_n 0, 1) := gX2_readTerm_0.2.2.2.2.2.2.2.2.1
theorem dX2_readTerm_14 : decode cX2_readTerm 14 = .ok (.getfield 39, 3) := gX2_readTerm_0.2.2.2.2.2.2.2.2.2.1
theorem dX2_readTerm_17 : decode cX2_readTerm 17 = .ok (.iconst (-1), 1) := gX2_readTerm_0.2.2.2.2.2.2.2.2.2.2.1
theorem dX2_readTerm_18 : decode cX2_readTerm 18 = .ok (.if_icmp .ne 48, 3) := gX2_readTerm_0.2.2.2.2.2.2.2.2.2.2.2
theorem gX2_readTerm_12 : (decode cX2_readTerm 21 = .ok (.aload_n 0, 1)) ∧ (decode cX2_readTerm 22 = .ok (.invokevirtual 58, 3)) ∧ (decode cX2_readTerm 25 = .ok (.istore_n 3, 1)) ∧ (decode cX2_readTerm 26 = .ok (.iload_n 3, 1)) ∧ (decode cX2_readTerm 27 = .ok (.bipush 42, 2)) ∧ (decode cX2_readTerm 29 = .ok (.if_icmp .eq 10, 3)) ∧ (decode cX2_readTerm 32 = .ok (.iload_n 3, 1)) ∧ (decode cX2_readTerm 33 = .ok (.bipush 47, 2)) ∧ (decode cX2_readTerm 35 = .ok (.if_icmp .eq 4, 3)) ∧ (decode cX2_readTerm 38 = .ok (.return_, 1)) ∧ (decode cX2_readTerm 39 = .ok (.aload_n 0, 1)) ∧ (decode cX2_readTerm 40 = .ok (.dup, 1)) := by decide +kernel
theorem dX2_readTerm_21 : decode cX2_readTerm 21 = .ok (.aload_n 0, 1) := gX2_readTerm_12.1
theorem dX2_readTerm_22 : decode cX2_readTerm 22 = .ok (.invokevirtual 58, 3) := gX2_readTerm_12.2.1
theorem dX2_readTerm_25 : decode cX2_readTerm 25 = .ok (.istore_n 3, 1) := gX2_readTerm_12.2.2.1
theorem dX2_readTerm_26 : decode cX2_readTerm 26 = .ok (.iload_n 3, 1) := gX2_readTerm_12.2.2.2.1
theorem dX2_readTerm_27 : decode cX2_readTerm 27 = .ok (.bipush 42, 2) := gX2_readTerm_12.2.2.2.2.1
theorem dX2_readTerm_29 : decode cX2_readTerm 29 = .ok (.if_icmp .eq 10, 3) := gX2_readTerm_12.2.2.2.2.2.1
theorem dX2_readTerm_32 : decode cX2_readTerm 32 = .ok (.iload_n 3, 1) := gX2_readTerm_12.2.2.2.2.2.2.1
theorem dX2_readTerm_33 : decode cX2_readTerm 33 = .ok (.bipush 47, 2) := gX2_readTerm_12.2.2.2.2.2.2.2.1
theorem dX2_readTerm_35 : decode cX2_readTerm 35 = .ok (.if_icmp .eq 4, 3) := gX2_readTerm_12.2.2.2.2.2.2.2.2.1
theorem dX2_readTerm_38 : decode cX2_readTerm 38 = .ok (.return_, 1) := gX2_readTerm_12.2.2.2.2.2.2.2.2.2.1
theorem dX2_readTerm_39 : decode cX2_readTerm 39 = .ok (.aload_n 0, 1) := gX2_readTerm_12.2.2.2.2.2.2.2.2.2.2.1
theorem dX2_readTerm_40 : decode cX2_readTerm 40 = .ok (.dup, 1) := gX2_readTerm_12.2.2.2.2.2.2.2.2.2.2.2
theorem gX2_readTerm_24 : (decode cX2_readTerm 41 = .ok (.getfield 36, 3)) ∧ (decode cX2_readTerm 44 = .ok (.iconst 1, 1)) ∧ (decode cX2_readTerm 45 = .ok (.iadd, 1)) ∧ (decode cX2_readTerm 46 = .ok (.putfield 36, 3)) ∧ (decode cX2_readTerm 49 = .ok (.aload_n 0, 1)) ∧ (decode cX2_readTerm 50 = .ok (.iload_n 1, 1)) ∧ (decode cX2_readTerm 51 = .ok (.invokevirtual 65, 3)) ∧ (decode cX2_readTerm 54 = .ok (.aload_n 0, 1)) ∧ (decode cX2_readTerm 55 = .ok (.iload_n 3, 1)) ∧ (decode cX2_readTerm 56 = .ok (.ineg, 1)) ∧ (decode cX2_readTerm 57 = .ok (.invokevirtual 62, 3)) ∧ (decode cX2_readTerm 60 = .ok (.iinc 2 1, 3)) := by decide +kernel
theorem dX2_readTerm_41 : decode cX2_readTerm 41 = .ok (.getfield 36, 3) := gX2_readTerm_24.1
theorem dX2_readTerm_44 : decode cX2_readTerm 44 = .ok (.iconst 1, 1) := gX2_readTerm_24.2.1
theorem dX2_readTerm_45 : decode cX2_readTerm 45 = .ok (.iadd, 1) := gX2_readTerm_24.2.2.1
theorem dX2_readTerm_46 : decode cX2_readTerm 46 = .ok (.putfield 36, 3) := gX2_readTerm_24.2.2.2.1
theorem dX2_readTerm_49 : decode cX2_readTerm 49 = .ok (.aload_n 0, 1) := gX2_readTerm_24.2.2.2.2.1
theorem dX2_readTerm_50 : decode cX2_readTerm 50 = .ok (.iload_n 1, 1) := gX2_readTerm_24.2.2.2.2.2.1
theorem dX2_readTerm_51 : decode cX2_readTerm 51 = .ok (.invokevirtual 65, 3) := gX2_readTerm_24.2.2.2.2.2.2.1
theorem dX2_readTerm_54 : decode cX2_readTerm 54 = .ok (.aload_n 0, 1) := gX2_readTerm_24.2.2.2.2.2.2.2.1
theorem dX2_readTerm_55 : decode cX2_readTerm 55 = .ok (.iload_n 3, 1) := gX2_readTerm_24.2.2.2.2.2.2.2.2.1
theorem dX2_readTerm_56 : decode cX2_readTerm 56 = .ok (.ineg, 1) := gX2_readTerm_24.2.2.2.2.2.2.2.2.2.1
theorem dX2_readTerm_57 : decode cX2_readTerm 57 = .ok (.invokevirtual 62, 3) := gX2_readTerm_24.2.2.2.2.2.2.2.2.2.2.1
theorem dX2_readTerm_60 : decode cX2_readTerm 60 = .ok (.iinc 2 1, 3) := gX2_readTerm_24.2.2.2.2.2.2.2.2.2.2.2
theorem gX2_readTerm_36 : (decode cX2_readTerm 63 = .ok (.goto (-56), 3)) ∧ (decode cX2_readTerm 66 = .ok (.return_, 1)) := by decide +kernel
theorem dX2_readTerm_63 : decode cX2_readTerm 63 = .ok (.goto (-56), 3) := gX2_readTerm_36.1
theorem dX2_readTerm_66 : decode cX2_readTerm 66 = .ok (.return_, 1) := gX2_readTerm_36.2
theorem gX2_readUnit_0 : (decode cX2_readUnit 0 = .ok (.aload_n 0, 1)) ∧ (decode cX2_readUnit 1 = .ok (.invokevirtual 58, 3)) ∧ (decode cX2_readUnit 4 = .ok (.istore_n 2, 1)) ∧ (decode cX2_readUnit 5 = .ok (.iload_n 2, 1)) ∧ (decode cX2_readUnit 6 = .ok (.invokestatic 68, 3)) ∧ (decode cX2_readUnit 9 = .ok (.ifCond .eq 10, 3)) ∧ (decode cX2_readUnit 12 = .ok (.aload_n 0, 1)) ∧ (decode cX2_readUnit 13 = .ok (.invokevirtual 72, 3)) ∧ (decode cX2_readUnit 16 = .ok (.goto 95, 3)) ∧ (decode cX2_readUnit 19 = .ok (.iload_n 2, 1)) ∧ (decode cX2_readUnit 20 = .ok (.invokestatic 75, 3)) ∧ (decode cX2_readUnit 23 = .ok (.ifCond .eq 32, 3)) := by decide +kernel
theorem dX2_readUnit_0 : decode cX2_readUnit 0 = .ok (.aload_n 0, 1) := gX2_readUnit_0.1
theorem dX2_readUnit_1 : decode cX2_readUnit 1 = .ok (.invokevirtual 58, 3) := gX2_readUnit_0.2.1
theorem dX2_readUnit_4 : decode cX2_readUnit 4 = .ok (.istore_n 2, 1) := gX2_readUnit_0.2.2.1
theorem dX2_readUnit_5 : decode cX2_readUnit 5 = .ok (.iload_n 2, 1) := gX2_readUnit_0.2.2.2.1
theorem dX2_readUnit_6 : decode cX2_readUnit 6 = .ok (.invokestatic 68, 3) := gX2_readUnit_0.2.2.2.2.1
theorem dX2_readUnit_9 : decode cX2_readUnit 9 = .ok (.ifCond .eq 10, 3) := gX2_readUnit_0.2.2.2.2.2.1
theorem dX2_readUnit_12 : decode cX2_readUnit 12 = .ok (.aload_n 0, 1) := gX2_readUnit_0.2.2.2.2.2.2.1
theorem dX2_readUnit_13 : decode cX2_readUnit 13 = .ok (.invokevirtual 72, 3) := gX2_readUnit_0.2.2.2.2.2.2.2.1
theorem dX2_readUnit_16 : decode cX2_readUnit 16 = .ok (.goto 95, 3) := gX2_readUnit_0.2.2.2.2.2.2.2.2.1
theorem dX2_readUnit_19 : decode cX2_readUnit 19 = .ok (.iload_n 2, 1) := gX2_readUnit_0.2.2.2.2.2.2.2.2.2.1
theorem dX2_readUnit_20 : decode cX2_readUnit 20 = .ok (.invokestatic 75, 3) := gX2_readUnit_0.2.2.2.2.2.2.2.2.2.2.1
theorem dX2_readUnit_23 : decode cX2_readUnit 23 = .ok (.ifCond .eq 32, 3) := gX2_readUnit_0.2.2.2.2.2.2.2.2.2.2.2
theorem gX2_readUnit_12 : (decode cX2_readUnit 26 = .ok (.aload_n 0, 1)) ∧ (decode cX2_readUnit 27 = .ok (.dup, 1)) ∧ (decode cX2_readUnit 28 = .ok (.getfield 36, 3)) ∧ (decode cX2_readUnit 31 = .ok (.iconst 1, 1)) ∧ (decode cX2_readUnit 32 = .ok (.iadd, 1)) ∧ (decode cX2_readUnit 33 = .ok (.putfield 36, 3)) ∧ (decode cX2_readUnit 36 = .ok (.aload_n 0, 1)) ∧ (decode cX2_readUnit 37 = .ok (.dup, 1)) ∧ (decode cX2_readUnit 38 = .ok (.getfield 33, 3)) ∧ (decode cX2_readUnit 41 = .ok (.iconst 1, 1)) ∧ (decode cX2_readUnit 42 = .ok (.iadd, 1)) ∧ (decode cX2_readUnit 43 = .ok (.putfield 33, 3)) := by decide +kernel
theorem dX2_readUnit_26 : decode cX2_readUnit 26 = .ok (.aload_n 0, 1) := gX2_readUnit_12.1
theorem dX2_readUnit_27 : decode cX2_readUnit 27 = .ok (.dup, 1) := gX2_readUnit_12.2.1
theorem dX2_readUnit_28 : decode cX2_readUnit 28 = .ok (.getfield 36, 3) := gX2_readUnit_12.2.2.1
theorem dX2_readUnit_31 : decode cX2_readUnit 31 = .ok (.iconst 1, 1) := gX2_readUnit_12.2.2.2.1
theorem dX2_readUnit_32 : decode cX2_readUnit 32 = .ok (.iadd, 1) := gX2_readUnit_12.2.2.2.2.1
theorem dX2_readUnit_33 : decode cX2_readUnit 33 = .ok (.putfield 36, 3) := gX2_readUnit_12.2.2.2.2.2.1
theorem dX2_readUnit_36 : decode cX2_readUnit 36 = .ok (.aload_n 0, 1) := gX2_readUnit_12.2.2.2.2.2.2.1
theorem dX2_readUnit_37 : decode cX2_readUnit 37 = .ok (.dup, 1) := gX2_readUnit_12.2.2.2.2.2.2.2.1
theorem dX2_readUnit_38 : decode cX2_readUnit 38 = .ok (.getfield 33, 3) := gX2_readUnit_12.2.2.2.2.2.2.2.2.1
theorem dX2_readUnit_41 : decode cX2_readUnit 41 = .ok (.iconst 1, 1) := gX2_readUnit_12.2.2.2.2.2.2.2.2.2.1
theorem dX2_readUnit_42 : decode cX2_readUnit 42 = .ok (.iadd, 1) := gX2_readUnit_12.2.2.2.2.2.2.2.2.2.2.1
theorem dX2_readUnit_43 : decode cX2_readUnit 43 = .ok (.putfield 33, 3) := gX2_readUnit_12.2.2.2.2.2.2.2.2.2.2.2
theorem gX2_readUnit_24 : (decode cX2_readUnit 46 = .ok (.aload_n 0, 1)) ∧ (decode cX2_readUnit 47 = .ok (.iload_n 2, 1)) ∧ (decode cX2_readUnit 48 = .ok (.ineg, 1)) ∧ (decode cX2_readUnit 49 = .ok (.invokevirtual 62, 3)) ∧ (decode cX2_readUnit 52 = .ok (.goto 59, 3)) ∧ (decode cX2_readUnit 55 = .ok (.iload_n 2, 1)) ∧ (decode cX2_readUnit 56 = .ok (.bipush 40, 2)) ∧ (decode cX2_readUnit 58 = .ok (.if_icmp .ne 12, 3)) ∧ (decode cX2_readUnit 61 = .ok (.aload_n 0, 1)) ∧ (decode cX2_readUnit 62 = .ok (.iload_n 1, 1)) ∧ (decode cX2_readUnit 63 = .ok (.iconst 0, 1)) ∧ (decode cX2_readUnit 64 = .ok (.invokevirtual 78, 3)) := by decide +kernel
theorem dX2_readUnit_46 : decode cX2_readUnit 46 = .ok (.aload_n 0, 1) := gX2_readUnit_24.1
theorem dX2_readUnit_47 : decode cX2_readUnit 47 = .ok (.iload_n 2, 1) := gX2_readUnit_24.2.1
theorem dX2_readUnit_48 : decode cX2_readUnit 48 = .ok (.ineg, 1) := gX2_readUnit_24.2.2.1
theorem dX2_readUnit_49 : decode cX2_readUnit 49 = .ok (.invokevirtual 62, 3) := gX2_readUnit_24.2.2.2.1
theorem dX2_readUnit_52 : decode cX2_readUnit 52 = .ok (.goto 59, 3) := gX2_readUnit_24.2.2.2.2.1
theorem dX2_readUnit_55 : decode cX2_readUnit 55 = .ok (.iload_n 2, 1) := gX2_readUnit_24.2.2.2.2.2.1
theorem dX2_readUnit_56 : decode cX2_readUnit 56 = .ok (.bipush 40, 2) := gX2_readUnit_24.2.2.2.2.2.2.1
theorem dX2_readUnit_58 : decode cX2_readUnit 58 = .ok (.if_icmp .ne 12, 3) := gX2_readUnit_24.2.2.2.2.2.2.2.1
theorem dX2_readUnit_61 : decode cX2_readUnit 61 = .ok (.aload_n 0, 1) := gX2_readUnit_24.2.2.2.2.2.2.2.2.1
theorem dX2_readUnit_62 : decode cX2_readUnit 62 = .ok (.iload_n 1, 1) := gX2_readUnit_24.2.2.2.2.2.2.2.2.2.1
theorem dX2_readUnit_63 : decode cX2_readUnit 63 = .ok (.iconst 0, 1) := gX2_readUnit_24.2.2.2.2.2.2.2.2.2.2.1
theorem dX2_readUnit_64 : decode cX2_readUnit 64 = .ok (.invokevirtual 78, 3) := gX2_readUnit_24.2.2.2.2.2.2.2.2.2.2.2
theorem gX2_readUnit_36 : (decode cX2_readUnit 67 = .ok (.goto 44, 3)) ∧ (decode cX2_readUnit 70 = .ok (.iload_n 2, 1)) ∧ (decode cX2_readUnit 71 = .ok (.bipush 60, 2)) ∧ (decode cX2_readUnit 73 = .ok (.if_icmp .eq 9, 3)) ∧ (decode cX2_readUnit 76 = .ok (.iload_n 2, 1)) ∧ (decode cX2_readUnit 77 = .ok (.bipush 62, 2)) ∧ (decode cX2_readUnit 79 = .ok (.if_icmp .ne 28, 3)) ∧ (decode cX2_readUnit 82 = .ok (.aload_n 0, 1)) ∧ (decode cX2_readUnit 83 = .ok (.dup, 1)) ∧ (decode cX2_readUnit 84 = .ok (.getfield 36, 3)) ∧ (decode cX2_readUnit 87 = .ok (.iconst 1, 1)) ∧ (decode cX2_readUnit 88 = .ok (.iadd, 1)) := by decide +kernel
theorem dX2_readUnit_67 : decode cX2_readUnit 67 = .ok (.goto 44, 3) := gX2_readUnit_36.1
theorem dX2_readUnit_70 : decode cX2_readUnit 70 = .ok (.iload_n 2, 1) := gX2_readUnit_36.2.1
theorem dX2_readUnit_71 : decode cX2_readUnit 71 = .ok (.bipush 60, 2) := gX2_readUnit_36.2.2.1
theorem dX2_readUnit_73 : decode cX2_readUnit 73 = .ok (.if_icmp .eq 9, 3) := gX2_readUnit_36.2.2.2.1
theorem dX2_readUnit_76 : decode cX2_readUnit 76 = .ok (.iload_n 2, 1) := gX2_readUnit_36.2.2.2.2.1
theorem dX2_readUnit_77 : decode cX2_readUnit 77 = .ok (.bipush 62, 2) := gX2_readUnit_36.2.2.2.2.2.1
theorem dX2_readUnit_79 : decode cX2_readUnit 79 = .ok (.if_icmp .ne 28, 3) := gX2_readUnit_36.2.2.2.2.2.2.1
theorem dX2_readUnit_82 : decode cX2_readUnit 82 = .ok (.aload_n 0, 1) := gX2_readUnit_36.2.2.2.2.2.2.2.1
theorem dX2_readUnit_83 : decode cX2_readUnit 83 = .ok (.dup, 1) := gX2_readUnit_36.2.2.2.2.2.2.2.2.1
theorem dX2_readUnit_84 : decode cX2_readUnit 84 = .ok (.getfield 36, 3) := gX2_readUnit_36.2.2.2.2.2.2.2.2.2.1
theorem dX2_readUnit_87 : decode cX2_readUnit 87 = .ok (.iconst 1, 1) := gX2_readUnit_36.2.2.2.2.2.2.2.2.2.2.1
theorem dX2_readUnit_88 : decode cX2_readUnit 88 = .ok (.iadd, 1) := gX2_readUnit_36.2.2.2.2.2.2.2.2.2.2.2
theorem gX2_readUnit_48 : (decode cX2_readUnit 89 = .ok (.putfield 36, 3)) ∧ (decode cX2_readUnit 92 = .ok (.aload_n 0, 1)) ∧ (decode cX2_readUnit 93 = .ok (.iload_n 1, 1)) ∧ (decode cX2_readUnit 94 = .ok (.iconst 1, 1)) ∧ (decode cX2_readUnit 95 = .ok (.invokevirtual 78, 3)) ∧ (decode cX2_readUnit 98 = .ok (.aload_n 0, 1)) ∧ (decode cX2_readUnit 99 = .ok (.iload_n 2, 1)) ∧ (decode cX2_readUnit 100 = .ok (.ineg, 1)) ∧ (decode cX2_readUnit 101 = .ok (.invokevirtual 62, 3)) ∧ (decode cX2_readUnit 104 = .ok (.goto 7, 3)) ∧ (decode cX2_readUnit 107 = .ok (.aload_n 0, 1)) ∧ (decode cX2_readUnit 108 = .ok (.invokevirtual 46, 3)) := by decide +kernel
theorem dX2_readUnit_89 : decode cX2_readUnit 89 = .ok (.putfield 36, 3) := gX2_readUnit_48.1
theorem dX2_readUnit_92 : decode cX2_readUnit 92 = .ok (.aload_n 0, 1) := gX2_readUnit_48.2.1
theorem dX2_readUnit_93 : decode cX2_readUnit 93 = .ok (.iload_n 1, 1) := gX2_readUnit_48.2.2.1
theorem dX2_readUnit_94 : decode cX2_readUnit 94 = .ok (.iconst 1, 1) := gX2_readUnit_48.2.2.2.1
theorem dX2_readUnit_95 : decode cX2_readUnit 95 = .ok (.invokevirtual 78, 3) := gX2_readUnit_48.2.2.2.2.1
theorem dX2_readUnit_98 : decode cX2_readUnit 98 = .ok (.aload_n 0, 1) := gX2_readUnit_48.2.2.2.2.2.1
theorem dX2_readUnit_99 : decode cX2_readUnit 99 = .ok (.iload_n 2, 1) := gX2_readUnit_48.2.2.2.2.2.2.1
theorem dX2_readUnit_100 : decode cX2_readUnit 100 = .ok (.ineg, 1) := gX2_readUnit_48.2.2.2.2.2.2.2.1
theorem dX2_readUnit_101 : decode cX2_readUnit 101 = .ok (.invokevirtual 62, 3) := gX2_readUnit_48.2.2.2.2.2.2.2.2.1
theorem dX2_readUnit_104 : decode cX2_readUnit 104 = .ok (.goto 7, 3) := gX2_readUnit_48.2.2.2.2.2.2.2.2.2.1
theorem dX2_readUnit_107 : decode cX2_readUnit 107 = .ok (.aload_n 0, 1) := gX2_readUnit_48.2.2.2.2.2.2.2.2.2.2.1
theorem dX2_readUnit_108 : decode cX2_readUnit 108 = .ok (.invokevirtual 46, 3) := gX2_readUnit_48.2.2.2.2.2.2.2.2.2.2.2
theorem gX2_readUnit_60 : (decode cX2_readUnit 111 = .ok (.return_, 1)) := by decide +kernel
theorem dX2_readUnit_111 : decode cX2_readUnit 111 = .ok (.return_, 1) := gX2_readUnit_60
theorem gX2_readNumber_0 : (decode cX2_readNumber 0 = .ok (.iconst 0, 1)) ∧ (decode cX2_readNumber 1 = .ok (.istore_n 1, 1)) ∧ (decode cX2_readNumber 2 = .ok (.iconst 0, 1)) ∧ (decode cX2_readNumber 3 = .ok (.istore_n 2, 1)) ∧ (decode cX2_readNumber 4 = .ok (.iload_n 2, 1)) ∧ (decode cX2_readNumber 5 = .ok (.bipush 6, 2)) ∧ (decode cX2_readNumber 7 = .ok (.if_icmp .ge 42, 3)) ∧ (decode cX2_readNumber 10 = .ok (.aload_n 0, 1)) ∧ (decode cX2_readNumber 11 = .ok (.invokevirtual 58, 3)) ∧ (decode cX2_readNumber 14 = .ok (.invokestatic 68, 3)) ∧ (decode cX2_readNumber 17 = .ok (.ifCond .eq 32, 3)) ∧ (decode cX2_readNumber 20 = .ok (.iload_n 1, 1)) := by decide +kernel
theorem dX2_readNumber_0 : decode cX2_readNumber 0 = .ok (.iconst 0, 1) := gX2_readNumber_0.1
theorem dX2_readNumber_1 : decode cX2_readNumber 1 = .ok (.istore_n 1, 1) := gX2_readNumber_0.2.1
theorem dX2_readNumber_2 : decode cX2_readNumber 2 = .ok (.iconst 0, 1) := gX2_readNumber_0.2.2.1
theorem dX2_readNumber_3 : decode cX2_readNumber 3 = .ok (.istore_n 2, 1) := gX2_readNumber_0.2.2.2.1
theorem dX2_readNumber_4 : decode cX2_readNumber 4 = .ok (.iload_n 2, 1) := gX2_readNumber_0.2.2.2.2.1
theorem dX2_readNumber_5 : decode cX2_readNumber 5 = .ok (.bipush 6, 2) := gX2_readNumber_0.2.2.2.2.2.1
theorem dX2_readNumber_7 : decode cX2_readNumber 7 = .ok (.if_icmp .ge 42, 3) := gX2_readNumber_0.2.2.2.2.2.2.1
theorem dX2_readNumber_10 : decode cX2_readNumber 10 = .ok (.aload_n 0, 1) := gX2_readNumber_0.2.2.2.2.2.2.2.1
theorem dX2_readNumber_11 : decode cX2_readNumber 11 = .ok (.invokevirtual 58, 3) := gX2_readNumber_0.2.2.2.2.2.2.2.2.1
theorem dX2_readNumber_14 : decode cX2_readNumber 14 = .ok (.invokestatic 68, 3) := gX2_readNumber_0.2.2.2.2.2.2.2.2.2.1
theorem dX2_readNumber_17 : decode cX2_readNumber 17 = .ok (.ifCond .eq 32, 3) := gX2_readNumber_0.2.2.2.2.2.2.2.2.2.2.1
theorem dX2_readNumber_20 : decode cX2_readNumber 20 = .ok (.iload_n 1, 1) := gX2_readNumber_0.2.2.2.2.2.2.2.2.2.2.2
theorem gX2_readNumber_12 : (decode cX2_readNumber 21 = .ok (.bipush 10, 2)) ∧ (decode cX2_readNumber 23 = .ok (.imul, 1)) ∧ (decode cX2_readNumber 24 = .ok (.aload_n 0, 1)) ∧ (decode cX2_readNumber 25 = .ok (.invokevirtual 58, 3)) ∧ (decode cX2_readNumber 28 = .ok (.iadd, 1)) ∧ (decode cX2_readNumber 29 = .ok (.bipush 48, 2)) ∧ (decode cX2_readNumber 31 = .ok (.isub, 1)) ∧ (decode cX2_readNumber 32 = .ok (.istore_n 1, 1)) ∧ (decode cX2_readNumber 33 = .ok (.aload_n 0, 1)) ∧ (decode cX2_readNumber 34 = .ok (.dup, 1)) ∧ (decode cX2_readNumber 35 = .ok (.getfield 36, 3)) ∧ (decode cX2_readNumber 38 = .ok (.iconst 1, 1)) := by decide +kernel
theorem dX2_readNumber_21 : decode cX2_readNumber 21 = .ok (.bipush 10, 2) := gX2_readNumber_12.1
theorem dX2_readNumber_23 : decode cX2_readNumber 23 = .ok (.imul, 1) := gX2_readNumber_12.2.1
theorem dX2_readNumber_24 : decode cX2_readNumber 24 = .ok (.aload_n 0, 1) := gX2_readNumber_12.2.2.1
theorem dX2_readNumber_25 : decode cX2_readNumber 25 = .ok (.invokevirtual 58, 3) := gX2_readNumber_12.2.2.2.1
theorem dX2_readNumber_28 : decode cX2_readNumber 28 = .ok (.iadd, 1) := gX2_readNumber_12.2.2.2.2.1
theorem dX2_readNumber_29 : decode cX2_readNumber 29 = .ok (.bipush 48, 2) := gX2_readNumber_12.2.2.2.2.2.1
theorem dX2_readNumber_31 : decode cX2_readNumber 31 = .ok (.isub, 1) := gX2_readNumber_12.2.2.2.2.2.2.1
theorem dX2_readNumber_32 : decode cX2_readNumber 32 = .ok (.istore_n 1, 1) := gX2_readNumber_12.2.2.2.2.2.2.2.1
theorem dX2_readNumber_33 : decode cX2_readNumber 33 = .ok (.aload_n 0, 1) := gX2_readNumber_12.2.2.2.2.2.2.2.2.1
theorem dX2_readNumber_34 : decode cX2_readNumber 34 = .ok (.dup, 1) := gX2_readNumber_12.2.2.2.2.2.2.2.2.2.1
theorem dX2_readNumber_35 : decode cX2_readNumber 35 = .ok (.getfield 36, 3) := gX2_readNumber_12.2.2.2.2.2.2.2.2.2.2.1
theorem dX2_readNumber_38 : decode cX2_readNumber 38 = .ok (.iconst 1, 1) := gX2_readNumber_12.2.2.2.2.2.2.2.2.2.2.2
theorem gX2_readNumber_24 : (decode cX2_readNumber 39 = .ok (.iadd, 1)) ∧ (decode cX2_readNumber 40 = .ok (.putfield 36, 3)) ∧ (decode cX2_readNumber 43 = .ok (.iinc 2 1, 3)) ∧ (decode cX2_readNumber 46 = .ok (.goto (-42), 3)) ∧ (decode cX2_readNumber 49 = .ok (.aload_n 0, 1)) ∧ (decode cX2_readNumber 50 = .ok (.dup, 1)) ∧ (decode cX2_readNumber 51 = .ok (.getfield 33, 3)) ∧ (decode cX2_readNumber 54 = .ok (.iconst 1, 1)) ∧ (decode cX2_readNumber 55 = .ok (.iadd, 1)) ∧ (decode cX2_readNumber 56 = .ok (.putfield 33, 3)) ∧ (decode cX2_readNumber 59 = .ok (.aload_n 0, 1)) ∧ (decode cX2_readNumber 60 = .ok (.iload_n 1, 1)) := by decide +kernel
theorem dX2_readNumber_39 : decode cX2_readNumber 39 = .ok (.iadd, 1) := gX2_readNumber_24.1
theorem dX2_readNumber_40 : decode cX2_readNumber 40 = .ok (.putfield 36, 3) := gX2_readNumber_24.2.1
theorem dX2_readNumber_43 : decode cX2_readNumber 43 = .ok (.iinc 2 1, 3) := gX2_readNumber_24.2.2.1
theorem dX2_readNumber_46 : decode cX2_readNumber 46 = .ok (.goto (-42), 3) := gX2_readNumber_24.2.2.2.1
theorem dX2_readNumber_49 : decode cX2_readNumber 49 = .ok (.aload_n 0, 1) := gX2_readNumber_24.2.2.2.2.1
theorem dX2_readNumber_50 : decode cX2_readNumber 50 = .ok (.dup, 1) := gX2_readNumber_24.2.2.2.2.2.1
theorem dX2_readNumber_51 : decode cX2_readNumber 51 = .ok (.getfield 33, 3) := gX2_readNumber_24.2.2.2.2.2.2.1
theorem dX2_readNumber_54 : decode cX2_readNumber 54 = .ok (.iconst 1, 1) := gX2_readNumber_24.2.2.2.2.2.2.2.1
theorem dX2_readNumber_55 : decode cX2_readNumber 55 = .ok (.iadd, 1) := gX2_readNumber_24.2.2.2.2.2.2.2.2.1
theorem dX2_readNumber_56 : decode cX2_readNumber 56 = .ok (.putfield 33, 3) := gX2_readNumber_24.2.2.2.2.2.2.2.2.2.1
theorem dX2_readNumber_59 : decode cX2_readNumber 59 = .ok (.aload_n 0, 1) := gX2_readNumber_24.2.2.2.2.2.2.2.2.2.2.1
theorem dX2_readNumber_60 : decode cX2_readNumber 60 = .ok (.iload_n 1, 1) := gX2_readNumber_24.2.2.2.2.2.2.2.2.2.2.2
theorem gX2_readNumber_36 : (decode cX2_readNumber 61 = .ok (.invokevirtual 62, 3)) ∧ (decode cX2_readNumber 64 = .ok (.return_, 1)) := by decide +kernel
theorem dX2_readNumber_61 : decode cX2_readNumber 61 = .ok (.invokevirtual 62, 3) := gX2_readNumber_36.1
theorem dX2_readNumber_64 : decode cX2_readNumber 64 = .ok (.return_, 1) := gX2_readNumber_36.2
theorem gX2_readBracket_0 : (decode cX2_readBracket 0 = .ok (.aload_n 0, 1)) ∧ (decode cX2_readBracket 1 = .ok (.invokevirtual 58, 3)) ∧ (decode cX2_readBracket 4 = .ok (.bipush 40, 2)) ∧ (decode cX2_readBracket 6 = .ok (.if_icmp .ne 9, 3)) ∧ (decode cX2_readBracket 9 = .ok (.iload_n 1, 1)) ∧ (decode cX2_readBracket 10 = .ok (.bipush 6, 2)) ∧ (decode cX2_readBracket 12 = .ok (.if_icmp .lt 8, 3)) ∧ (decode cX2_readBracket 15 = .ok (.aload_n 0, 1)) ∧ (decode cX2_readBracket 16 = .ok (.invokevirtual 46, 3)) ∧ (decode cX2_readBracket 19 = .ok (.return_, 1)) ∧ (decode cX2_readBracket 20 = .ok (.aload_n 0, 1)) ∧ (decode cX2_readBracket 21 = .ok (.dup, 1)) := by decide +kernel
theorem dX2_readBracket_0 : decode cX2_readBracket 0 = .ok (.aload_n 0, 1) := gX2_readBracket_0.1
theorem dX2_readBracket_1 : decode cX2_readBracket 1 = .ok (.invokevirtual 58, 3) := gX2_readBracket_0.2.1
theorem dX2_readBracket_4 : decode cX2_readBracket 4 = .ok (.bipush 40, 2) := gX2_readBracket_0.2.2.1
theorem dX2_readBracket_6 : decode cX2_readBracket 6 = .ok (.if_icmp .ne 9, 3) := gX2_readBracket_0.2.2.2.1
theorem dX2_readBracket_9 : decode cX2_readBracket 9 = .ok (.iload_n 1, 1) := gX2_readBracket_0.2.2.2.2.1
theorem dX2_readBracket_10 : decode cX2_readBracket 10 = .ok (.bipush 6, 2) := gX2_readBracket_0.2.2.2.2.2.1
theorem dX2_readBracket_12 : decode cX2_readBracket 12 = .ok (.if_icmp .lt 8, 3) := gX2_readBracket_0.2.2.2.2.2.2.1
theorem dX2_readBracket_15 : decode cX2_readBracket 15 = .ok (.aload_n 0, 1) := gX2_readBracket_0.2.2.2.2.2.2.2.1
theorem dX2_readBracket_16 : decode cX2_readBracket 16 = .ok (.invokevirtual 46, 3) := gX2_readBracket_0.2.2.2.2.2.2.2.2.1
theorem dX2_readBracket_19 : decode cX2_readBracket 19 = .ok (.return_, 1) := gX2_readBracket_0.2.2.2.2.2.2.2.2.2.1
theorem dX2_readBracket_20 : decode cX2_readBracket 20 = .ok (.aload_n 0, 1) := gX2_readBracket_0.2.2.2.2.2.2.2.2.2.2.1
theorem dX2_readBracket_21 : decode cX2_readBracket 21 = .ok (.dup, 1) := gX2_readBracket_0.2.2.2.2.2.2.2.2.2.2.2
theorem gX2_readBracket_12 : (decode cX2_readBracket 22 = .ok (.getfield 36, 3)) ∧ (decode cX2_readBracket 25 = .ok (.iconst 1, 1)) ∧ (decode cX2_readBracket 26 = .ok (.iadd, 1)) ∧ (decode cX2_readBracket 27 = .ok (.putfield 36, 3)) ∧ (decode cX2_readBracket 30 = .ok (.aload_n 0, 1)) ∧ (decode cX2_readBracket 31 = .ok (.iload_n 1, 1)) ∧ (decode cX2_readBracket 32 = .ok (.iconst 1, 1)) ∧ (decode cX2_readBracket 33 = .ok (.iadd, 1)) ∧ (decode cX2_readBracket 34 = .ok (.invokevirtual 42, 3)) ∧ (decode cX2_readBracket 37 = .ok (.iload_n 2, 1)) ∧ (decode cX2_readBracket 38 = .ok (.ifCond .eq 24, 3)) ∧ (decode cX2_readBracket 41 = .ok (.aload_n 0, 1)) := by decide +kernel
theorem dX2_readBracket_22 : decode cX2_readBracket 22 = .ok (.getfield 36, 3) := gX2_readBracket_12.1
theorem dX2_readBracket_25 : decode cX2_readBracket 25 = .ok (.iconst 1, 1) := gX2_readBracket_12.2.1
theorem dX2_readBracket_26 : decode cX2_readBracket 26 = .ok (.iadd, 1) := gX2_readBracket_12.2.2.1
theorem dX2_readBracket_27 : decode cX2_readBracket 27 = .ok (.putfield 36, 3) := gX2_readBracket_12.2.2.2.1
theorem dX2_readBracket_30 : decode cX2_readBracket 30 = .ok (.aload_n 0, 1) := gX2_readBracket_12.2.2.2.2.1
theorem dX2_readBracket_31 : decode cX2_readBracket 31 = .ok (.iload_n 1, 1) := gX2_readBracket_12.2.2.2.2.2.1
theorem dX2_readBracket_32 : decode cX2_readBracket 32 = .ok (.iconst 1, 1) := gX2_readBracket_12.2.2.2.2.2.2.1
theorem dX2_readBracket_33 : decode cX2_readBracket 33 = .ok (.iadd, 1) := gX2_readBracket_12.2.2.2.2.2.2.2.1
theorem dX2_readBracket_34 : decode cX2_readBracket 34 = .ok (.invokevirtual 42, 3) := gX2_readBracket_12.2.2.2.2.2.2.2.2.1
theorem dX2_readBracket_37 : decode cX2_readBracket 37 = .ok (.iload_n 2, 1) := gX2_readBracket_12.2.2.2.2.2.2.2.2.2.1
theorem dX2_readBracket_38 : decode cX2_readBracket 38 = .ok (.ifCond .eq 24, 3) := gX2_readBracket_12.2.2.2.2.2.2.2.2.2.2.1
theorem dX2_readBracket_41 : decode cX2_readBracket 41 = .ok (.aload_n 0, 1) := gX2_readBracket_12.2.2.2.2.2.2.2.2.2.2.2
theorem gX2_readBracket_24 : (decode cX2_readBracket 42 = .ok (.bipush 44, 2)) ∧ (decode cX2_readBracket 44 = .ok (.invokevirtual 82, 3)) ∧ (decode cX2_readBracket 47 = .ok (.aload_n 0, 1)) ∧ (decode cX2_readBracket 48 = .ok (.getfield 39, 3)) ∧ (decode cX2_readBracket 51 = .ok (.iconst (-1), 1)) ∧ (decode cX2_readBracket 52 = .ok (.if_icmp .ne 10, 3)) ∧ (decode cX2_readBracket 55 = .ok (.aload_n 0, 1)) ∧ (decode cX2_readBracket 56 = .ok (.iload_n 1, 1)) ∧ (decode cX2_readBracket 57 = .ok (.iconst 1, 1)) ∧ (decode cX2_readBracket 58 = .ok (.iadd, 1)) ∧ (decode cX2_readBracket 59 = .ok (.invokevirtual 42, 3)) ∧ (decode cX2_readBracket 62 = .ok (.aload_n 0, 1)) := by decide +kernel
theorem dX2_readBracket_42 : decode cX2_readBracket 42 = .ok (.bipush 44, 2) := gX2_readBracket_24.1
theorem dX2_readBracket_44 : decode cX2_readBracket 44 = .ok (.invokevirtual 82, 3) := gX2_readBracket_24.2.1
theorem dX2_readBracket_47 : decode cX2_readBracket 47 = .ok (.aload_n 0, 1) := gX2_readBracket_24.2.2.1
theorem dX2_readBracket_48 : decode cX2_readBracket 48 = .ok (.getfield 39, 3) := gX2_readBracket_24.2.2.2.1
theorem dX2_readBracket_51 : decode cX2_readBracket 51 = .ok (.iconst (-1), 1) := gX2_readBracket_24.2.2.2.2.1
theorem dX2_readBracket_52 : decode cX2_readBracket 52 = .ok (.if_icmp .ne 10, 3) := gX2_readBracket_24.2.2.2.2.2.1
theorem dX2_readBracket_55 : decode cX2_readBracket 55 = .ok (.aload_n 0, 1) := gX2_readBracket_24.2.2.2.2.2.2.1
theorem dX2_readBracket_56 : decode cX2_readBracket 56 = .ok (.iload_n 1, 1) := gX2_readBracket_24.2.2.2.2.2.2.2.1
theorem dX2_readBracket_57 : decode cX2_readBracket 57 = .ok (.iconst 1, 1) := gX2_readBracket_24.2.2.2.2.2.2.2.2.1
theorem dX2_readBracket_58 : decode cX2_readBracket 58 = .ok (.iadd, 1) := gX2_readBracket_24.2.2.2.2.2.2.2.2.2.1
theorem dX2_readBracket_59 : decode cX2_readBracket 59 = .ok (.invokevirtual 42, 3) := gX2_readBracket_24.2.2.2.2.2.2.2.2.2.2.1
theorem dX2_readBracket_62 : decode cX2_readBracket 62 = .ok (.aload_n 0, 1) := gX2_readBracket_24.2.2.2.2.2.2.2.2.2.2.2
theorem gX2_readBracket_36 : (decode cX2_readBracket 63 = .ok (.bipush 41, 2)) ∧ (decode cX2_readBracket 65 = .ok (.invokevirtual 82, 3)) ∧ (decode cX2_readBracket 68 = .ok (.return_, 1)) := by decide +kernel
theorem dX2_readBracket_63 : decode cX2_readBracket 63 = .ok (.bipush 41, 2) := gX2_readBracket_36.1
theorem dX2_readBracket_65 : decode cX2_readBracket 65 = .ok (.invokevirtual 82, 3) := gX2_readBracket_36.2.1
theorem dX2_readBracket_68 : decode cX2_readBracket 68 = .ok (.return_, 1) := gX2_readBracket_36.2.2
theorem gX2_expect_0 : (decode cX2_expect 0 = .ok (.aload_n 0, 1)) ∧ (decode cX2_expect 1 = .ok (.getfield 39, 3)) ∧ (decode cX2_expect 4 = .ok (.iconst (-1), 1)) ∧ (decode cX2_expect 5 = .ok (.if_icmp .eq 4, 3)) ∧ (decode cX2_expect 8 = .ok (.return_, 1)) ∧ (decode cX2_expect 9 = .ok (.aload_n 0, 1)) ∧ (decode cX2_expect 10 = .ok (.invokevirtual 58, 3)) ∧ (decode cX2_expect 13 = .ok (.iload_n 1, 1)) ∧ (decode cX2_expect 14 = .ok (.if_icmp .ne 16, 3)) ∧ (decode cX2_expect 17 = .ok (.aload_n 0, 1)) ∧ (decode cX2_expect 18 = .ok (.dup, 1)) ∧ (decode cX2_expect 19 = .ok (.getfield 36, 3)) := by decide +kernel
theorem dX2_expect_0 : decode cX2_expect 0 = .ok (.aload_n 0, 1) := gX2_expect_0.1
theorem dX2_expect_1 : decode cX2_expect 1 = .ok (.getfield 39, 3) := gX2_expect_0.2.1
theorem dX2_expect_4 : decode cX2_expect 4 = .ok (.iconst (-1), 1) := gX2_expect_0.2.2.1
theorem dX2_expect_5 : decode cX2_expect 5 = .ok (.if_icmp .eq 4, 3) := gX2_expect_0.2.2.2.1
theorem dX2_expect_8 : decode cX2_expect 8 = .ok (.return_, 1) := gX2_expect_0.2.2.2.2.1
theorem dX2_expect_9 : decode cX2_expect 9 = .ok (.aload_n 0, 1) := gX2_expect_0.2.2.2.2.2.1
theorem dX2_expect_10 : decode cX2_expect 10 = .ok (.invokevirtual 58, 3) := gX2_expect_0.2.2.2.2.2.2.1
theorem dX2_expect_13 : decode cX2_expect 13 = .ok (.iload_n 1, 1) := gX2_expect_0.2.2.2.2.2.2.2.1
theorem dX2_expect_14 : decode cX2_expect 14 = .ok (.if_icmp .ne 16, 3) := gX2_expect_0.2.2.2.2.2.2.2.2.1
theorem dX2_expect_17 : decode cX2_expect 17 = .ok (.aload_n 0, 1) := gX2_expect_0.2.2.2.2.2.2.2.2.2.1
theorem dX2_expect_18 : decode cX2_expect 18 = .ok (.dup, 1) := gX2_expect_0.2.2.2.2.2.2.2.2.2.2.1
theorem dX2_expect_19 : decode cX2_expect 19 = .ok (.getfield 36, 3) := gX2_expect_0.2.2.2.2.2.2.2.2.2.2.2
theorem gX2_expect_12 : (decode cX2_expect 22 = .ok (.iconst 1, 1)) ∧ (decode cX2_expect 23 = .ok (.iadd, 1)) ∧ (decode cX2_expect 24 = .ok (.putfield 36, 3)) ∧ (decode cX2_expect 27 = .ok (.goto 7, 3)) ∧ (decode cX2_expect 30 = .ok (.aload_n 0, 1)) ∧ (decode cX2_expect 31 = .ok (.invokevirtual 46, 3)) ∧ (decode cX2_expect 34 = .ok (.return_, 1)) := by decide +kernel
theorem dX2_expect_22 : decode cX2_expect 22 = .ok (.iconst 1, 1) := gX2_expect_12.1
theorem dX2_expect_23 : decode cX2_expect 23 = .ok (.iadd, 1) := gX2_expect_12.2.1
theorem dX2_expect_24 : decode cX2_expect 24 = .ok (.putfield 36, 3) := gX2_expect_12.2.2.1
theorem dX2_expect_27 : decode cX2_expect 27 = .ok (.goto 7, 3) := gX2_expect_12.2.2.2.1
theorem dX2_expect_30 : decode cX2_expect 30 = .ok (.aload_n 0, 1) := gX2_expect_12.2.2.2.2.1
theorem dX2_expect_31 : decode cX2_expect 31 = .ok (.invokevirtual 46, 3) := gX2_expect_12.2.2.2.2.2.1
theorem dX2_expect_34 : decode cX2_expect 34 = .ok (.return_, 1) := gX2_expect_12.2.2.2.2.2.2
theorem gX2_isDigit_0 : (decode cX2_isDigit 0 = .ok (.iload_n 0, 1)) ∧ (decode cX2_isDigit 1 = .ok (.bipush 48, 2)) ∧ (decode cX2_isDigit 3 = .ok (.if_icmp .lt 13, 3)) ∧ (decode cX2_isDigit 6 = .ok (.iload_n 0, 1)) ∧ (decode cX2_isDigit 7 = .ok (.bipush 57, 2)) ∧ (decode cX2_isDigit 9 = .ok (.if_icmp .gt 7, 3)) ∧ (decode cX2_isDigit 12 = .ok (.iconst 1, 1)) ∧ (decode cX2_isDigit 13 = .ok (.goto 4, 3)) ∧ (decode cX2_isDigit 16 = .ok (.iconst 0, 1)) ∧ (decode cX2_isDigit 17 = .ok (.ireturn, 1)) := by decide +kernel
theorem dX2_isDigit_0 : decode cX2_isDigit 0 = .ok (.iload_n 0, 1) := gX2_isDigit_0.1
theorem dX2_isDigit_1 : decode cX2_isDigit 1 = .ok (.bipush 48, 2) := gX2_isDigit_0.2.1
theorem dX2_isDigit_3 : decode cX2_isDigit 3 = .ok (.if_icmp .lt 13, 3) := gX2_isDigit_0.2.2.1
theorem dX2_isDigit_6 : decode cX2_isDigit 6 = .ok (.iload_n 0, 1) := gX2_isDigit_0.2.2.2.1
theorem dX2_isDigit_7 : decode cX2_isDigit 7 = .ok (.bipush 57, 2) := gX2_isDigit_0.2.2.2.2.1
theorem dX2_isDigit_9 : decode cX2_isDigit 9 = .ok (.if_icmp .gt 7, 3) := gX2_isDigit_0.2.2.2.2.2.1
theorem dX2_isDigit_12 : decode cX2_isDigit 12 = .ok (.iconst 1, 1) := gX2_isDigit_0.2.2.2.2.2.2.1
theorem dX2_isDigit_13 : decode cX2_isDigit 13 = .ok (.goto 4, 3) := gX2_isDigit_0.2.2.2.2.2.2.2.1
theorem dX2_isDigit_16 : decode cX2_isDigit 16 = .ok (.iconst 0, 1) := gX2_isDigit_0.2.2.2.2.2.2.2.2.1
theorem dX2_isDigit_17 : decode cX2_isDigit 17 = .ok (.ireturn, 1) := gX2_isDigit_0.2.2.2.2.2.2.2.2.2
theorem gX2_isName_0 : (decode cX2_isName 0 = .ok (.iload_n 0, 1)) ∧ (decode cX2_isName 1 = .ok (.tableswitch 85 97 113 #[83, 83, 85, 85, 85, 85, 85, 83, 85, 85, 83, 83, 85, 85, 85, 83, 83], 83)) ∧ (decode cX2_isName 84 = .ok (.iconst 1, 1)) ∧ (decode cX2_isName 85 = .ok (.ireturn, 1)) ∧ (decode cX2_isName 86 = .ok (.iconst 0, 1)) ∧ (decode cX2_isName 87 = .ok (.ireturn, 1)) := by decide +kernel
theorem dX2_isName_0 : decode cX2_isName 0 = .ok (.iload_n 0, 1) := gX2_isName_0.1
theorem dX2_isName_1 : decode cX2_isName 1 = .ok (.tableswitch 85 97 113 #[83, 83, 85, 85, 85, 85, 85, 83, 85, 85, 83, 83, 85, 85, 85, 83, 83], 83) := gX2_isName_0.2.1
theorem dX2_isName_84 : decode cX2_isName 84 = .ok (.iconst 1, 1) := gX2_isName_0.2.2.1
theorem dX2_isName_85 : decode cX2_isName 85 = .ok (.ireturn, 1) := gX2_isName_0.2.2.2.1
theorem dX2_isName_86 : decode cX2_isName 86 = .ok (.iconst 0, 1) := gX2_isName_0.2.2.2.2.1
theorem dX2_isName_87 : decode cX2_isName 87 = .ok (.ireturn, 1) := gX2_isName_0.2.2.2.2.2
theorem gX3_init_0 : (decode cX3_init 0 = .ok (.aload_n 0, 1)) ∧ (decode cX3_init 1 = .ok (.invokespecial 1, 3)) ∧ (decode cX3_init 4 = .ok (.aload_n 0, 1)) ∧ (decode cX3_init 5 = .ok (.lconst 1, 1)) ∧ (decode cX3_init 6 = .ok (.putfield 7, 3)) ∧ (decode cX3_init 9 = .ok (.return_, 1)) := by decide +kernel
theorem dX3_init_0 : decode cX3_init 0 = .ok (.aload_n 0, 1) := gX3_init_0.1
theorem dX3_init_1 : decode cX3_init 1 = .ok (.invokespecial 1, 3) := gX3_init_0.2.1
theorem dX3_init_4 : decode cX3_init 4 = .ok (.aload_n 0, 1) := gX3_init_0.2.2.1
theorem dX3_init_5 : decode cX3_init 5 = .ok (.lconst 1, 1) := gX3_init_0.2.2.2.1
theorem dX3_init_6 : decode cX3_init 6 = .ok (.putfield 7, 3) := gX3_init_0.2.2.2.2.1
theorem dX3_init_9 : decode cX3_init 9 = .ok (.return_, 1) := gX3_init_0.2.2.2.2.2
theorem gX3_put_0 : (decode cX3_put 0 = .ok (.aload_n 0, 1)) ∧ (decode cX3_put 1 = .ok (.iconst 1, 1)) ∧ (decode cX3_put 2 = .ok (.putfield 13, 3)) ∧ (decode cX3_put 5 = .ok (.aload_n 0, 1)) ∧ (decode cX3_put 6 = .ok (.lconst 0, 1)) ∧ (decode cX3_put 7 = .ok (.putfield 17, 3)) ∧ (decode cX3_put 10 = .ok (.aload_n 0, 1)) ∧ (decode cX3_put 11 = .ok (.lconst 1, 1)) ∧ (decode cX3_put 12 = .ok (.putfield 7, 3)) ∧ (decode cX3_put 15 = .ok (.lload_n 1, 1)) ∧ (decode cX3_put 16 = .ok (.invokestatic 20, 3)) ∧ (decode cX3_put 19 = .ok (.lload_n 3, 1)) := by decide +kernel
theorem dX3_put_0 : decode cX3_put 0 = .ok (.aload_n 0, 1) := gX3_put_0.1
theorem dX3_put_1 : decode cX3_put 1 = .ok (.iconst 1, 1) := gX3_put_0.2.1
theorem dX3_put_2 : decode cX3_put 2 = .ok (.putfield 13, 3) := gX3_put_0.2.2.1
theorem dX3_put_5 : decode cX3_put 5 = .ok (.aload_n 0, 1) := gX3_put_0.2.2.2.1
theorem dX3_put_6 : decode cX3_put 6 = .ok (.lconst 0, 1) := gX3_put_0.2.2.2.2.1
theorem dX3_put_7 : decode cX3_put 7 = .ok (.putfield 17, 3) := gX3_put_0.2.2.2.2.2.1
theorem dX3_put_10 : decode cX3_put 10 = .ok (.aload_n 0, 1) := gX3_put_0.2.2.2.2.2.2.1
theorem dX3_put_11 : decode cX3_put 11 = .ok (.lconst 1, 1) := gX3_put_0.2.2.2.2.2.2.2.1
theorem dX3_put_12 : decode cX3_put 12 = .ok (.putfield 7, 3) := gX3_put_0.2.2.2.2.2.2.2.2.1
theorem dX3_put_15 : decode cX3_put 15 = .ok (.lload_n 1, 1) := gX3_put_0.2.2.2.2.2.2.2.2.2.1
theorem dX3_put_16 : decode cX3_put 16 = .ok (.invokestatic 20, 3) := gX3_put_0.2.2.2.2.2.2.2.2.2.2.1
theorem dX3_put_19 : decode cX3_put 19 = .ok (.lload_n 3, 1) := gX3_put_0.2.2.2.2.2.2.2.2.2.2.2
theorem gX3_put_12 : (decode cX3_put 20 = .ok (.invokestatic 20, 3)) ∧ (decode cX3_put 23 = .ok (.invokestatic 26, 3)) ∧ (decode cX3_put 26 = .ok (.lstore 5, 2)) ∧ (decode cX3_put 28 = .ok (.lload_n 3, 1)) ∧ (decode cX3_put 29 = .ok (.lconst 0, 1)) ∧ (decode cX3_put 30 = .ok (.lcmp, 1)) ∧ (decode cX3_put 31 = .ok (.ifCond .eq 10, 3)) ∧ (decode cX3_put 34 = .ok (.lload 5, 2)) ∧ (decode cX3_put 36 = .ok (.lconst 0, 1)) ∧ (decode cX3_put 37 = .ok (.lcmp, 1)) ∧ (decode cX3_put 38 = .ok (.ifCond .ne 4, 3)) ∧ (decode cX3_put 41 = .ok (.return_, 1)) := by decide +kernel
theorem dX3_put_20 : decode cX3_put 20 = .ok (.invokestatic 20, 3) := gX3_put_12.1
theorem dX3_put_23 : decode cX3_put 23 = .ok (.invokestatic 26, 3) := gX3_put_12.2.1
theorem dX3_put_26 : decode cX3_put 26 = .ok (.lstore 5, 2) := gX3_put_12.2.2.1
theorem dX3_put_28 : decode cX3_put 28 = .ok (.lload_n 3, 1) := gX3_put_12.2.2.2.1
theorem dX3_put_29 : decode cX3_put 29 = .ok (.lconst 0, 1) := gX3_put_12.2.2.2.2.1
theorem dX3_put_30 : decode cX3_put 30 = .ok (.lcmp, 1) := gX3_put_12.2.2.2.2.2.1
theorem dX3_put_31 : decode cX3_put 31 = .ok (.ifCond .eq 10, 3) := gX3_put_12.2.2.2.2.2.2.1
theorem dX3_put_34 : decode cX3_put 34 = .ok (.lload 5, 2) := gX3_put_12.2.2.2.2.2.2.2.1
theorem dX3_put_36 : decode cX3_put 36 = .ok (.lconst 0, 1) := gX3_put_12.2.2.2.2.2.2.2.2.1
theorem dX3_put_37 : decode cX3_put 37 = .ok (.lcmp, 1) := gX3_put_12.2.2.2.2.2.2.2.2.2.1
theorem dX3_put_38 : decode cX3_put 38 = .ok (.ifCond .ne 4, 3) := gX3_put_12.2.2.2.2.2.2.2.2.2.2.1
theorem dX3_put_41 : decode cX3_put 41 = .ok (.return_, 1) := gX3_put_12.2.2.2.2.2.2.2.2.2.2.2
theorem gX3_put_24 : (decode cX3_put 42 = .ok (.lload_n 3, 1)) ∧ (decode cX3_put 43 = .ok (.lconst 0, 1)) ∧ (decode cX3_put 44 = .ok (.lcmp, 1)) ∧ (decode cX3_put 45 = .ok (.ifCond .ge 9, 3)) ∧ (decode cX3_put 48 = .ok (.ldc2_w 30, 3)) ∧ (decode cX3_put 51 = .ok (.goto 4, 3)) ∧ (decode cX3_put 54 = .ok (.lconst 1, 1)) ∧ (decode cX3_put 55 = .ok (.lstore 7, 2)) ∧ (decode cX3_put 57 = .ok (.lload 7, 2)) ∧ (decode cX3_put 59 = .ok (.lload_n 1, 1)) ∧ (decode cX3_put 60 = .ok (.lmul, 1)) ∧ (decode cX3_put 61 = .ok (.lload 5, 2)) := by decide +kernel
theorem dX3_put_42 : decode cX3_put 42 = .ok (.lload_n 3, 1) := gX3_put_24.1
theorem dX3_put_43 : decode cX3_put 43 = .ok (.lconst 0, 1) := gX3_put_24.2.1
theorem dX3_put_44 : decode cX3_put 44 = .ok (.lcmp, 1) := gX3_put_24.2.2.1
theorem dX3_put_45 : decode cX3_put 45 = .ok (.ifCond .ge 9, 3) := gX3_put_24.2.2.2.1
theorem dX3_put_48 : decode cX3_put 48 = .ok (.ldc2_w 30, 3) := gX3_put_24.2.2.2.2.1
theorem dX3_put_51 : decode cX3_put 51 = .ok (.goto 4, 3) := gX3_put_24.2.2.2.2.2.1
theorem dX3_put_54 : decode cX3_put 54 = .ok (.lconst 1, 1) := gX3_put_24.2.2.2.2.2.2.1
theorem dX3_put_55 : decode cX3_put 55 = .ok (.lstore 7, 2) := gX3_put_24.2.2.2.2.2.2.2.1
theorem dX3_put_57 : decode cX3_put 57 = .ok (.lload 7, 2) := gX3_put_24.2.2.2.2.2.2.2.2.1
theorem dX3_put_59 : decode cX3_put 59 = .ok (.lload_n 1, 1) := gX3_put_24.2.2.2.2.2.2.2.2.2.1
theorem dX3_put_60 : decode cX3_put 60 = .ok (.lmul, 1) := gX3_put_24.2.2.2.2.2.2.2.2.2.2.1
theorem dX3_put_61 : decode cX3_put 61 = .ok (.lload 5, 2) := gX3_put_24.2.2.2.2.2.2.2.2.2.2.2
theorem gX3_put_36 : (decode cX3_put 63 = .ok (.ldiv, 1)) ∧ (decode cX3_put 64 = .ok (.lstore 9, 2)) ∧ (decode cX3_put 66 = .ok (.lload 7, 2)) ∧ (decode cX3_put 68 = .ok (.lload_n 3, 1)) ∧ (decode cX3_put 69 = .ok (.lmul, 1)) ∧ (decode cX3_put 70 = .ok (.lload 5, 2)) ∧ (decode cX3_put 72 = .ok (.ldiv, 1)) ∧ (decode cX3_put 73 = .ok (.lstore 11, 2)) ∧ (decode cX3_put 75 = .ok (.lload 9, 2)) ∧ (decode cX3_put 77 = .ok (.invokestatic 20, 3)) ∧ (decode cX3_put 80 = .ok (.ldc2_w 32, 3)) ∧ (decode cX3_put 83 = .ok (.lcmp, 1)) := by decide +kernel
theorem dX3_put_63 : decode cX3_put 63 = .ok (.ldiv, 1) := gX3_put_36.1
theorem dX3_put_64 : decode cX3_put 64 = .ok (.lstore 9, 2) := gX3_put_36.2.1
theorem dX3_put_66 : decode cX3_put 66 = .ok (.lload 7, 2) := gX3_put_36.2.2.1
theorem dX3_put_68 : decode cX3_put 68 = .ok (.lload_n 3, 1) := gX3_put_36.2.2.2.1
theorem dX3_put_69 : decode cX3_put 69 = .ok (.lmul, 1) := gX3_put_36.2.2.2.2.1
theorem dX3_put_70 : decode cX3_put 70 = .ok (.lload 5, 2) := gX3_put_36.2.2.2.2.2.1
theorem dX3_put_72 : decode cX3_put 72 = .ok (.ldiv, 1) := gX3_put_36.2.2.2.2.2.2.1
theorem dX3_put_73 : decode cX3_put 73 = .ok (.lstore 11, 2) := gX3_put_36.2.2.2.2.2.2.2.1
theorem dX3_put_75 : decode cX3_put 75 = .ok (.lload 9, 2) := gX3_put_36.2.2.2.2.2.2.2.2.1
theorem dX3_put_77 : decode cX3_put 77 = .ok (.invokestatic 20, 3) := gX3_put_36.2.2.2.2.2.2.2.2.2.1
theorem dX3_put_80 : decode cX3_put 80 = .ok (.ldc2_w 32, 3) := gX3_put_36.2.2.2.2.2.2.2.2.2.2.1
theorem dX3_put_83 : decode cX3_put 83 = .ok (.lcmp, 1) := gX3_put_36.2.2.2.2.2.2.2.2.2.2.2
theorem gX3_put_48 : (decode cX3_put 84 = .ok (.ifCond .gt 29, 3)) ∧ (decode cX3_put 87 = .ok (.lload 11, 2)) ∧ (decode cX3_put 89 = .ok (.ldc2_w 32, 3)) ∧ (decode cX3_put 92 = .ok (.lcmp, 1)) ∧ (decode cX3_put 93 = .ok (.ifCond .gt 20, 3)) ∧ (decode cX3_put 96 = .ok (.aload_n 0, 1)) ∧ (decode cX3_put 97 = .ok (.iconst 0, 1)) ∧ (decode cX3_put 98 = .ok (.putfield 13, 3)) ∧ (decode cX3_put 101 = .ok (.aload_n 0, 1)) ∧ (decode cX3_put 102 = .ok (.lload 9, 2)) ∧ (decode cX3_put 104 = .ok (.putfield 17, 3)) ∧ (decode cX3_put 107 = .ok (.aload_n 0, 1)) := by decide +kernel
theorem dX3_put_84 : decode cX3_put 84 = .ok (.ifCond .gt 29, 3) := gX3_put_48.1
theorem dX3_put_87 : decode cX3_put 87 = .ok (.lload 11, 2) := gX3_put_48.2.1
theorem dX3_put_89 : decode cX3_put 89 = .ok (.ldc2_w 32, 3) := gX3_put_48.2.2.1
theorem dX3_put_92 : decode cX3_put 92 = .ok (.lcmp, 1) := gX3_put_48.2.2.2.1
theorem dX3_put_93 : decode cX3_put 93 = .ok (.ifCond .gt 20, 3) := gX3_put_48.2.2.2.2.1
theorem dX3_put_96 : decode cX3_put 96 = .ok (.aload_n 0, 1) := gX3_put_48.2.2.2.2.2.1
theorem dX3_put_97 : decode cX3_put 97 = .ok (.iconst 0, 1) := gX3_put_48.2.2.2.2.2.2.1
theorem dX3_put_98 : decode cX3_put 98 = .ok (.putfield 13, 3) := gX3_put_48.2.2.2.2.2.2.2.1
theorem dX3_put_101 : decode cX3_put 101 = .ok (.aload_n 0, 1) := gX3_put_48.2.2.2.2.2.2.2.2.1
theorem dX3_put_102 : decode cX3_put 102 = .ok (.lload 9, 2) := gX3_put_48.2.2.2.2.2.2.2.2.2.1
theorem dX3_put_104 : decode cX3_put 104 = .ok (.putfield 17, 3) := gX3_put_48.2.2.2.2.2.2.2.2.2.2.1
theorem dX3_put_107 : decode cX3_put 107 = .ok (.aload_n 0, 1) := gX3_put_48.2.2.2.2.2.2.2.2.2.2.2
theorem gX3_put_60 : (decode cX3_put 108 = .ok (.lload 11, 2)) ∧ (decode cX3_put 110 = .ok (.putfield 7, 3)) ∧ (decode cX3_put 113 = .ok (.return_, 1)) := by decide +kernel
theorem dX3_put_108 : decode cX3_put 108 = .ok (.lload 11, 2) := gX3_put_60.1
theorem dX3_put_110 : decode cX3_put 110 = .ok (.putfield 7, 3) := gX3_put_60.2.1
theorem dX3_put_113 : decode cX3_put 113 = .ok (.return_, 1) := gX3_put_60.2.2
theorem gX3_commonPart_0 : (decode cX3_commonPart 0 = .ok (.iconst 0, 1)) ∧ (decode cX3_commonPart 1 = .ok (.istore 4, 2)) ∧ (decode cX3_commonPart 3 = .ok (.iload 4, 2)) ∧ (decode cX3_commonPart 5 = .ok (.sipush 200, 3)) ∧ (decode cX3_commonPart 8 = .ok (.if_icmp .ge 25, 3)) ∧ (decode cX3_commonPart 11 = .ok (.lload_n 2, 1)) ∧ (decode cX3_commonPart 12 = .ok (.lconst 0, 1)) ∧ (decode cX3_commonPart 13 = .ok (.lcmp, 1)) ∧ (decode cX3_commonPart 14 = .ok (.ifCond .eq 19, 3)) ∧ (decode cX3_commonPart 17 = .ok (.lload_n 0, 1)) ∧ (decode cX3_commonPart 18 = .ok (.lload_n 2, 1)) ∧ (decode cX3_commonPart 19 = .ok (.lrem, 1)) := by decide +kernel
theorem dX3_commonPart_0 : decode cX3_commonPart 0 = .ok (.iconst 0, 1) := gX3_commonPart_0.1
theorem dX3_commonPart_1 : decode cX3_commonPart 1 = .ok (.istore 4, 2) := gX3_commonPart_0.2.1
theorem dX3_commonPart_3 : decode cX3_commonPart 3 = .ok (.iload 4, 2) := gX3_commonPart_0.2.2.1
theorem dX3_commonPart_5 : decode cX3_commonPart 5 = .ok (.sipush 200, 3) := gX3_commonPart_0.2.2.2.1
theorem dX3_commonPart_8 : decode cX3_commonPart 8 = .ok (.if_icmp .ge 25, 3) := gX3_commonPart_0.2.2.2.2.1
theorem dX3_commonPart_11 : decode cX3_commonPart 11 = .ok (.lload_n 2, 1) := gX3_commonPart_0.2.2.2.2.2.1
theorem dX3_commonPart_12 : decode cX3_commonPart 12 = .ok (.lconst 0, 1) := gX3_commonPart_0.2.2.2.2.2.2.1
theorem dX3_commonPart_13 : decode cX3_commonPart 13 = .ok (.lcmp, 1) := gX3_commonPart_0.2.2.2.2.2.2.2.1
theorem dX3_commonPart_14 : decode cX3_commonPart 14 = .ok (.ifCond .eq 19, 3) := gX3_commonPart_0.2.2.2.2.2.2.2.2.1
theorem dX3_commonPart_17 : decode cX3_commonPart 17 = .ok (.lload_n 0, 1) := gX3_commonPart_0.2.2.2.2.2.2.2.2.2.1
theorem dX3_commonPart_18 : decode cX3_commonPart 18 = .ok (.lload_n 2, 1) := gX3_commonPart_0.2.2.2.2.2.2.2.2.2.2.1
theorem dX3_commonPart_19 : decode cX3_commonPart 19 = .ok (.lrem, 1) := gX3_commonPart_0.2.2.2.2.2.2.2.2.2.2.2
theorem gX3_commonPart_12 : (decode cX3_commonPart 20 = .ok (.lstore 5, 2)) ∧ (decode cX3_commonPart 22 = .ok (.lload_n 2, 1)) ∧ (decode cX3_commonPart 23 = .ok (.lstore_n 0, 1)) ∧ (decode cX3_commonPart 24 = .ok (.lload 5, 2)) ∧ (decode cX3_commonPart 26 = .ok (.lstore_n 2, 1)) ∧ (decode cX3_commonPart 27 = .ok (.iinc 4 1, 3)) ∧ (decode cX3_commonPart 30 = .ok (.goto (-27), 3)) ∧ (decode cX3_commonPart 33 = .ok (.lload_n 0, 1)) ∧ (decode cX3_commonPart 34 = .ok (.lreturn, 1)) := by decide +kernel
theorem dX3_commonPart_20 : decode cX3_commonPart 20 = .ok (.lstore 5, 2) := gX3_commonPart_12.1
theorem dX3_commonPart_22 : decode cX3_commonPart 22 = .ok (.lload_n 2, 1) := gX3_commonPart_12.2.1
theorem dX3_commonPart_23 : decode cX3_commonPart 23 = .ok (.lstore_n 0, 1) := gX3_commonPart_12.2.2.1
theorem dX3_commonPart_24 : decode cX3_commonPart 24 = .ok (.lload 5, 2) := gX3_commonPart_12.2.2.2.1
theorem dX3_commonPart_26 : decode cX3_commonPart 26 = .ok (.lstore_n 2, 1) := gX3_commonPart_12.2.2.2.2.1
theorem dX3_commonPart_27 : decode cX3_commonPart 27 = .ok (.iinc 4 1, 3) := gX3_commonPart_12.2.2.2.2.2.1
theorem dX3_commonPart_30 : decode cX3_commonPart 30 = .ok (.goto (-27), 3) := gX3_commonPart_12.2.2.2.2.2.2.1
theorem dX3_commonPart_33 : decode cX3_commonPart 33 = .ok (.lload_n 0, 1) := gX3_commonPart_12.2.2.2.2.2.2.2.1
theorem dX3_commonPart_34 : decode cX3_commonPart 34 = .ok (.lreturn, 1) := gX3_commonPart_12.2.2.2.2.2.2.2.2
theorem gX4_init_0 : (decode cX4_init 0 = .ok (.aload_n 0, 1)) ∧ (decode cX4_init 1 = .ok (.invokespecial 3, 3)) ∧ (decode cX4_init 4 = .ok (.aload_n 0, 1)) ∧ (decode cX4_init 5 = .ok (.bipush 8, 2)) ∧ (decode cX4_init 7 = .ok (.newarray .int, 2)) ∧ (decode cX4_init 9 = .ok (.putfield 9, 3)) ∧ (decode cX4_init 12 = .ok (.aload_n 0, 1)) ∧ (decode cX4_init 13 = .ok (.iconst (-1), 1)) ∧ (decode cX4_init 14 = .ok (.putfield 15, 3)) ∧ (decode cX4_init 17 = .ok (.aload_n 0, 1)) ∧ (decode cX4_init 18 = .ok (.bipush 8, 2)) ∧ (decode cX4_init 20 = .ok (.newarray .int, 2)) := by decide +kernel
theorem dX4_init_0 : decode cX4_init 0 = .ok (.aload_n 0, 1) := gX4_init_0.1
theorem dX4_init_1 : decode cX4_init 1 = .ok (.invokespecial 3, 3) := gX4_init_0.2.1
theorem dX4_init_4 : decode cX4_init 4 = .ok (.aload_n 0, 1) := gX4_init_0.2.2.1
theorem dX4_init_5 : decode cX4_init 5 = .ok (.bipush 8, 2) := gX4_init_0.2.2.2.1
theorem dX4_init_7 : decode cX4_init 7 = .ok (.newarray .int, 2) := gX4_init_0.2.2.2.2.1
theorem dX4_init_9 : decode cX4_init 9 = .ok (.putfield 9, 3) := gX4_init_0.2.2.2.2.2.1
theorem dX4_init_12 : decode cX4_init 12 = .ok (.aload_n 0, 1) := gX4_init_0.2.2.2.2.2.2.1
theorem dX4_init_13 : decode cX4_init 13 = .ok (.iconst (-1), 1) := gX4_init_0.2.2.2.2.2.2.2.1
theorem dX4_init_14 : decode cX4_init 14 = .ok (.putfield 15, 3) := gX4_init_0.2.2.2.2.2.2.2.2.1
theorem dX4_init_17 : decode cX4_init 17 = .ok (.aload_n 0, 1) := gX4_init_0.2.2.2.2.2.2.2.2.2.1
theorem dX4_init_18 : decode cX4_init 18 = .ok (.bipush 8, 2) := gX4_init_0.2.2.2.2.2.2.2.2.2.2.1
theorem dX4_init_20 : decode cX4_init 20 = .ok (.newarray .int, 2) := gX4_init_0.2.2.2.2.2.2.2.2.2.2.2
theorem gX4_init_12 : (decode cX4_init 22 = .ok (.putfield 19, 3)) ∧ (decode cX4_init 25 = .ok (.aload_n 0, 1)) ∧ (decode cX4_init 26 = .ok (.iconst (-1), 1)) ∧ (decode cX4_init 27 = .ok (.putfield 22, 3)) ∧ (decode cX4_init 30 = .ok (.aload_n 0, 1)) ∧ (decode cX4_init 31 = .ok (.iconst (-1), 1)) ∧ (decode cX4_init 32 = .ok (.putfield 25, 3)) ∧ (decode cX4_init 35 = .ok (.return_, 1)) := by decide +kernel
theorem dX4_init_22 : decode cX4_init 22 = .ok (.putfield 19, 3) := gX4_init_12.1
theorem dX4_init_25 : decode cX4_init 25 = .ok (.aload_n 0, 1) := gX4_init_12.2.1
theorem dX4_init_26 : decode cX4_init 26 = .ok (.iconst (-1), 1) := gX4_init_12.2.2.1
theorem dX4_init_27 : decode cX4_init 27 = .ok (.putfield 22, 3) := gX4_init_12.2.2.2.1
theorem dX4_init_30 : decode cX4_init 30 = .ok (.aload_n 0, 1) := gX4_init_12.2.2.2.2.1
theorem dX4_init_31 : decode cX4_init 31 = .ok (.iconst (-1), 1) := gX4_init_12.2.2.2.2.2.1
theorem dX4_init_32 : decode cX4_init 32 = .ok (.putfield 25, 3) := gX4_init_12.2.2.2.2.2.2.1
theorem dX4_init_35 : decode cX4_init 35 = .ok (.return_, 1) := gX4_init_12.2.2.2.2.2.2.2
theorem gX4_placeOf_0 : (decode cX4_placeOf 0 = .ok (.iconst 0, 1)) ∧ (decode cX4_placeOf 1 = .ok (.istore_n 2, 1)) ∧ (decode cX4_placeOf 2 = .ok (.iload_n 2, 1)) ∧ (decode cX4_placeOf 3 = .ok (.aload_n 0, 1)) ∧ (decode cX4_placeOf 4 = .ok (.getfield 28, 3)) ∧ (decode cX4_placeOf 7 = .ok (.if_icmp .ge 27, 3)) ∧ (decode cX4_placeOf 10 = .ok (.iload_n 2, 1)) ∧ (decode cX4_placeOf 11 = .ok (.bipush 8, 2)) ∧ (decode cX4_placeOf 13 = .ok (.if_icmp .ge 21, 3)) ∧ (decode cX4_placeOf 16 = .ok (.aload_n 0, 1)) ∧ (decode cX4_placeOf 17 = .ok (.getfield 19, 3)) ∧ (decode cX4_placeOf 20 = .ok (.iload_n 2, 1)) := by decide +kernel
theorem dX4_placeOf_0 : decode cX4_placeOf 0 = .ok (.iconst 0, 1) := gX4_placeOf_0.1
theorem dX4_placeOf_1 : decode cX4_placeOf 1 = .ok (.istore_n 2, 1) := gX4_placeOf_0.2.1
theorem dX4_placeOf_2 : decode cX4_placeOf 2 = .ok (.iload_n 2, 1) := gX4_placeOf_0.2.2.1
theorem dX4_placeOf_3 : decode cX4_placeOf 3 = .ok (.aload_n 0, 1) := gX4_placeOf_0.2.2.2.1
theorem dX4_placeOf_4 : decode cX4_placeOf 4 = .ok (.getfield 28, 3) := gX4_placeOf_0.2.2.2.2.1
theorem dX4_placeOf_7 : decode cX4_placeOf 7 = .ok (.if_icmp .ge 27, 3) := gX4_placeOf_0.2.2.2.2.2.1
theorem dX4_placeOf_10 : decode cX4_placeOf 10 = .ok (.iload_n 2, 1) := gX4_placeOf_0.2.2.2.2.2.2.1
theorem dX4_placeOf_11 : decode cX4_placeOf 11 = .ok (.bipush 8, 2) := gX4_placeOf_0.2.2.2.2.2.2.2.1
theorem dX4_placeOf_13 : decode cX4_placeOf 13 = .ok (.if_icmp .ge 21, 3) := gX4_placeOf_0.2.2.2.2.2.2.2.2.1
theorem dX4_placeOf_16 : decode cX4_placeOf 16 = .ok (.aload_n 0, 1) := gX4_placeOf_0.2.2.2.2.2.2.2.2.2.1
theorem dX4_placeOf_17 : decode cX4_placeOf 17 = .ok (.getfield 19, 3) := gX4_placeOf_0.2.2.2.2.2.2.2.2.2.2.1
theorem dX4_placeOf_20 : decode cX4_placeOf 20 = .ok (.iload_n 2, 1) := gX4_placeOf_0.2.2.2.2.2.2.2.2.2.2.2
theorem gX4_placeOf_12 : (decode cX4_placeOf 21 = .ok (.iaload, 1)) ∧ (decode cX4_placeOf 22 = .ok (.iload_n 1, 1)) ∧ (decode cX4_placeOf 23 = .ok (.if_icmp .ne 5, 3)) ∧ (decode cX4_placeOf 26 = .ok (.iload_n 2, 1)) ∧ (decode cX4_placeOf 27 = .ok (.ireturn, 1)) ∧ (decode cX4_placeOf 28 = .ok (.iinc 2 1, 3)) ∧ (decode cX4_placeOf 31 = .ok (.goto (-29), 3)) ∧ (decode cX4_placeOf 34 = .ok (.iconst (-1), 1)) ∧ (decode cX4_placeOf 35 = .ok (.ireturn, 1)) := by decide +kernel
theorem dX4_placeOf_21 : decode cX4_placeOf 21 = .ok (.iaload, 1) := gX4_placeOf_12.1
theorem dX4_placeOf_22 : decode cX4_placeOf 22 = .ok (.iload_n 1, 1) := gX4_placeOf_12.2.1
theorem dX4_placeOf_23 : decode cX4_placeOf 23 = .ok (.if_icmp .ne 5, 3) := gX4_placeOf_12.2.2.1
theorem dX4_placeOf_26 : decode cX4_placeOf 26 = .ok (.iload_n 2, 1) := gX4_placeOf_12.2.2.2.1
theorem dX4_placeOf_27 : decode cX4_placeOf 27 = .ok (.ireturn, 1) := gX4_placeOf_12.2.2.2.2.1
theorem dX4_placeOf_28 : decode cX4_placeOf 28 = .ok (.iinc 2 1, 3) := gX4_placeOf_12.2.2.2.2.2.1
theorem dX4_placeOf_31 : decode cX4_placeOf 31 = .ok (.goto (-29), 3) := gX4_placeOf_12.2.2.2.2.2.2.1
theorem dX4_placeOf_34 : decode cX4_placeOf 34 = .ok (.iconst (-1), 1) := gX4_placeOf_12.2.2.2.2.2.2.2.1
theorem dX4_placeOf_35 : decode cX4_placeOf 35 = .ok (.ireturn, 1) := gX4_placeOf_12.2.2.2.2.2.2.2.2
theorem gX4_add_0 : (decode cX4_add 0 = .ok (.aload_n 0, 1)) ∧ (decode cX4_add 1 = .ok (.getfield 28, 3)) ∧ (decode cX4_add 4 = .ok (.bipush 8, 2)) ∧ (decode cX4_add 6 = .ok (.if_icmp .ge 33, 3)) ∧ (decode cX4_add 9 = .ok (.aload_n 0, 1)) ∧ (decode cX4_add 10 = .ok (.getfield 19, 3)) ∧ (decode cX4_add 13 = .ok (.aload_n 0, 1)) ∧ (decode cX4_add 14 = .ok (.getfield 28, 3)) ∧ (decode cX4_add 17 = .ok (.iload_n 1, 1)) ∧ (decode cX4_add 18 = .ok (.iastore, 1)) ∧ (decode cX4_add 19 = .ok (.aload_n 0, 1)) ∧ (decode cX4_add 20 = .ok (.getfield 9, 3)) := by decide +kernel
theorem dX4_add_0 : decode cX4_add 0 = .ok (.aload_n 0, 1) := gX4_add_0.1
theorem dX4_add_1 : decode cX4_add 1 = .ok (.getfield 28, 3) := gX4_add_0.2.1
theorem dX4_add_4 : decode cX4_add 4 = .ok (.bipush 8, 2) := gX4_add_0.2.2.1
theorem dX4_add_6 : decode cX4_add 6 = .ok (.if_icmp .ge 33, 3) := gX4_add_0.2.2.2.1
theorem dX4_add_9 : decode cX4_add 9 = .ok (.aload_n 0, 1) := gX4_add_0.2.2.2.2.1
theorem dX4_add_10 : decode cX4_add 10 = .ok (.getfield 19, 3) := gX4_add_0.2.2.2.2.2.1
theorem dX4_add_13 : decode cX4_add 13 = .ok (.aload_n 0, 1) := gX4_add_0.2.2.2.2.2.2.1
theorem dX4_add_14 : decode cX4_add 14 = .ok (.getfield 28, 3) := gX4_add_0.2.2.2.2.2.2.2.1
theorem dX4_add_17 : decode cX4_add 17 = .ok (.iload_n 1, 1) := gX4_add_0.2.2.2.2.2.2.2.2.1
theorem dX4_add_18 : decode cX4_add 18 = .ok (.iastore, 1) := gX4_add_0.2.2.2.2.2.2.2.2.2.1
theorem dX4_add_19 : decode cX4_add 19 = .ok (.aload_n 0, 1) := gX4_add_0.2.2.2.2.2.2.2.2.2.2.1
theorem dX4_add_20 : decode cX4_add 20 = .ok (.getfield 9, 3) := gX4_add_0.2.2.2.2.2.2.2.2.2.2.2
theorem gX4_add_12 : (decode cX4_add 23 = .ok (.aload_n 0, 1)) ∧ (decode cX4_add 24 = .ok (.getfield 28, 3)) ∧ (decode cX4_add 27 = .ok (.iload_n 2, 1)) ∧ (decode cX4_add 28 = .ok (.iastore, 1)) ∧ (decode cX4_add 29 = .ok (.aload_n 0, 1)) ∧ (decode cX4_add 30 = .ok (.dup, 1)) ∧ (decode cX4_add 31 = .ok (.getfield 28, 3)) ∧ (decode cX4_add 34 = .ok (.iconst 1, 1)) ∧ (decode cX4_add 35 = .ok (.iadd, 1)) ∧ (decode cX4_add 36 = .ok (.putfield 28, 3)) ∧ (decode cX4_add 39 = .ok (.aload_n 0, 1)) ∧ (decode cX4_add 40 = .ok (.getfield 28, 3)) := by decide +kernel
theorem dX4_add_23 : decode cX4_add 23 = .ok (.aload_n 0, 1) := gX4_add_12.1
theorem dX4_add_24 : decode cX4_add 24 = .ok (.getfield 28, 3) := gX4_add_12.2.1
theorem dX4_add_27 : decode cX4_add 27 = .ok (.iload_n 2, 1) := gX4_add_12.2.2.1
theorem dX4_add_28 : decode cX4_add 28 = .ok (.iastore, 1) := gX4_add_12.2.2.2.1
theorem dX4_add_29 : decode cX4_add 29 = .ok (.aload_n 0, 1) := gX4_add_12.2.2.2.2.1
theorem dX4_add_30 : decode cX4_add 30 = .ok (.dup, 1) := gX4_add_12.2.2.2.2.2.1
theorem dX4_add_31 : decode cX4_add 31 = .ok (.getfield 28, 3) := gX4_add_12.2.2.2.2.2.2.1
theorem dX4_add_34 : decode cX4_add 34 = .ok (.iconst 1, 1) := gX4_add_12.2.2.2.2.2.2.2.1
theorem dX4_add_35 : decode cX4_add 35 = .ok (.iadd, 1) := gX4_add_12.2.2.2.2.2.2.2.2.1
theorem dX4_add_36 : decode cX4_add 36 = .ok (.putfield 28, 3) := gX4_add_12.2.2.2.2.2.2.2.2.2.1
theorem dX4_add_39 : decode cX4_add 39 = .ok (.aload_n 0, 1) := gX4_add_12.2.2.2.2.2.2.2.2.2.2.1
theorem dX4_add_40 : decode cX4_add 40 = .ok (.getfield 28, 3) := gX4_add_12.2.2.2.2.2.2.2.2.2.2.2
theorem gX4_add_24 : (decode cX4_add 43 = .ok (.ireturn, 1)) := by decide +kernel
theorem dX4_add_43 : decode cX4_add 43 = .ok (.ireturn, 1) := gX4_add_24
theorem gX4_beginCall_0 : (decode cX4_beginCall 0 = .ok (.aload_n 0, 1)) ∧ (decode cX4_beginCall 1 = .ok (.iload_n 1, 1)) ∧ (decode cX4_beginCall 2 = .ok (.putfield 31, 3)) ∧ (decode cX4_beginCall 5 = .ok (.aload_n 0, 1)) ∧ (decode cX4_beginCall 6 = .ok (.aload_n 0, 1)) ∧ (decode cX4_beginCall 7 = .ok (.getfield 22, 3)) ∧ (decode cX4_beginCall 10 = .ok (.iconst (-1), 1)) ∧ (decode cX4_beginCall 11 = .ok (.invokevirtual 34, 3)) ∧ (decode cX4_beginCall 14 = .ok (.istore_n 2, 1)) ∧ (decode cX4_beginCall 15 = .ok (.aload_n 0, 1)) ∧ (decode cX4_beginCall 16 = .ok (.iload_n 2, 1)) ∧ (decode cX4_beginCall 17 = .ok (.putfield 25, 3)) := by decide +kernel
theorem dX4_beginCall_0 : decode cX4_beginCall 0 = .ok (.aload_n 0, 1) := gX4_beginCall_0.1
theorem dX4_beginCall_1 : decode cX4_beginCall 1 = .ok (.iload_n 1, 1) := gX4_beginCall_0.2.1
theorem dX4_beginCall_2 : decode cX4_beginCall 2 = .ok (.putfield 31, 3) := gX4_beginCall_0.2.2.1
theorem dX4_beginCall_5 : decode cX4_beginCall 5 = .ok (.aload_n 0, 1) := gX4_beginCall_0.2.2.2.1
theorem dX4_beginCall_6 : decode cX4_beginCall 6 = .ok (.aload_n 0, 1) := gX4_beginCall_0.2.2.2.2.1
theorem dX4_beginCall_7 : decode cX4_beginCall 7 = .ok (.getfield 22, 3) := gX4_beginCall_0.2.2.2.2.2.1
theorem dX4_beginCall_10 : decode cX4_beginCall 10 = .ok (.iconst (-1), 1) := gX4_beginCall_0.2.2.2.2.2.2.1
theorem dX4_beginCall_11 : decode cX4_beginCall 11 = .ok (.invokevirtual 34, 3) := gX4_beginCall_0.2.2.2.2.2.2.2.1
theorem dX4_beginCall_14 : decode cX4_beginCall 14 = .ok (.istore_n 2, 1) := gX4_beginCall_0.2.2.2.2.2.2.2.2.1
theorem dX4_beginCall_15 : decode cX4_beginCall 15 = .ok (.aload_n 0, 1) := gX4_beginCall_0.2.2.2.2.2.2.2.2.2.1
theorem dX4_beginCall_16 : decode cX4_beginCall 16 = .ok (.iload_n 2, 1) := gX4_beginCall_0.2.2.2.2.2.2.2.2.2.2.1
theorem dX4_beginCall_17 : decode cX4_beginCall 17 = .ok (.putfield 25, 3) := gX4_beginCall_0.2.2.2.2.2.2.2.2.2.2.2
theorem gX4_beginCall_12 : (decode cX4_beginCall 20 = .ok (.aload_n 0, 1)) ∧ (decode cX4_beginCall 21 = .ok (.iload_n 2, 1)) ∧ (decode cX4_beginCall 22 = .ok (.invokevirtual 38, 3)) ∧ (decode cX4_beginCall 25 = .ok (.ireturn, 1)) := by decide +kernel
theorem dX4_beginCall_20 : decode cX4_beginCall 20 = .ok (.aload_n 0, 1) := gX4_beginCall_12.1
theorem dX4_beginCall_21 : decode cX4_beginCall 21 = .ok (.iload_n 2, 1) := gX4_beginCall_12.2.1
theorem dX4_beginCall_22 : decode cX4_beginCall 22 = .ok (.invokevirtual 38, 3) := gX4_beginCall_12.2.2.1
theorem dX4_beginCall_25 : decode cX4_beginCall 25 = .ok (.ireturn, 1) := gX4_beginCall_12.2.2.2
theorem gX4_passOn_0 : (decode cX4_passOn 0 = .ok (.aload_n 0, 1)) ∧ (decode cX4_passOn 1 = .ok (.getfield 9, 3)) ∧ (decode cX4_passOn 4 = .ok (.aload_n 0, 1)) ∧ (decode cX4_passOn 5 = .ok (.getfield 15, 3)) ∧ (decode cX4_passOn 8 = .ok (.dup2, 1)) ∧ (decode cX4_passOn 9 = .ok (.iaload, 1)) ∧ (decode cX4_passOn 10 = .ok (.aload_n 0, 1)) ∧ (decode cX4_passOn 11 = .ok (.getfield 31, 3)) ∧ (decode cX4_passOn 14 = .ok (.iadd, 1)) ∧ (decode cX4_passOn 15 = .ok (.iastore, 1)) ∧ (decode cX4_passOn 16 = .ok (.aload_n 0, 1)) ∧ (decode cX4_passOn 17 = .ok (.aload_n 0, 1)) := by decide +kernel
theorem dX4_passOn_0 : decode cX4_passOn 0 = .ok (.aload_n 0, 1) := gX4_passOn_0.1
theorem dX4_passOn_1 : decode cX4_passOn 1 = .ok (.getfield 9, 3) := gX4_passOn_0.2.1
theorem dX4_passOn_4 : decode cX4_passOn 4 = .ok (.aload_n 0, 1) := gX4_passOn_0.2.2.1
theorem dX4_passOn_5 : decode cX4_passOn 5 = .ok (.getfield 15, 3) := gX4_passOn_0.2.2.2.1
theorem dX4_passOn_8 : decode cX4_passOn 8 = .ok (.dup2, 1) := gX4_passOn_0.2.2.2.2.1
theorem dX4_passOn_9 : decode cX4_passOn 9 = .ok (.iaload, 1) := gX4_passOn_0.2.2.2.2.2.1
theorem dX4_passOn_10 : decode cX4_passOn 10 = .ok (.aload_n 0, 1) := gX4_passOn_0.2.2.2.2.2.2.1
theorem dX4_passOn_11 : decode cX4_passOn 11 = .ok (.getfield 31, 3) := gX4_passOn_0.2.2.2.2.2.2.2.1
theorem dX4_passOn_14 : decode cX4_passOn 14 = .ok (.iadd, 1) := gX4_passOn_0.2.2.2.2.2.2.2.2.1
theorem dX4_passOn_15 : decode cX4_passOn 15 = .ok (.iastore, 1) := gX4_passOn_0.2.2.2.2.2.2.2.2.2.1
theorem dX4_passOn_16 : decode cX4_passOn 16 = .ok (.aload_n 0, 1) := gX4_passOn_0.2.2.2.2.2.2.2.2.2.2.1
theorem dX4_passOn_17 : decode cX4_passOn 17 = .ok (.aload_n 0, 1) := gX4_passOn_0.2.2.2.2.2.2.2.2.2.2.2
theorem gX4_passOn_12 : (decode cX4_passOn 18 = .ok (.aload_n 0, 1)) ∧ (decode cX4_passOn 19 = .ok (.getfield 15, 3)) ∧ (decode cX4_passOn 22 = .ok (.aload_n 0, 1)) ∧ (decode cX4_passOn 23 = .ok (.getfield 25, 3)) ∧ (decode cX4_passOn 26 = .ok (.invokevirtual 34, 3)) ∧ (decode cX4_passOn 29 = .ok (.invokevirtual 38, 3)) ∧ (decode cX4_passOn 32 = .ok (.ireturn, 1)) := by decide +kernel
theorem dX4_passOn_18 : decode cX4_passOn 18 = .ok (.aload_n 0, 1) := gX4_passOn_12.1
theorem dX4_passOn_19 : decode cX4_passOn 19 = .ok (.getfield 15, 3) := gX4_passOn_12.2.1
theorem dX4_passOn_22 : decode cX4_passOn 22 = .ok (.aload_n 0, 1) := gX4_passOn_12.2.2.1
theorem dX4_passOn_23 : decode cX4_passOn 23 = .ok (.getfield 25, 3) := gX4_passOn_12.2.2.2.1
theorem dX4_passOn_26 : decode cX4_passOn 26 = .ok (.invokevirtual 34, 3) := gX4_passOn_12.2.2.2.2.1
theorem dX4_passOn_29 : decode cX4_passOn 29 = .ok (.invokevirtual 38, 3) := gX4_passOn_12.2.2.2.2.2.1
theorem dX4_passOn_32 : decode cX4_passOn 32 = .ok (.ireturn, 1) := gX4_passOn_12.2.2.2.2.2.2
theorem gX4_nextWithRoom_0 : (decode cX4_nextWithRoom 0 = .ok (.iload_n 1, 1)) ∧ (decode cX4_nextWithRoom 1 = .ok (.istore_n 3, 1)) ∧ (decode cX4_nextWithRoom 2 = .ok (.iconst 0, 1)) ∧ (decode cX4_nextWithRoom 3 = .ok (.istore 4, 2)) ∧ (decode cX4_nextWithRoom 5 = .ok (.iload 4, 2)) ∧ (decode cX4_nextWithRoom 7 = .ok (.aload_n 0, 1)) ∧ (decode cX4_nextWithRoom 8 = .ok (.getfield 28, 3)) ∧ (decode cX4_nextWithRoom 11 = .ok (.if_icmp .ge 49, 3)) ∧ (decode cX4_nextWithRoom 14 = .ok (.iload_n 3, 1)) ∧ (decode cX4_nextWithRoom 15 = .ok (.iconst 1, 1)) ∧ (decode cX4_nextWithRoom 16 = .ok (.iadd, 1)) ∧ (decode cX4_nextWithRoom 17 = .ok (.aload_n 0, 1)) := by decide +kernel
theorem dX4_nextWithRoom_0 : decode cX4_nextWithRoom 0 = .ok (.iload_n 1, 1) := gX4_nextWithRoom_0.1
theorem dX4_nextWithRoom_1 : decode cX4_nextWithRoom 1 = .ok (.istore_n 3, 1) := gX4_nextWithRoom_0.2.1
theorem dX4_nextWithRoom_2 : decode cX4_nextWithRoom 2 = .ok (.iconst 0, 1) := gX4_nextWithRoom_0.2.2.1
theorem dX4_nextWithRoom_3 : decode cX4_nextWithRoom 3 = .ok (.istore 4, 2) := gX4_nextWithRoom_0.2.2.2.1
theorem dX4_nextWithRoom_5 : decode cX4_nextWithRoom 5 = .ok (.iload 4, 2) := gX4_nextWithRoom_0.2.2.2.2.1
theorem dX4_nextWithRoom_7 : decode cX4_nextWithRoom 7 = .ok (.aload_n 0, 1) := gX4_nextWithRoom_0.2.2.2.2.2.1
theorem dX4_nextWithRoom_8 : decode cX4_nextWithRoom 8 = .ok (.getfield 28, 3) := gX4_nextWithRoom_0.2.2.2.2.2.2.1
theorem dX4_nextWithRoom_11 : decode cX4_nextWithRoom 11 = .ok (.if_icmp .ge 49, 3) := gX4_nextWithRoom_0.2.2.2.2.2.2.2.1
theorem dX4_nextWithRoom_14 : decode cX4_nextWithRoom 14 = .ok (.iload_n 3, 1) := gX4_nextWithRoom_0.2.2.2.2.2.2.2.2.1
theorem dX4_nextWithRoom_15 : decode cX4_nextWithRoom 15 = .ok (.iconst 1, 1) := gX4_nextWithRoom_0.2.2.2.2.2.2.2.2.2.1
theorem dX4_nextWithRoom_16 : decode cX4_nextWithRoom 16 = .ok (.iadd, 1) := gX4_nextWithRoom_0.2.2.2.2.2.2.2.2.2.2.1
theorem dX4_nextWithRoom_17 : decode cX4_nextWithRoom 17 = .ok (.aload_n 0, 1) := gX4_nextWithRoom_0.2.2.2.2.2.2.2.2.2.2.2
theorem gX4_nextWithRoom_12 : (decode cX4_nextWithRoom 18 = .ok (.getfield 28, 3)) ∧ (decode cX4_nextWithRoom 21 = .ok (.if_icmp .ge 9, 3)) ∧ (decode cX4_nextWithRoom 24 = .ok (.iload_n 3, 1)) ∧ (decode cX4_nextWithRoom 25 = .ok (.iconst 1, 1)) ∧ (decode cX4_nextWithRoom 26 = .ok (.iadd, 1)) ∧ (decode cX4_nextWithRoom 27 = .ok (.goto 4, 3)) ∧ (decode cX4_nextWithRoom 30 = .ok (.iconst 0, 1)) ∧ (decode cX4_nextWithRoom 31 = .ok (.istore_n 3, 1)) ∧ (decode cX4_nextWithRoom 32 = .ok (.iload_n 3, 1)) ∧ (decode cX4_nextWithRoom 33 = .ok (.iload_n 2, 1)) ∧ (decode cX4_nextWithRoom 34 = .ok (.if_icmp .ne 5, 3)) ∧ (decode cX4_nextWithRoom 37 = .ok (.iconst (-1), 1)) := by decide +kernel
theorem dX4_nextWithRoom_18 : decode cX4_nextWithRoom 18 = .ok (.getfield 28, 3) := gX4_nextWithRoom_12.1
theorem dX4_nextWithRoom_21 : decode cX4_nextWithRoom 21 = .ok (.if_icmp .ge 9, 3) := gX4_nextWithRoom_12.2.1
theorem dX4_nextWithRoom_24 : decode cX4_nextWithRoom 24 = .ok (.iload_n 3, 1) := gX4_nextWithRoom_12.2.2.1
theorem dX4_nextWithRoom_25 : decode cX4_nextWithRoom 25 = .ok (.iconst 1, 1) := gX4_nextWithRoom_12.2.2.2.1
theorem dX4_nextWithRoom_26 : decode cX4_nextWithRoom 26 = .ok (.iadd, 1) := gX4_nextWithRoom_12.2.2.2.2.1
theorem dX4_nextWithRoom_27 : decode cX4_nextWithRoom 27 = .ok (.goto 4, 3) := gX4_nextWithRoom_12.2.2.2.2.2.1
theorem dX4_nextWithRoom_30 : decode cX4_nextWithRoom 30 = .ok (.iconst 0, 1) := gX4_nextWithRoom_12.2.2.2.2.2.2.1
theorem dX4_nextWithRoom_31 : decode cX4_nextWithRoom 31 = .ok (.istore_n 3, 1) := gX4_nextWithRoom_12.2.2.2.2.2.2.2.1
theorem dX4_nextWithRoom_32 : decode cX4_nextWithRoom 32 = .ok (.iload_n 3, 1) := gX4_nextWithRoom_12.2.2.2.2.2.2.2.2.1
theorem dX4_nextWithRoom_33 : decode cX4_nextWithRoom 33 = .ok (.iload_n 2, 1) := gX4_nextWithRoom_12.2.2.2.2.2.2.2.2.2.1
theorem dX4_nextWithRoom_34 : decode cX4_nextWithRoom 34 = .ok (.if_icmp .ne 5, 3) := gX4_nextWithRoom_12.2.2.2.2.2.2.2.2.2.2.1
theorem dX4_nextWithRoom_37 : decode cX4_nextWithRoom 37 = .ok (.iconst (-1), 1) := gX4_nextWithRoom_12.2.2.2.2.2.2.2.2.2.2.2
theorem gX4_nextWithRoom_24 : (decode cX4_nextWithRoom 38 = .ok (.ireturn, 1)) ∧ (decode cX4_nextWithRoom 39 = .ok (.aload_n 0, 1)) ∧ (decode cX4_nextWithRoom 40 = .ok (.getfield 9, 3)) ∧ (decode cX4_nextWithRoom 43 = .ok (.iload_n 3, 1)) ∧ (decode cX4_nextWithRoom 44 = .ok (.iaload, 1)) ∧ (decode cX4_nextWithRoom 45 = .ok (.aload_n 0, 1)) ∧ (decode cX4_nextWithRoom 46 = .ok (.getfield 31, 3)) ∧ (decode cX4_nextWithRoom 49 = .ok (.if_icmp .lt 5, 3)) ∧ (decode cX4_nextWithRoom 52 = .ok (.iload_n 3, 1)) ∧ (decode cX4_nextWithRoom 53 = .ok (.ireturn, 1)) ∧ (decode cX4_nextWithRoom 54 = .ok (.iinc 4 1, 3)) ∧ (decode cX4_nextWithRoom 57 = .ok (.goto (-52), 3)) := by decide +kernel
theorem dX4_nextWithRoom_38 : decode cX4_nextWithRoom 38 = .ok (.ireturn, 1) := gX4_nextWithRoom_24.1
theorem dX4_nextWithRoom_39 : decode cX4_nextWithRoom 39 = .ok (.aload_n 0, 1) := gX4_nextWithRoom_24.2.1
theorem dX4_nextWithRoom_40 : decode cX4_nextWithRoom 40 = .ok (.getfield 9, 3) := gX4_nextWithRoom_24.2.2.1
theorem dX4_nextWithRoom_43 : decode cX4_nextWithRoom 43 = .ok (.iload_n 3, 1) := gX4_nextWithRoom_24.2.2.2.1
theorem dX4_nextWithRoom_44 : decode cX4_nextWithRoom 44 = .ok (.iaload, 1) := gX4_nextWithRoom_24.2.2.2.2.1
theorem dX4_nextWithRoom_45 : decode cX4_nextWithRoom 45 = .ok (.aload_n 0, 1) := gX4_nextWithRoom_24.2.2.2.2.2.1
theorem dX4_nextWithRoom_46 : decode cX4_nextWithRoom 46 = .ok (.getfield 31, 3) := gX4_nextWithRoom_24.2.2.2.2.2.2.1
theorem dX4_nextWithRoom_49 : decode cX4_nextWithRoom 49 = .ok (.if_icmp .lt 5, 3) := gX4_nextWithRoom_24.2.2.2.2.2.2.2.1
theorem dX4_nextWithRoom_52 : decode cX4_nextWithRoom 52 = .ok (.iload_n 3, 1) := gX4_nextWithRoom_24.2.2.2.2.2.2.2.2.1
theorem dX4_nextWithRoom_53 : decode cX4_nextWithRoom 53 = .ok (.ireturn, 1) := gX4_nextWithRoom_24.2.2.2.2.2.2.2.2.2.1
theorem dX4_nextWithRoom_54 : decode cX4_nextWithRoom 54 = .ok (.iinc 4 1, 3) := gX4_nextWithRoom_24.2.2.2.2.2.2.2.2.2.2.1
theorem dX4_nextWithRoom_57 : decode cX4_nextWithRoom 57 = .ok (.goto (-52), 3) := gX4_nextWithRoom_24.2.2.2.2.2.2.2.2.2.2.2
theorem gX4_nextWithRoom_36 : (decode cX4_nextWithRoom 60 = .ok (.iconst (-1), 1)) ∧ (decode cX4_nextWithRoom 61 = .ok (.ireturn, 1)) := by decide +kernel
theorem dX4_nextWithRoom_60 : decode cX4_nextWithRoom 60 = .ok (.iconst (-1), 1) := gX4_nextWithRoom_36.1
theorem dX4_nextWithRoom_61 : decode cX4_nextWithRoom 61 = .ok (.ireturn, 1) := gX4_nextWithRoom_36.2
theorem gX4_hand_0 : (decode cX4_hand 0 = .ok (.aload_n 0, 1)) ∧ (decode cX4_hand 1 = .ok (.iload_n 1, 1)) ∧ (decode cX4_hand 2 = .ok (.putfield 15, 3)) ∧ (decode cX4_hand 5 = .ok (.iload_n 1, 1)) ∧ (decode cX4_hand 6 = .ok (.iconst (-1), 1)) ∧ (decode cX4_hand 7 = .ok (.if_icmp .ne 6, 3)) ∧ (decode cX4_hand 10 = .ok (.bipush (-9), 2)) ∧ (decode cX4_hand 12 = .ok (.ireturn, 1)) ∧ (decode cX4_hand 13 = .ok (.aload_n 0, 1)) ∧ (decode cX4_hand 14 = .ok (.getfield 9, 3)) ∧ (decode cX4_hand 17 = .ok (.iload_n 1, 1)) ∧ (decode cX4_hand 18 = .ok (.dup2, 1)) := by decide +kernel
theorem dX4_hand_0 : decode cX4_hand 0 = .ok (.aload_n 0, 1) := gX4_hand_0.1
theorem dX4_hand_1 : decode cX4_hand 1 = .ok (.iload_n 1, 1) := gX4_hand_0.2.1
theorem dX4_hand_2 : decode cX4_hand 2 = .ok (.putfield 15, 3) := gX4_hand_0.2.2.1
theorem dX4_hand_5 : decode cX4_hand 5 = .ok (.iload_n 1, 1) := gX4_hand_0.2.2.2.1
theorem dX4_hand_6 : decode cX4_hand 6 = .ok (.iconst (-1), 1) := gX4_hand_0.2.2.2.2.1
theorem dX4_hand_7 : decode cX4_hand 7 = .ok (.if_icmp .ne 6, 3) := gX4_hand_0.2.2.2.2.2.1
theorem dX4_hand_10 : decode cX4_hand 10 = .ok (.bipush (-9), 2) := gX4_hand_0.2.2.2.2.2.2.1
theorem dX4_hand_12 : decode cX4_hand 12 = .ok (.ireturn, 1) := gX4_hand_0.2.2.2.2.2.2.2.1
theorem dX4_hand_13 : decode cX4_hand 13 = .ok (.aload_n 0, 1) := gX4_hand_0.2.2.2.2.2.2.2.2.1
theorem dX4_hand_14 : decode cX4_hand 14 = .ok (.getfield 9, 3) := gX4_hand_0.2.2.2.2.2.2.2.2.2.1
theorem dX4_hand_17 : decode cX4_hand 17 = .ok (.iload_n 1, 1) := gX4_hand_0.2.2.2.2.2.2.2.2.2.2.1
theorem dX4_hand_18 : decode cX4_hand 18 = .ok (.dup2, 1) := gX4_hand_0.2.2.2.2.2.2.2.2.2.2.2
theorem gX4_hand_12 : (decode cX4_hand 19 = .ok (.iaload, 1)) ∧ (decode cX4_hand 20 = .ok (.aload_n 0, 1)) ∧ (decode cX4_hand 21 = .ok (.getfield 31, 3)) ∧ (decode cX4_hand 24 = .ok (.isub, 1)) ∧ (decode cX4_hand 25 = .ok (.iastore, 1)) ∧ (decode cX4_hand 26 = .ok (.aload_n 0, 1)) ∧ (decode cX4_hand 27 = .ok (.iload_n 1, 1)) ∧ (decode cX4_hand 28 = .ok (.putfield 22, 3)) ∧ (decode cX4_hand 31 = .ok (.aload_n 0, 1)) ∧ (decode cX4_hand 32 = .ok (.getfield 19, 3)) ∧ (decode cX4_hand 35 = .ok (.iload_n 1, 1)) ∧ (decode cX4_hand 36 = .ok (.iaload, 1)) := by decide +kernel
theorem dX4_hand_19 : decode cX4_hand 19 = .ok (.iaload, 1) := gX4_hand_12.1
theorem dX4_hand_20 : decode cX4_hand 20 = .ok (.aload_n 0, 1) := gX4_hand_12.2.1
theorem dX4_hand_21 : decode cX4_hand 21 = .ok (.getfield 31, 3) := gX4_hand_12.2.2.1
theorem dX4_hand_24 : decode cX4_hand 24 = .ok (.isub, 1) := gX4_hand_12.2.2.2.1
theorem dX4_hand_25 : decode cX4_hand 25 = .ok (.iastore, 1) := gX4_hand_12.2.2.2.2.1
theorem dX4_hand_26 : decode cX4_hand 26 = .ok (.aload_n 0, 1) := gX4_hand_12.2.2.2.2.2.1
theorem dX4_hand_27 : decode cX4_hand 27 = .ok (.iload_n 1, 1) := gX4_hand_12.2.2.2.2.2.2.1
theorem dX4_hand_28 : decode cX4_hand 28 = .ok (.putfield 22, 3) := gX4_hand_12.2.2.2.2.2.2.2.1
theorem dX4_hand_31 : decode cX4_hand 31 = .ok (.aload_n 0, 1) := gX4_hand_12.2.2.2.2.2.2.2.2.1
theorem dX4_hand_32 : decode cX4_hand 32 = .ok (.getfield 19, 3) := gX4_hand_12.2.2.2.2.2.2.2.2.2.1
theorem dX4_hand_35 : decode cX4_hand 35 = .ok (.iload_n 1, 1) := gX4_hand_12.2.2.2.2.2.2.2.2.2.2.1
theorem dX4_hand_36 : decode cX4_hand 36 = .ok (.iaload, 1) := gX4_hand_12.2.2.2.2.2.2.2.2.2.2.2
theorem gX4_hand_24 : (decode cX4_hand 37 = .ok (.ireturn, 1)) := by decide +kernel
theorem dX4_hand_37 : decode cX4_hand 37 = .ok (.ireturn, 1) := gX4_hand_24
theorem gX5_init_0 : (decode cX5_init 0 = .ok (.aload_n 0, 1)) ∧ (decode cX5_init 1 = .ok (.invokespecial 3, 3)) ∧ (decode cX5_init 4 = .ok (.aload_n 0, 1)) ∧ (decode cX5_init 5 = .ok (.sipush 288, 3)) ∧ (decode cX5_init 8 = .ok (.newarray .int, 2)) ∧ (decode cX5_init 10 = .ok (.putfield 9, 3)) ∧ (decode cX5_init 13 = .ok (.aload_n 0, 1)) ∧ (decode cX5_init 14 = .ok (.bipush 48, 2)) ∧ (decode cX5_init 16 = .ok (.newarray .boolean, 2)) ∧ (decode cX5_init 18 = .ok (.putfield 15, 3)) ∧ (decode cX5_init 21 = .ok (.aload_n 0, 1)) ∧ (decode cX5_init 22 = .ok (.bipush 6, 2)) := by decide +kernel
theorem dX5_init_0 : decode cX5_init 0 = .ok (.aload_n 0, 1) := gX5_init_0.1
theorem dX5_init_1 : decode cX5_init 1 = .ok (.invokespecial 3, 3) := gX5_init_0.2.1
theorem dX5_init_4 : decode cX5_init 4 = .ok (.aload_n 0, 1) := gX5_init_0.2.2.1
theorem dX5_init_5 : decode cX5_init 5 = .ok (.sipush 288, 3) := gX5_init_0.2.2.2.1
theorem dX5_init_8 : decode cX5_init 8 = .ok (.newarray .int, 2) := gX5_init_0.2.2.2.2.1
theorem dX5_init_10 : decode cX5_init 10 = .ok (.putfield 9, 3) := gX5_init_0.2.2.2.2.2.1
theorem dX5_init_13 : decode cX5_init 13 = .ok (.aload_n 0, 1) := gX5_init_0.2.2.2.2.2.2.1
theorem dX5_init_14 : decode cX5_init 14 = .ok (.bipush 48, 2) := gX5_init_0.2.2.2.2.2.2.2.1
theorem dX5_init_16 : decode cX5_init 16 = .ok (.newarray .boolean, 2) := gX5_init_0.2.2.2.2.2.2.2.2.1
theorem dX5_init_18 : decode cX5_init 18 = .ok (.putfield 15, 3) := gX5_init_0.2.2.2.2.2.2.2.2.2.1
theorem dX5_init_21 : decode cX5_init 21 = .ok (.aload_n 0, 1) := gX5_init_0.2.2.2.2.2.2.2.2.2.2.1
theorem dX5_init_22 : decode cX5_init 22 = .ok (.bipush 6, 2) := gX5_init_0.2.2.2.2.2.2.2.2.2.2.2
theorem gX5_init_12 : (decode cX5_init 24 = .ok (.newarray .boolean, 2)) ∧ (decode cX5_init 26 = .ok (.putfield 19, 3)) ∧ (decode cX5_init 29 = .ok (.aload_n 0, 1)) ∧ (decode cX5_init 30 = .ok (.getfield 9, 3)) ∧ (decode cX5_init 33 = .ok (.bipush (-9), 2)) ∧ (decode cX5_init 35 = .ok (.invokestatic 22, 3)) ∧ (decode cX5_init 38 = .ok (.return_, 1)) := by decide +kernel
theorem dX5_init_24 : decode cX5_init 24 = .ok (.newarray .boolean, 2) := gX5_init_12.1
theorem dX5_init_26 : decode cX5_init 26 = .ok (.putfield 19, 3) := gX5_init_12.2.1
theorem dX5_init_29 : decode cX5_init 29 = .ok (.aload_n 0, 1) := gX5_init_12.2.2.1
theorem dX5_init_30 : decode cX5_init 30 = .ok (.getfield 9, 3) := gX5_init_12.2.2.2.1
theorem dX5_init_33 : decode cX5_init 33 = .ok (.bipush (-9), 2) := gX5_init_12.2.2.2.2.1
theorem dX5_init_35 : decode cX5_init 35 = .ok (.invokestatic 22, 3) := gX5_init_12.2.2.2.2.2.1
theorem dX5_init_38 : decode cX5_init 38 = .ok (.return_, 1) := gX5_init_12.2.2.2.2.2.2
theorem gX5_put_0 : (decode cX5_put 0 = .ok (.aload_n 0, 1)) ∧ (decode cX5_put 1 = .ok (.getfield 9, 3)) ∧ (decode cX5_put 4 = .ok (.iload_n 1, 1)) ∧ (decode cX5_put 5 = .ok (.bipush 48, 2)) ∧ (decode cX5_put 7 = .ok (.imul, 1)) ∧ (decode cX5_put 8 = .ok (.iload_n 2, 1)) ∧ (decode cX5_put 9 = .ok (.iadd, 1)) ∧ (decode cX5_put 10 = .ok (.iaload, 1)) ∧ (decode cX5_put 11 = .ok (.istore 4, 2)) ∧ (decode cX5_put 13 = .ok (.aload_n 0, 1)) ∧ (decode cX5_put 14 = .ok (.getfield 9, 3)) ∧ (decode cX5_put 17 = .ok (.iload_n 1, 1)) := by decide +kernel
theorem dX5_put_0 : decode cX5_put 0 = .ok (.aload_n 0, 1) := gX5_put_0.1
theorem dX5_put_1 : decode cX5_put 1 = .ok (.getfield 9, 3) := gX5_put_0.2.1
theorem dX5_put_4 : decode cX5_put 4 = .ok (.iload_n 1, 1) := gX5_put_0.2.2.1
theorem dX5_put_5 : decode cX5_put 5 = .ok (.bipush 48, 2) := gX5_put_0.2.2.2.1
theorem dX5_put_7 : decode cX5_put 7 = .ok (.imul, 1) := gX5_put_0.2.2.2.2.1
theorem dX5_put_8 : decode cX5_put 8 = .ok (.iload_n 2, 1) := gX5_put_0.2.2.2.2.2.1
theorem dX5_put_9 : decode cX5_put 9 = .ok (.iadd, 1) := gX5_put_0.2.2.2.2.2.2.1
theorem dX5_put_10 : decode cX5_put 10 = .ok (.iaload, 1) := gX5_put_0.2.2.2.2.2.2.2.1
theorem dX5_put_11 : decode cX5_put 11 = .ok (.istore 4, 2) := gX5_put_0.2.2.2.2.2.2.2.2.1
theorem dX5_put_13 : decode cX5_put 13 = .ok (.aload_n 0, 1) := gX5_put_0.2.2.2.2.2.2.2.2.2.1
theorem dX5_put_14 : decode cX5_put 14 = .ok (.getfield 9, 3) := gX5_put_0.2.2.2.2.2.2.2.2.2.2.1
theorem dX5_put_17 : decode cX5_put 17 = .ok (.iload_n 1, 1) := gX5_put_0.2.2.2.2.2.2.2.2.2.2.2
theorem gX5_put_12 : (decode cX5_put 18 = .ok (.bipush 48, 2)) ∧ (decode cX5_put 20 = .ok (.imul, 1)) ∧ (decode cX5_put 21 = .ok (.iload_n 2, 1)) ∧ (decode cX5_put 22 = .ok (.iadd, 1)) ∧ (decode cX5_put 23 = .ok (.iload_n 3, 1)) ∧ (decode cX5_put 24 = .ok (.iastore, 1)) ∧ (decode cX5_put 25 = .ok (.iload 4, 2)) ∧ (decode cX5_put 27 = .ok (.ireturn, 1)) := by decide +kernel
theorem dX5_put_18 : decode cX5_put 18 = .ok (.bipush 48, 2) := gX5_put_12.1
theorem dX5_put_20 : decode cX5_put 20 = .ok (.imul, 1) := gX5_put_12.2.1
theorem dX5_put_21 : decode cX5_put 21 = .ok (.iload_n 2, 1) := gX5_put_12.2.2.1
theorem dX5_put_22 : decode cX5_put 22 = .ok (.iadd, 1) := gX5_put_12.2.2.2.1
theorem dX5_put_23 : decode cX5_put 23 = .ok (.iload_n 3, 1) := gX5_put_12.2.2.2.2.1
theorem dX5_put_24 : decode cX5_put 24 = .ok (.iastore, 1) := gX5_put_12.2.2.2.2.2.1
theorem dX5_put_25 : decode cX5_put 25 = .ok (.iload 4, 2) := gX5_put_12.2.2.2.2.2.2.1
theorem dX5_put_27 : decode cX5_put 27 = .ok (.ireturn, 1) := gX5_put_12.2.2.2.2.2.2.2
theorem gX5_putBar_0 : (decode cX5_putBar 0 = .ok (.iload_n 1, 1)) ∧ (decode cX5_putBar 1 = .ok (.bipush 8, 2)) ∧ (decode cX5_putBar 3 = .ok (.imul, 1)) ∧ (decode cX5_putBar 4 = .ok (.iload_n 2, 1)) ∧ (decode cX5_putBar 5 = .ok (.iadd, 1)) ∧ (decode cX5_putBar 6 = .ok (.istore 4, 2)) ∧ (decode cX5_putBar 8 = .ok (.aload_n 0, 1)) ∧ (decode cX5_putBar 9 = .ok (.getfield 15, 3)) ∧ (decode cX5_putBar 12 = .ok (.iload 4, 2)) ∧ (decode cX5_putBar 14 = .ok (.baload, 1)) ∧ (decode cX5_putBar 15 = .ok (.istore 5, 2)) ∧ (decode cX5_putBar 17 = .ok (.aload_n 0, 1)) := by decide +kernel
theorem dX5_putBar_0 : decode cX5_putBar 0 = .ok (.iload_n 1, 1) := gX5_putBar_0.1
theorem dX5_putBar_1 : decode cX5_putBar 1 = .ok (.bipush 8, 2) := gX5_putBar_0.2.1
theorem dX5_putBar_3 : decode cX5_putBar 3 = .ok (.imul, 1) := gX5_putBar_0.2.2.1
theorem dX5_putBar_4 : decode cX5_putBar 4 = .ok (.iload_n 2, 1) := gX5_putBar_0.2.2.2.1
theorem dX5_putBar_5 : decode cX5_putBar 5 = .ok (.iadd, 1) := gX5_putBar_0.2.2.2.2.1
theorem dX5_putBar_6 : decode cX5_putBar 6 = .ok (.istore 4, 2) := gX5_putBar_0.2.2.2.2.2.1
theorem dX5_putBar_8 : decode cX5_putBar 8 = .ok (.aload_n 0, 1) := gX5_putBar_0.2.2.2.2.2.2.1
theorem dX5_putBar_9 : decode cX5_putBar 9 = .ok (.getfield 15, 3) := gX5_putBar_0.2.2.2.2.2.2.2.1
theorem dX5_putBar_12 : decode cX5_putBar 12 = .ok (.iload 4, 2) := gX5_putBar_0.2.2.2.2.2.2.2.2.1
theorem dX5_putBar_14 : decode cX5_putBar 14 = .ok (.baload, 1) := gX5_putBar_0.2.2.2.2.2.2.2.2.2.1
theorem dX5_putBar_15 : decode cX5_putBar 15 = .ok (.istore 5, 2) := gX5_putBar_0.2.2.2.2.2.2.2.2.2.2.1
theorem dX5_putBar_17 : decode cX5_putBar 17 = .ok (.aload_n 0, 1) := gX5_putBar_0.2.2.2.2.2.2.2.2.2.2.2
theorem gX5_putBar_12 : (decode cX5_putBar 18 = .ok (.getfield 15, 3)) ∧ (decode cX5_putBar 21 = .ok (.iload 4, 2)) ∧ (decode cX5_putBar 23 = .ok (.iload_n 3, 1)) ∧ (decode cX5_putBar 24 = .ok (.bastore, 1)) ∧ (decode cX5_putBar 25 = .ok (.iload 5, 2)) ∧ (decode cX5_putBar 27 = .ok (.iload_n 3, 1)) ∧ (decode cX5_putBar 28 = .ok (.if_icmp .eq 7, 3)) ∧ (decode cX5_putBar 31 = .ok (.iconst 1, 1)) ∧ (decode cX5_putBar 32 = .ok (.goto 4, 3)) ∧ (decode cX5_putBar 35 = .ok (.iconst 0, 1)) ∧ (decode cX5_putBar 36 = .ok (.ireturn, 1)) := by decide +kernel
theorem dX5_putBar_18 : decode cX5_putBar 18 = .ok (.getfield 15, 3) := gX5_putBar_12.1
theorem dX5_putBar_21 : decode cX5_putBar 21 = .ok (.iload 4, 2) := gX5_putBar_12.2.1
theorem dX5_putBar_23 : decode cX5_putBar 23 = .ok (.iload_n 3, 1) := gX5_putBar_12.2.2.1
theorem dX5_putBar_24 : decode cX5_putBar 24 = .ok (.bastore, 1) := gX5_putBar_12.2.2.2.1
theorem dX5_putBar_25 : decode cX5_putBar 25 = .ok (.iload 5, 2) := gX5_putBar_12.2.2.2.2.1
theorem dX5_putBar_27 : decode cX5_putBar 27 = .ok (.iload_n 3, 1) := gX5_putBar_12.2.2.2.2.2.1
theorem dX5_putBar_28 : decode cX5_putBar 28 = .ok (.if_icmp .eq 7, 3) := gX5_putBar_12.2.2.2.2.2.2.1
theorem dX5_putBar_31 : decode cX5_putBar 31 = .ok (.iconst 1, 1) := gX5_putBar_12.2.2.2.2.2.2.2.1
theorem dX5_putBar_32 : decode cX5_putBar 32 = .ok (.goto 4, 3) := gX5_putBar_12.2.2.2.2.2.2.2.2.1
theorem dX5_putBar_35 : decode cX5_putBar 35 = .ok (.iconst 0, 1) := gX5_putBar_12.2.2.2.2.2.2.2.2.2.1
theorem dX5_putBar_36 : decode cX5_putBar 36 = .ok (.ireturn, 1) := gX5_putBar_12.2.2.2.2.2.2.2.2.2.2
theorem gX5_clearLot_0 : (decode cX5_clearLot 0 = .ok (.iconst 0, 1)) ∧ (decode cX5_clearLot 1 = .ok (.istore_n 2, 1)) ∧ (decode cX5_clearLot 2 = .ok (.iload_n 2, 1)) ∧ (decode cX5_clearLot 3 = .ok (.aload_n 0, 1)) ∧ (decode cX5_clearLot 4 = .ok (.getfield 9, 3)) ∧ (decode cX5_clearLot 7 = .ok (.arraylength, 1)) ∧ (decode cX5_clearLot 8 = .ok (.if_icmp .ge 25, 3)) ∧ (decode cX5_clearLot 11 = .ok (.iload_n 2, 1)) ∧ (decode cX5_clearLot 12 = .ok (.bipush 6, 2)) ∧ (decode cX5_clearLot 14 = .ok (.irem, 1)) ∧ (decode cX5_clearLot 15 = .ok (.iload_n 1, 1)) ∧ (decode cX5_clearLot 16 = .ok (.if_icmp .ne 11, 3)) := by decide +kernel
theorem dX5_clearLot_0 : decode cX5_clearLot 0 = .ok (.iconst 0, 1) := gX5_clearLot_0.1
theorem dX5_clearLot_1 : decode cX5_clearLot 1 = .ok (.istore_n 2, 1) := gX5_clearLot_0.2.1
theorem dX5_clearLot_2 : decode cX5_clearLot 2 = .ok (.iload_n 2, 1) := gX5_clearLot_0.2.2.1
theorem dX5_clearLot_3 : decode cX5_clearLot 3 = .ok (.aload_n 0, 1) := gX5_clearLot_0.2.2.2.1
theorem dX5_clearLot_4 : decode cX5_clearLot 4 = .ok (.getfield 9, 3) := gX5_clearLot_0.2.2.2.2.1
theorem dX5_clearLot_7 : decode cX5_clearLot 7 = .ok (.arraylength, 1) := gX5_clearLot_0.2.2.2.2.2.1
theorem dX5_clearLot_8 : decode cX5_clearLot 8 = .ok (.if_icmp .ge 25, 3) := gX5_clearLot_0.2.2.2.2.2.2.1
theorem dX5_clearLot_11 : decode cX5_clearLot 11 = .ok (.iload_n 2, 1) := gX5_clearLot_0.2.2.2.2.2.2.2.1
theorem dX5_clearLot_12 : decode cX5_clearLot 12 = .ok (.bipush 6, 2) := gX5_clearLot_0.2.2.2.2.2.2.2.2.1
theorem dX5_clearLot_14 : decode cX5_clearLot 14 = .ok (.irem, 1) := gX5_clearLot_0.2.2.2.2.2.2.2.2.2.1
theorem dX5_clearLot_15 : decode cX5_clearLot 15 = .ok (.iload_n 1, 1) := gX5_clearLot_0.2.2.2.2.2.2.2.2.2.2.1
theorem dX5_clearLot_16 : decode cX5_clearLot 16 = .ok (.if_icmp .ne 11, 3) := gX5_clearLot_0.2.2.2.2.2.2.2.2.2.2.2
theorem gX5_clearLot_12 : (decode cX5_clearLot 19 = .ok (.aload_n 0, 1)) ∧ (decode cX5_clearLot 20 = .ok (.getfield 9, 3)) ∧ (decode cX5_clearLot 23 = .ok (.iload_n 2, 1)) ∧ (decode cX5_clearLot 24 = .ok (.bipush (-9), 2)) ∧ (decode cX5_clearLot 26 = .ok (.iastore, 1)) ∧ (decode cX5_clearLot 27 = .ok (.iinc 2 1, 3)) ∧ (decode cX5_clearLot 30 = .ok (.goto (-28), 3)) ∧ (decode cX5_clearLot 33 = .ok (.return_, 1)) := by decide +kernel
theorem dX5_clearLot_19 : decode cX5_clearLot 19 = .ok (.aload_n 0, 1) := gX5_clearLot_12.1
theorem dX5_clearLot_20 : decode cX5_clearLot 20 = .ok (.getfield 9, 3) := gX5_clearLot_12.2.1
theorem dX5_clearLot_23 : decode cX5_clearLot 23 = .ok (.iload_n 2, 1) := gX5_clearLot_12.2.2.1
theorem dX5_clearLot_24 : decode cX5_clearLot 24 = .ok (.bipush (-9), 2) := gX5_clearLot_12.2.2.2.1
theorem dX5_clearLot_26 : decode cX5_clearLot 26 = .ok (.iastore, 1) := gX5_clearLot_12.2.2.2.2.1
theorem dX5_clearLot_27 : decode cX5_clearLot 27 = .ok (.iinc 2 1, 3) := gX5_clearLot_12.2.2.2.2.2.1
theorem dX5_clearLot_30 : decode cX5_clearLot 30 = .ok (.goto (-28), 3) := gX5_clearLot_12.2.2.2.2.2.2.1
theorem dX5_clearLot_33 : decode cX5_clearLot 33 = .ok (.return_, 1) := gX5_clearLot_12.2.2.2.2.2.2.2
theorem gX5_findSilent_0 : (decode cX5_findSilent 0 = .ok (.iconst 0, 1)) ∧ (decode cX5_findSilent 1 = .ok (.istore_n 2, 1)) ∧ (decode cX5_findSilent 2 = .ok (.iload_n 2, 1)) ∧ (decode cX5_findSilent 3 = .ok (.bipush 6, 2)) ∧ (decode cX5_findSilent 5 = .ok (.if_icmp .ge 63, 3)) ∧ (decode cX5_findSilent 8 = .ok (.aload_n 0, 1)) ∧ (decode cX5_findSilent 9 = .ok (.getfield 19, 3)) ∧ (decode cX5_findSilent 12 = .ok (.iload_n 2, 1)) ∧ (decode cX5_findSilent 13 = .ok (.iconst 0, 1)) ∧ (decode cX5_findSilent 14 = .ok (.bastore, 1)) ∧ (decode cX5_findSilent 15 = .ok (.iconst 0, 1)) ∧ (decode cX5_findSilent 16 = .ok (.istore_n 3, 1)) := by decide +kernel
theorem dX5_findSilent_0 : decode cX5_findSilent 0 = .ok (.iconst 0, 1) := gX5_findSilent_0.1
theorem dX5_findSilent_1 : decode cX5_findSilent 1 = .ok (.istore_n 2, 1) := gX5_findSilent_0.2.1
theorem dX5_findSilent_2 : decode cX5_findSilent 2 = .ok (.iload_n 2, 1) := gX5_findSilent_0.2.2.1
theorem dX5_findSilent_3 : decode cX5_findSilent 3 = .ok (.bipush 6, 2) := gX5_findSilent_0.2.2.2.1
theorem dX5_findSilent_5 : decode cX5_findSilent 5 = .ok (.if_icmp .ge 63, 3) := gX5_findSilent_0.2.2.2.2.1
theorem dX5_findSilent_8 : decode cX5_findSilent 8 = .ok (.aload_n 0, 1) := gX5_findSilent_0.2.2.2.2.2.1
theorem dX5_findSilent_9 : decode cX5_findSilent 9 = .ok (.getfield 19, 3) := gX5_findSilent_0.2.2.2.2.2.2.1
theorem dX5_findSilent_12 : decode cX5_findSilent 12 = .ok (.iload_n 2, 1) := gX5_findSilent_0.2.2.2.2.2.2.2.1
theorem dX5_findSilent_13 : decode cX5_findSilent 13 = .ok (.iconst 0, 1) := gX5_findSilent_0.2.2.2.2.2.2.2.2.1
theorem dX5_findSilent_14 : decode cX5_findSilent 14 = .ok (.bastore, 1) := gX5_findSilent_0.2.2.2.2.2.2.2.2.2.1
theorem dX5_findSilent_15 : decode cX5_findSilent 15 = .ok (.iconst 0, 1) := gX5_findSilent_0.2.2.2.2.2.2.2.2.2.2.1
theorem dX5_findSilent_16 : decode cX5_findSilent 16 = .ok (.istore_n 3, 1) := gX5_findSilent_0.2.2.2.2.2.2.2.2.2.2.2
theorem gX5_findSilent_12 : (decode cX5_findSilent 17 = .ok (.iload_n 3, 1)) ∧ (decode cX5_findSilent 18 = .ok (.bipush 8, 2)) ∧ (decode cX5_findSilent 20 = .ok (.if_icmp .ge 42, 3)) ∧ (decode cX5_findSilent 23 = .ok (.iload_n 3, 1)) ∧ (decode cX5_findSilent 24 = .ok (.aload_n 1, 1)) ∧ (decode cX5_findSilent 25 = .ok (.arraylength, 1)) ∧ (decode cX5_findSilent 26 = .ok (.if_icmp .ge 36, 3)) ∧ (decode cX5_findSilent 29 = .ok (.aload_n 1, 1)) ∧ (decode cX5_findSilent 30 = .ok (.iload_n 3, 1)) ∧ (decode cX5_findSilent 31 = .ok (.baload, 1)) ∧ (decode cX5_findSilent 32 = .ok (.ifCond .eq 24, 3)) ∧ (decode cX5_findSilent 35 = .ok (.aload_n 0, 1)) := by decide +kernel
theorem dX5_findSilent_17 : decode cX5_findSilent 17 = .ok (.iload_n 3, 1) := gX5_findSilent_12.1
theorem dX5_findSilent_18 : decode cX5_findSilent 18 = .ok (.bipush 8, 2) := gX5_findSilent_12.2.1
theorem dX5_findSilent_20 : decode cX5_findSilent 20 = .ok (.if_icmp .ge 42, 3) := gX5_findSilent_12.2.2.1
theorem dX5_findSilent_23 : decode cX5_findSilent 23 = .ok (.iload_n 3, 1) := gX5_findSilent_12.2.2.2.1
theorem dX5_findSilent_24 : decode cX5_findSilent 24 = .ok (.aload_n 1, 1) := gX5_findSilent_12.2.2.2.2.1
theorem dX5_findSilent_25 : decode cX5_findSilent 25 = .ok (.arraylength, 1) := gX5_findSilent_12.2.2.2.2.2.1
theorem dX5_findSilent_26 : decode cX5_findSilent 26 = .ok (.if_icmp .ge 36, 3) := gX5_findSilent_12.2.2.2.2.2.2.1
theorem dX5_findSilent_29 : decode cX5_findSilent 29 = .ok (.aload_n 1, 1) := gX5_findSilent_12.2.2.2.2.2.2.2.1
theorem dX5_findSilent_30 : decode cX5_findSilent 30 = .ok (.iload_n 3, 1) := gX5_findSilent_12.2.2.2.2.2.2.2.2.1
theorem dX5_findSilent_31 : decode cX5_findSilent 31 = .ok (.baload, 1) := gX5_findSilent_12.2.2.2.2.2.2.2.2.2.1
theorem dX5_findSilent_32 : decode cX5_findSilent 32 = .ok (.ifCond .eq 24, 3) := gX5_findSilent_12.2.2.2.2.2.2.2.2.2.2.1
theorem dX5_findSilent_35 : decode cX5_findSilent 35 = .ok (.aload_n 0, 1) := gX5_findSilent_12.2.2.2.2.2.2.2.2.2.2.2
theorem gX5_findSilent_24 : (decode cX5_findSilent 36 = .ok (.getfield 15, 3)) ∧ (decode cX5_findSilent 39 = .ok (.iload_n 2, 1)) ∧ (decode cX5_findSilent 40 = .ok (.bipush 8, 2)) ∧ (decode cX5_findSilent 42 = .ok (.imul, 1)) ∧ (decode cX5_findSilent 43 = .ok (.iload_n 3, 1)) ∧ (decode cX5_findSilent 44 = .ok (.iadd, 1)) ∧ (decode cX5_findSilent 45 = .ok (.baload, 1)) ∧ (decode cX5_findSilent 46 = .ok (.ifCond .eq 10, 3)) ∧ (decode cX5_findSilent 49 = .ok (.aload_n 0, 1)) ∧ (decode cX5_findSilent 50 = .ok (.getfield 19, 3)) ∧ (decode cX5_findSilent 53 = .ok (.iload_n 2, 1)) ∧ (decode cX5_findSilent 54 = .ok (.iconst 1, 1)) := by decide +kernel
theorem dX5_findSilent_36 : decode cX5_findSilent 36 = .ok (.getfield 15, 3) := gX5_findSilent_24.1
theorem dX5_findSilent_39 : decode cX5_findSilent 39 = .ok (.iload_n 2, 1) := gX5_findSilent_24.2.1
theorem dX5_findSilent_40 : decode cX5_findSilent 40 = .ok (.bipush 8, 2) := gX5_findSilent_24.2.2.1
theorem dX5_findSilent_42 : decode cX5_findSilent 42 = .ok (.imul, 1) := gX5_findSilent_24.2.2.2.1
theorem dX5_findSilent_43 : decode cX5_findSilent 43 = .ok (.iload_n 3, 1) := gX5_findSilent_24.2.2.2.2.1
theorem dX5_findSilent_44 : decode cX5_findSilent 44 = .ok (.iadd, 1) := gX5_findSilent_24.2.2.2.2.2.1
theorem dX5_findSilent_45 : decode cX5_findSilent 45 = .ok (.baload, 1) := gX5_findSilent_24.2.2.2.2.2.2.1
theorem dX5_findSilent_46 : decode cX5_findSilent 46 = .ok (.ifCond .eq 10, 3) := gX5_findSilent_24.2.2.2.2.2.2.2.1
theorem dX5_findSilent_49 : decode cX5_findSilent 49 = .ok (.aload_n 0, 1) := gX5_findSilent_24.2.2.2.2.2.2.2.2.1
theorem dX5_findSilent_50 : decode cX5_findSilent 50 = .ok (.getfield 19, 3) := gX5_findSilent_24.2.2.2.2.2.2.2.2.2.1
theorem dX5_findSilent_53 : decode cX5_findSilent 53 = .ok (.iload_n 2, 1) := gX5_findSilent_24.2.2.2.2.2.2.2.2.2.2.1
theorem dX5_findSilent_54 : decode cX5_findSilent 54 = .ok (.iconst 1, 1) := gX5_findSilent_24.2.2.2.2.2.2.2.2.2.2.2
theorem gX5_findSilent_36 : (decode cX5_findSilent 55 = .ok (.bastore, 1)) ∧ (decode cX5_findSilent 56 = .ok (.iinc 3 1, 3)) ∧ (decode cX5_findSilent 59 = .ok (.goto (-42), 3)) ∧ (decode cX5_findSilent 62 = .ok (.iinc 2 1, 3)) ∧ (decode cX5_findSilent 65 = .ok (.goto (-63), 3)) ∧ (decode cX5_findSilent 68 = .ok (.return_, 1)) := by decide +kernel
theorem dX5_findSilent_55 : decode cX5_findSilent 55 = .ok (.bastore, 1) := gX5_findSilent_36.1
theorem dX5_findSilent_56 : decode cX5_findSilent 56 = .ok (.iinc 3 1, 3) := gX5_findSilent_36.2.1
theorem dX5_findSilent_59 : decode cX5_findSilent 59 = .ok (.goto (-42), 3) := gX5_findSilent_36.2.2.1
theorem dX5_findSilent_62 : decode cX5_findSilent 62 = .ok (.iinc 2 1, 3) := gX5_findSilent_36.2.2.2.1
theorem dX5_findSilent_65 : decode cX5_findSilent 65 = .ok (.goto (-63), 3) := gX5_findSilent_36.2.2.2.2.1
theorem dX5_findSilent_68 : decode cX5_findSilent 68 = .ok (.return_, 1) := gX5_findSilent_36.2.2.2.2.2
theorem gX5_weigh_0 : (decode cX5_weigh 0 = .ok (.iconst 0, 1)) ∧ (decode cX5_weigh 1 = .ok (.istore_n 3, 1)) ∧ (decode cX5_weigh 2 = .ok (.iconst 0, 1)) ∧ (decode cX5_weigh 3 = .ok (.istore 4, 2)) ∧ (decode cX5_weigh 5 = .ok (.bipush 100, 2)) ∧ (decode cX5_weigh 7 = .ok (.istore 5, 2)) ∧ (decode cX5_weigh 9 = .ok (.iconst 0, 1)) ∧ (decode cX5_weigh 10 = .ok (.istore 6, 2)) ∧ (decode cX5_weigh 12 = .ok (.iconst 0, 1)) ∧ (decode cX5_weigh 13 = .ok (.istore 7, 2)) ∧ (decode cX5_weigh 15 = .ok (.iload 7, 2)) ∧ (decode cX5_weigh 17 = .ok (.bipush 6, 2)) := by decide +kernel
theorem dX5_weigh_0 : decode cX5_weigh 0 = .ok (.iconst 0, 1) := gX5_weigh_0.1
theorem dX5_weigh_1 : decode cX5_weigh 1 = .ok (.istore_n 3, 1) := gX5_weigh_0.2.1
theorem dX5_weigh_2 : decode cX5_weigh 2 = .ok (.iconst 0, 1) := gX5_weigh_0.2.2.1
theorem dX5_weigh_3 : decode cX5_weigh 3 = .ok (.istore 4, 2) := gX5_weigh_0.2.2.2.1
theorem dX5_weigh_5 : decode cX5_weigh 5 = .ok (.bipush 100, 2) := gX5_weigh_0.2.2.2.2.1
theorem dX5_weigh_7 : decode cX5_weigh 7 = .ok (.istore 5, 2) := gX5_weigh_0.2.2.2.2.2.1
theorem dX5_weigh_9 : decode cX5_weigh 9 = .ok (.iconst 0, 1) := gX5_weigh_0.2.2.2.2.2.2.1
theorem dX5_weigh_10 : decode cX5_weigh 10 = .ok (.istore 6, 2) := gX5_weigh_0.2.2.2.2.2.2.2.1
theorem dX5_weigh_12 : decode cX5_weigh 12 = .ok (.iconst 0, 1) := gX5_weigh_0.2.2.2.2.2.2.2.2.1
theorem dX5_weigh_13 : decode cX5_weigh 13 = .ok (.istore 7, 2) := gX5_weigh_0.2.2.2.2.2.2.2.2.2.1
theorem dX5_weigh_15 : decode cX5_weigh 15 = .ok (.iload 7, 2) := gX5_weigh_0.2.2.2.2.2.2.2.2.2.2.1
theorem dX5_weigh_17 : decode cX5_weigh 17 = .ok (.bipush 6, 2) := gX5_weigh_0.2.2.2.2.2.2.2.2.2.2.2
theorem gX5_weigh_12 : (decode cX5_weigh 19 = .ok (.if_icmp .ge 68, 3)) ∧ (decode cX5_weigh 22 = .ok (.aload_n 0, 1)) ∧ (decode cX5_weigh 23 = .ok (.getfield 9, 3)) ∧ (decode cX5_weigh 26 = .ok (.iload 7, 2)) ∧ (decode cX5_weigh 28 = .ok (.bipush 48, 2)) ∧ (decode cX5_weigh 30 = .ok (.imul, 1)) ∧ (decode cX5_weigh 31 = .ok (.iload_n 1, 1)) ∧ (decode cX5_weigh 32 = .ok (.iadd, 1)) ∧ (decode cX5_weigh 33 = .ok (.iaload, 1)) ∧ (decode cX5_weigh 34 = .ok (.istore 8, 2)) ∧ (decode cX5_weigh 36 = .ok (.iload 8, 2)) ∧ (decode cX5_weigh 38 = .ok (.bipush (-9), 2)) := by decide +kernel
theorem dX5_weigh_19 : decode cX5_weigh 19 = .ok (.if_icmp .ge 68, 3) := gX5_weigh_12.1
theorem dX5_weigh_22 : decode cX5_weigh 22 = .ok (.aload_n 0, 1) := gX5_weigh_12.2.1
theorem dX5_weigh_23 : decode cX5_weigh 23 = .ok (.getfield 9, 3) := gX5_weigh_12.2.2.1
theorem dX5_weigh_26 : decode cX5_weigh 26 = .ok (.iload 7, 2) := gX5_weigh_12.2.2.2.1
theorem dX5_weigh_28 : decode cX5_weigh 28 = .ok (.bipush 48, 2) := gX5_weigh_12.2.2.2.2.1
theorem dX5_weigh_30 : decode cX5_weigh 30 = .ok (.imul, 1) := gX5_weigh_12.2.2.2.2.2.1
theorem dX5_weigh_31 : decode cX5_weigh 31 = .ok (.iload_n 1, 1) := gX5_weigh_12.2.2.2.2.2.2.1
theorem dX5_weigh_32 : decode cX5_weigh 32 = .ok (.iadd, 1) := gX5_weigh_12.2.2.2.2.2.2.2.1
theorem dX5_weigh_33 : decode cX5_weigh 33 = .ok (.iaload, 1) := gX5_weigh_12.2.2.2.2.2.2.2.2.1
theorem dX5_weigh_34 : decode cX5_weigh 34 = .ok (.istore 8, 2) := gX5_weigh_12.2.2.2.2.2.2.2.2.2.1
theorem dX5_weigh_36 : decode cX5_weigh 36 = .ok (.iload 8, 2) := gX5_weigh_12.2.2.2.2.2.2.2.2.2.2.1
theorem dX5_weigh_38 : decode cX5_weigh 38 = .ok (.bipush (-9), 2) := gX5_weigh_12.2.2.2.2.2.2.2.2.2.2.2
theorem gX5_weigh_24 : (decode cX5_weigh 40 = .ok (.if_icmp .eq 41, 3)) ∧ (decode cX5_weigh 43 = .ok (.aload_n 0, 1)) ∧ (decode cX5_weigh 44 = .ok (.getfield 19, 3)) ∧ (decode cX5_weigh 47 = .ok (.iload 7, 2)) ∧ (decode cX5_weigh 49 = .ok (.baload, 1)) ∧ (decode cX5_weigh 50 = .ok (.ifCond .ne 31, 3)) ∧ (decode cX5_weigh 53 = .ok (.iinc 3 1, 3)) ∧ (decode cX5_weigh 56 = .ok (.iload 4, 2)) ∧ (decode cX5_weigh 58 = .ok (.iload 8, 2)) ∧ (decode cX5_weigh 60 = .ok (.iadd, 1)) ∧ (decode cX5_weigh 61 = .ok (.istore 4, 2)) ∧ (decode cX5_weigh 63 = .ok (.iload 5, 2)) := by decide +kernel
theorem dX5_weigh_40 : decode cX5_weigh 40 = .ok (.if_icmp .eq 41, 3) := gX5_weigh_24.1
theorem dX5_weigh_43 : decode cX5_weigh 43 = .ok (.aload_n 0, 1) := gX5_weigh_24.2.1
theorem dX5_weigh_44 : decode cX5_weigh 44 = .ok (.getfield 19, 3) := gX5_weigh_24.2.2.1
theorem dX5_weigh_47 : decode cX5_weigh 47 = .ok (.iload 7, 2) := gX5_weigh_24.2.2.2.1
theorem dX5_weigh_49 : decode cX5_weigh 49 = .ok (.baload, 1) := gX5_weigh_24.2.2.2.2.1
theorem dX5_weigh_50 : decode cX5_weigh 50 = .ok (.ifCond .ne 31, 3) := gX5_weigh_24.2.2.2.2.2.1
theorem dX5_weigh_53 : decode cX5_weigh 53 = .ok (.iinc 3 1, 3) := gX5_weigh_24.2.2.2.2.2.2.1
theorem dX5_weigh_56 : decode cX5_weigh 56 = .ok (.iload 4, 2) := gX5_weigh_24.2.2.2.2.2.2.2.1
theorem dX5_weigh_58 : decode cX5_weigh 58 = .ok (.iload 8, 2) := gX5_weigh_24.2.2.2.2.2.2.2.2.1
theorem dX5_weigh_60 : decode cX5_weigh 60 = .ok (.iadd, 1) := gX5_weigh_24.2.2.2.2.2.2.2.2.2.1
theorem dX5_weigh_61 : decode cX5_weigh 61 = .ok (.istore 4, 2) := gX5_weigh_24.2.2.2.2.2.2.2.2.2.2.1
theorem dX5_weigh_63 : decode cX5_weigh 63 = .ok (.iload 5, 2) := gX5_weigh_24.2.2.2.2.2.2.2.2.2.2.2
theorem gX5_weigh_36 : (decode cX5_weigh 65 = .ok (.iload 8, 2)) ∧ (decode cX5_weigh 67 = .ok (.invokestatic 28, 3)) ∧ (decode cX5_weigh 70 = .ok (.istore 5, 2)) ∧ (decode cX5_weigh 72 = .ok (.iload 6, 2)) ∧ (decode cX5_weigh 74 = .ok (.iload 8, 2)) ∧ (decode cX5_weigh 76 = .ok (.invokestatic 34, 3)) ∧ (decode cX5_weigh 79 = .ok (.istore 6, 2)) ∧ (decode cX5_weigh 81 = .ok (.iinc 7 1, 3)) ∧ (decode cX5_weigh 84 = .ok (.goto (-69), 3)) ∧ (decode cX5_weigh 87 = .ok (.iload_n 3, 1)) ∧ (decode cX5_weigh 88 = .ok (.iconst 4, 1)) ∧ (decode cX5_weigh 89 = .ok (.if_icmp .lt 16, 3)) := by decide +kernel
theorem dX5_weigh_65 : decode cX5_weigh 65 = .ok (.iload 8, 2) := gX5_weigh_36.1
theorem dX5_weigh_67 : decode cX5_weigh 67 = .ok (.invokestatic 28, 3) := gX5_weigh_36.2.1
theorem dX5_weigh_70 : decode cX5_weigh 70 = .ok (.istore 5, 2) := gX5_weigh_36.2.2.1
theorem dX5_weigh_72 : decode cX5_weigh 72 = .ok (.iload 6, 2) := gX5_weigh_36.2.2.2.1
theorem dX5_weigh_74 : decode cX5_weigh 74 = .ok (.iload 8, 2) := gX5_weigh_36.2.2.2.2.1
theorem dX5_weigh_76 : decode cX5_weigh 76 = .ok (.invokestatic 34, 3) := gX5_weigh_36.2.2.2.2.2.1
theorem dX5_weigh_79 : decode cX5_weigh 79 = .ok (.istore 6, 2) := gX5_weigh_36.2.2.2.2.2.2.1
theorem dX5_weigh_81 : decode cX5_weigh 81 = .ok (.iinc 7 1, 3) := gX5_weigh_36.2.2.2.2.2.2.2.1
theorem dX5_weigh_84 : decode cX5_weigh 84 = .ok (.goto (-69), 3) := gX5_weigh_36.2.2.2.2.2.2.2.2.1
theorem dX5_weigh_87 : decode cX5_weigh 87 = .ok (.iload_n 3, 1) := gX5_weigh_36.2.2.2.2.2.2.2.2.2.1
theorem dX5_weigh_88 : decode cX5_weigh 88 = .ok (.iconst 4, 1) := gX5_weigh_36.2.2.2.2.2.2.2.2.2.2.1
theorem dX5_weigh_89 : decode cX5_weigh 89 = .ok (.if_icmp .lt 16, 3) := gX5_weigh_36.2.2.2.2.2.2.2.2.2.2.2
theorem gX5_weigh_48 : (decode cX5_weigh 92 = .ok (.iinc 3 (-2), 3)) ∧ (decode cX5_weigh 95 = .ok (.iload 4, 2)) ∧ (decode cX5_weigh 97 = .ok (.iload 5, 2)) ∧ (decode cX5_weigh 99 = .ok (.iload 6, 2)) ∧ (decode cX5_weigh 101 = .ok (.iadd, 1)) ∧ (decode cX5_weigh 102 = .ok (.isub, 1)) ∧ (decode cX5_weigh 103 = .ok (.istore 4, 2)) ∧ (decode cX5_weigh 105 = .ok (.aload_n 2, 1)) ∧ (decode cX5_weigh 106 = .ok (.iload 4, 2)) ∧ (decode cX5_weigh 108 = .ok (.i2l, 1)) ∧ (decode cX5_weigh 109 = .ok (.iconst 1, 1)) ∧ (decode cX5_weigh 110 = .ok (.iload_n 3, 1)) := by decide +kernel
theorem dX5_weigh_92 : decode cX5_weigh 92 = .ok (.iinc 3 (-2), 3) := gX5_weigh_48.1
theorem dX5_weigh_95 : decode cX5_weigh 95 = .ok (.iload 4, 2) := gX5_weigh_48.2.1
theorem dX5_weigh_97 : decode cX5_weigh 97 = .ok (.iload 5, 2) := gX5_weigh_48.2.2.1
theorem dX5_weigh_99 : decode cX5_weigh 99 = .ok (.iload 6, 2) := gX5_weigh_48.2.2.2.1
theorem dX5_weigh_101 : decode cX5_weigh 101 = .ok (.iadd, 1) := gX5_weigh_48.2.2.2.2.1
theorem dX5_weigh_102 : decode cX5_weigh 102 = .ok (.isub, 1) := gX5_weigh_48.2.2.2.2.2.1
theorem dX5_weigh_103 : decode cX5_weigh 103 = .ok (.istore 4, 2) := gX5_weigh_48.2.2.2.2.2.2.1
theorem dX5_weigh_105 : decode cX5_weigh 105 = .ok (.aload_n 2, 1) := gX5_weigh_48.2.2.2.2.2.2.2.1
theorem dX5_weigh_106 : decode cX5_weigh 106 = .ok (.iload 4, 2) := gX5_weigh_48.2.2.2.2.2.2.2.2.1
theorem dX5_weigh_108 : decode cX5_weigh 108 = .ok (.i2l, 1) := gX5_weigh_48.2.2.2.2.2.2.2.2.2.1
theorem dX5_weigh_109 : decode cX5_weigh 109 = .ok (.iconst 1, 1) := gX5_weigh_48.2.2.2.2.2.2.2.2.2.2.1
theorem dX5_weigh_110 : decode cX5_weigh 110 = .ok (.iload_n 3, 1) := gX5_weigh_48.2.2.2.2.2.2.2.2.2.2.2
theorem gX5_weigh_60 : (decode cX5_weigh 111 = .ok (.invokestatic 34, 3)) ∧ (decode cX5_weigh 114 = .ok (.i2l, 1)) ∧ (decode cX5_weigh 115 = .ok (.invokevirtual 37, 3)) ∧ (decode cX5_weigh 118 = .ok (.return_, 1)) := by decide +kernel
theorem dX5_weigh_111 : decode cX5_weigh 111 = .ok (.invokestatic 34, 3) := gX5_weigh_60.1
theorem dX5_weigh_114 : decode cX5_weigh 114 = .ok (.i2l, 1) := gX5_weigh_60.2.1
theorem dX5_weigh_115 : decode cX5_weigh 115 = .ok (.invokevirtual 37, 3) := gX5_weigh_60.2.2.1
theorem dX5_weigh_118 : decode cX5_weigh 118 = .ok (.return_, 1) := gX5_weigh_60.2.2.2
theorem gX6_likenessOf_0 : (decode cX6_likenessOf 0 = .ok (.aload_n 0, 1)) ∧ (decode cX6_likenessOf 1 = .ok (.iload_n 1, 1)) ∧ (decode cX6_likenessOf 2 = .ok (.iload_n 2, 1)) ∧ (decode cX6_likenessOf 3 = .ok (.iconst 0, 1)) ∧ (decode cX6_likenessOf 4 = .ok (.iconst 1, 1)) ∧ (decode cX6_likenessOf 5 = .ok (.iconst 2, 1)) ∧ (decode cX6_likenessOf 6 = .ok (.invokestatic 9, 3)) ∧ (decode cX6_likenessOf 9 = .ok (.lreturn, 1)) := by decide +kernel
theorem dX6_likenessOf_0 : decode cX6_likenessOf 0 = .ok (.aload_n 0, 1) := gX6_likenessOf_0.1
theorem dX6_likenessOf_1 : decode cX6_likenessOf 1 = .ok (.iload_n 1, 1) := gX6_likenessOf_0.2.1
theorem dX6_likenessOf_2 : decode cX6_likenessOf 2 = .ok (.iload_n 2, 1) := gX6_likenessOf_0.2.2.1
theorem dX6_likenessOf_3 : decode cX6_likenessOf 3 = .ok (.iconst 0, 1) := gX6_likenessOf_0.2.2.2.1
theorem dX6_likenessOf_4 : decode cX6_likenessOf 4 = .ok (.iconst 1, 1) := gX6_likenessOf_0.2.2.2.2.1
theorem dX6_likenessOf_5 : decode cX6_likenessOf 5 = .ok (.iconst 2, 1) := gX6_likenessOf_0.2.2.2.2.2.1
theorem dX6_likenessOf_6 : decode cX6_likenessOf 6 = .ok (.invokestatic 9, 3) := gX6_likenessOf_0.2.2.2.2.2.2.1
theorem dX6_likenessOf_9 : decode cX6_likenessOf 9 = .ok (.lreturn, 1) := gX6_likenessOf_0.2.2.2.2.2.2.2
theorem gX6_likenessInOrder_0 : (decode cX6_likenessInOrder 0 = .ok (.aload_n 0, 1)) ∧ (decode cX6_likenessInOrder 1 = .ok (.iload_n 1, 1)) ∧ (decode cX6_likenessInOrder 2 = .ok (.invokevirtual 15, 3)) ∧ (decode cX6_likenessInOrder 5 = .ok (.i2l, 1)) ∧ (decode cX6_likenessInOrder 6 = .ok (.lstore 6, 2)) ∧ (decode cX6_likenessInOrder 8 = .ok (.aload_n 0, 1)) ∧ (decode cX6_likenessInOrder 9 = .ok (.iload_n 2, 1)) ∧ (decode cX6_likenessInOrder 10 = .ok (.invokevirtual 15, 3)) ∧ (decode cX6_likenessInOrder 13 = .ok (.i2l, 1)) ∧ (decode cX6_likenessInOrder 14 = .ok (.lstore 8, 2)) ∧ (decode cX6_likenessInOrder 16 = .ok (.iload_n 1, 1)) ∧ (decode cX6_likenessInOrder 17 = .ok (.iconst 4, 1)) := by decide +kernel
theorem dX6_likenessInOrder_0 : decode cX6_likenessInOrder 0 = .ok (.aload_n 0, 1) := gX6_likenessInOrder_0.1
theorem dX6_likenessInOrder_1 : decode cX6_likenessInOrder 1 = .ok (.iload_n 1, 1) := gX6_likenessInOrder_0.2.1
theorem dX6_likenessInOrder_2 : decode cX6_likenessInOrder 2 = .ok (.invokevirtual 15, 3) := gX6_likenessInOrder_0.2.2.1
theorem dX6_likenessInOrder_5 : decode cX6_likenessInOrder 5 = .ok (.i2l, 1) := gX6_likenessInOrder_0.2.2.2.1
theorem dX6_likenessInOrder_6 : decode cX6_likenessInOrder 6 = .ok (.lstore 6, 2) := gX6_likenessInOrder_0.2.2.2.2.1
theorem dX6_likenessInOrder_8 : decode cX6_likenessInOrder 8 = .ok (.aload_n 0, 1) := gX6_likenessInOrder_0.2.2.2.2.2.1
theorem dX6_likenessInOrder_9 : decode cX6_likenessInOrder 9 = .ok (.iload_n 2, 1) := gX6_likenessInOrder_0.2.2.2.2.2.2.1
theorem dX6_likenessInOrder_10 : decode cX6_likenessInOrder 10 = .ok (.invokevirtual 15, 3) := gX6_likenessInOrder_0.2.2.2.2.2.2.2.1
theorem dX6_likenessInOrder_13 : decode cX6_likenessInOrder 13 = .ok (.i2l, 1) := gX6_likenessInOrder_0.2.2.2.2.2.2.2.2.1
theorem dX6_likenessInOrder_14 : decode cX6_likenessInOrder 14 = .ok (.lstore 8, 2) := gX6_likenessInOrder_0.2.2.2.2.2.2.2.2.2.1
theorem dX6_likenessInOrder_16 : decode cX6_likenessInOrder 16 = .ok (.iload_n 1, 1) := gX6_likenessInOrder_0.2.2.2.2.2.2.2.2.2.2.1
theorem dX6_likenessInOrder_17 : decode cX6_likenessInOrder 17 = .ok (.iconst 4, 1) := gX6_likenessInOrder_0.2.2.2.2.2.2.2.2.2.2.2
theorem gX6_likenessInOrder_12 : (decode cX6_likenessInOrder 18 = .ok (.imul, 1)) ∧ (decode cX6_likenessInOrder 19 = .ok (.istore 10, 2)) ∧ (decode cX6_likenessInOrder 21 = .ok (.iload_n 2, 1)) ∧ (decode cX6_likenessInOrder 22 = .ok (.iconst 4, 1)) ∧ (decode cX6_likenessInOrder 23 = .ok (.imul, 1)) ∧ (decode cX6_likenessInOrder 24 = .ok (.istore 11, 2)) ∧ (decode cX6_likenessInOrder 26 = .ok (.bipush 6, 2)) ∧ (decode cX6_likenessInOrder 28 = .ok (.iload_n 3, 1)) ∧ (decode cX6_likenessInOrder 29 = .ok (.isub, 1)) ∧ (decode cX6_likenessInOrder 30 = .ok (.iload 4, 2)) ∧ (decode cX6_likenessInOrder 32 = .ok (.isub, 1)) ∧ (decode cX6_likenessInOrder 33 = .ok (.iload 5, 2)) := by decide +kernel
theorem dX6_likenessInOrder_18 : decode cX6_likenessInOrder 18 = .ok (.imul, 1) := gX6_likenessInOrder_12.1
theorem dX6_likenessInOrder_19 : decode cX6_likenessInOrder 19 = .ok (.istore 10, 2) := gX6_likenessInOrder_12.2.1
theorem dX6_likenessInOrder_21 : decode cX6_likenessInOrder 21 = .ok (.iload_n 2, 1) := gX6_likenessInOrder_12.2.2.1
theorem dX6_likenessInOrder_22 : decode cX6_likenessInOrder 22 = .ok (.iconst 4, 1) := gX6_likenessInOrder_12.2.2.2.1
theorem dX6_likenessInOrder_23 : decode cX6_likenessInOrder 23 = .ok (.imul, 1) := gX6_likenessInOrder_12.2.2.2.2.1
theorem dX6_likenessInOrder_24 : decode cX6_likenessInOrder 24 = .ok (.istore 11, 2) := gX6_likenessInOrder_12.2.2.2.2.2.1
theorem dX6_likenessInOrder_26 : decode cX6_likenessInOrder 26 = .ok (.bipush 6, 2) := gX6_likenessInOrder_12.2.2.2.2.2.2.1
theorem dX6_likenessInOrder_28 : decode cX6_likenessInOrder 28 = .ok (.iload_n 3, 1) := gX6_likenessInOrder_12.2.2.2.2.2.2.2.1
theorem dX6_likenessInOrder_29 : decode cX6_likenessInOrder 29 = .ok (.isub, 1) := gX6_likenessInOrder_12.2.2.2.2.2.2.2.2.1
theorem dX6_likenessInOrder_30 : decode cX6_likenessInOrder 30 = .ok (.iload 4, 2) := gX6_likenessInOrder_12.2.2.2.2.2.2.2.2.2.1
theorem dX6_likenessInOrder_32 : decode cX6_likenessInOrder 32 = .ok (.isub, 1) := gX6_likenessInOrder_12.2.2.2.2.2.2.2.2.2.2.1
theorem dX6_likenessInOrder_33 : decode cX6_likenessInOrder 33 = .ok (.iload 5, 2) := gX6_likenessInOrder_12.2.2.2.2.2.2.2.2.2.2.2
theorem gX6_likenessInOrder_24 : (decode cX6_likenessInOrder 35 = .ok (.isub, 1)) ∧ (decode cX6_likenessInOrder 36 = .ok (.istore 12, 2)) ∧ (decode cX6_likenessInOrder 38 = .ok (.aload_n 0, 1)) ∧ (decode cX6_likenessInOrder 39 = .ok (.getfield 21, 3)) ∧ (decode cX6_likenessInOrder 42 = .ok (.iload 10, 2)) ∧ (decode cX6_likenessInOrder 44 = .ok (.iaload, 1)) ∧ (decode cX6_likenessInOrder 45 = .ok (.i2l, 1)) ∧ (decode cX6_likenessInOrder 46 = .ok (.lload 8, 2)) ∧ (decode cX6_likenessInOrder 48 = .ok (.lmul, 1)) ∧ (decode cX6_likenessInOrder 49 = .ok (.aload_n 0, 1)) ∧ (decode cX6_likenessInOrder 50 = .ok (.getfield 21, 3)) ∧ (decode cX6_likenessInOrder 53 = .ok (.iload 11, 2)) := by decide +kernel
theorem dX6_likenessInOrder_35 : decode cX6_likenessInOrder 35 = .ok (.isub, 1) := gX6_likenessInOrder_24.1
theorem dX6_likenessInOrder_36 : decode cX6_likenessInOrder 36 = .ok (.istore 12, 2) := gX6_likenessInOrder_24.2.1
theorem dX6_likenessInOrder_38 : decode cX6_likenessInOrder 38 = .ok (.aload_n 0, 1) := gX6_likenessInOrder_24.2.2.1
theorem dX6_likenessInOrder_39 : decode cX6_likenessInOrder 39 = .ok (.getfield 21, 3) := gX6_likenessInOrder_24.2.2.2.1
theorem dX6_likenessInOrder_42 : decode cX6_likenessInOrder 42 = .ok (.iload 10, 2) := gX6_likenessInOrder_24.2.2.2.2.1
theorem dX6_likenessInOrder_44 : decode cX6_likenessInOrder 44 = .ok (.iaload, 1) := gX6_likenessInOrder_24.2.2.2.2.2.1
theorem dX6_likenessInOrder_45 : decode cX6_likenessInOrder 45 = .ok (.i2l, 1) := gX6_likenessInOrder_24.2.2.2.2.2.2.1
theorem dX6_likenessInOrder_46 : decode cX6_likenessInOrder 46 = .ok (.lload 8, 2) := gX6_likenessInOrder_24.2.2.2.2.2.2.2.1
theorem dX6_likenessInOrder_48 : decode cX6_likenessInOrder 48 = .ok (.lmul, 1) := gX6_likenessInOrder_24.2.2.2.2.2.2.2.2.1
theorem dX6_likenessInOrder_49 : decode cX6_likenessInOrder 49 = .ok (.aload_n 0, 1) := gX6_likenessInOrder_24.2.2.2.2.2.2.2.2.2.1
theorem dX6_likenessInOrder_50 : decode cX6_likenessInOrder 50 = .ok (.getfield 21, 3) := gX6_likenessInOrder_24.2.2.2.2.2.2.2.2.2.2.1
theorem dX6_likenessInOrder_53 : decode cX6_likenessInOrder 53 = .ok (.iload 11, 2) := gX6_likenessInOrder_24.2.2.2.2.2.2.2.2.2.2.2
theorem gX6_likenessInOrder_36 : (decode cX6_likenessInOrder 55 = .ok (.iload_n 3, 1)) ∧ (decode cX6_likenessInOrder 56 = .ok (.iadd, 1)) ∧ (decode cX6_likenessInOrder 57 = .ok (.iaload, 1)) ∧ (decode cX6_likenessInOrder 58 = .ok (.i2l, 1)) ∧ (decode cX6_likenessInOrder 59 = .ok (.lload 6, 2)) ∧ (decode cX6_likenessInOrder 61 = .ok (.lmul, 1)) ∧ (decode cX6_likenessInOrder 62 = .ok (.lsub, 1)) ∧ (decode cX6_likenessInOrder 63 = .ok (.invokestatic 25, 3)) ∧ (decode cX6_likenessInOrder 66 = .ok (.aload_n 0, 1)) ∧ (decode cX6_likenessInOrder 67 = .ok (.getfield 21, 3)) ∧ (decode cX6_likenessInOrder 70 = .ok (.iload 10, 2)) ∧ (decode cX6_likenessInOrder 72 = .ok (.iconst 1, 1)) := by decide +kernel
theorem dX6_likenessInOrder_55 : decode cX6_likenessInOrder 55 = .ok (.iload_n 3, 1) := gX6_likenessInOrder_36.1
theorem dX6_likenessInOrder_56 : decode cX6_likenessInOrder 56 = .ok (.iadd, 1) := gX6_likenessInOrder_36.2.1
theorem dX6_likenessInOrder_57 : decode cX6_likenessInOrder 57 = .ok (.iaload, 1) := gX6_likenessInOrder_36.2.2.1
theorem dX6_likenessInOrder_58 : decode cX6_likenessInOrder 58 = .ok (.i2l, 1) := gX6_likenessInOrder_36.2.2.2.1
theorem dX6_likenessInOrder_59 : decode cX6_likenessInOrder 59 = .ok (.lload 6, 2) := gX6_likenessInOrder_36.2.2.2.2.1
theorem dX6_likenessInOrder_61 : decode cX6_likenessInOrder 61 = .ok (.lmul, 1) := gX6_likenessInOrder_36.2.2.2.2.2.1
theorem dX6_likenessInOrder_62 : decode cX6_likenessInOrder 62 = .ok (.lsub, 1) := gX6_likenessInOrder_36.2.2.2.2.2.2.1
theorem dX6_likenessInOrder_63 : decode cX6_likenessInOrder 63 = .ok (.invokestatic 25, 3) := gX6_likenessInOrder_36.2.2.2.2.2.2.2.1
theorem dX6_likenessInOrder_66 : decode cX6_likenessInOrder 66 = .ok (.aload_n 0, 1) := gX6_likenessInOrder_36.2.2.2.2.2.2.2.2.1
theorem dX6_likenessInOrder_67 : decode cX6_likenessInOrder 67 = .ok (.getfield 21, 3) := gX6_likenessInOrder_36.2.2.2.2.2.2.2.2.2.1
theorem dX6_likenessInOrder_70 : decode cX6_likenessInOrder 70 = .ok (.iload 10, 2) := gX6_likenessInOrder_36.2.2.2.2.2.2.2.2.2.2.1
theorem dX6_likenessInOrder_72 : decode cX6_likenessInOrder 72 = .ok (.iconst 1, 1) := gX6_likenessInOrder_36.2.2.2.2.2.2.2.2.2.2.2
theorem gX6_likenessInOrder_48 : (decode cX6_likenessInOrder 73 = .ok (.iadd, 1)) ∧ (decode cX6_likenessInOrder 74 = .ok (.iaload, 1)) ∧ (decode cX6_likenessInOrder 75 = .ok (.i2l, 1)) ∧ (decode cX6_likenessInOrder 76 = .ok (.lload 8, 2)) ∧ (decode cX6_likenessInOrder 78 = .ok (.lmul, 1)) ∧ (decode cX6_likenessInOrder 79 = .ok (.aload_n 0, 1)) ∧ (decode cX6_likenessInOrder 80 = .ok (.getfield 21, 3)) ∧ (decode cX6_likenessInOrder 83 = .ok (.iload 11, 2)) ∧ (decode cX6_likenessInOrder 85 = .ok (.iload 4, 2)) ∧ (decode cX6_likenessInOrder 87 = .ok (.iadd, 1)) ∧ (decode cX6_likenessInOrder 88 = .ok (.iaload, 1)) ∧ (decode cX6_likenessInOrder 89 = .ok (.i2l, 1)) := by decide +kernel
theorem dX6_likenessInOrder_73 : decode cX6_likenessInOrder 73 = .ok (.iadd, 1) := gX6_likenessInOrder_48.1
theorem dX6_likenessInOrder_74 : decode cX6_likenessInOrder 74 = .ok (.iaload, 1) := gX6_likenessInOrder_48.2.1
theorem dX6_likenessInOrder_75 : decode cX6_likenessInOrder 75 = .ok (.i2l, 1) := gX6_likenessInOrder_48.2.2.1
theorem dX6_likenessInOrder_76 : decode cX6_likenessInOrder 76 = .ok (.lload 8, 2) := gX6_likenessInOrder_48.2.2.2.1
theorem dX6_likenessInOrder_78 : decode cX6_likenessInOrder 78 = .ok (.lmul, 1) := gX6_likenessInOrder_48.2.2.2.2.1
theorem dX6_likenessInOrder_79 : decode cX6_likenessInOrder 79 = .ok (.aload_n 0, 1) := gX6_likenessInOrder_48.2.2.2.2.2.1
theorem dX6_likenessInOrder_80 : decode cX6_likenessInOrder 80 = .ok (.getfield 21, 3) := gX6_likenessInOrder_48.2.2.2.2.2.2.1
theorem dX6_likenessInOrder_83 : decode cX6_likenessInOrder 83 = .ok (.iload 11, 2) := gX6_likenessInOrder_48.2.2.2.2.2.2.2.1
theorem dX6_likenessInOrder_85 : decode cX6_likenessInOrder 85 = .ok (.iload 4, 2) := gX6_likenessInOrder_48.2.2.2.2.2.2.2.2.1
theorem dX6_likenessInOrder_87 : decode cX6_likenessInOrder 87 = .ok (.iadd, 1) := gX6_likenessInOrder_48.2.2.2.2.2.2.2.2.2.1
theorem dX6_likenessInOrder_88 : decode cX6_likenessInOrder 88 = .ok (.iaload, 1) := gX6_likenessInOrder_48.2.2.2.2.2.2.2.2.2.2.1
theorem dX6_likenessInOrder_89 : decode cX6_likenessInOrder 89 = .ok (.i2l, 1) := gX6_likenessInOrder_48.2.2.2.2.2.2.2.2.2.2.2
theorem gX6_likenessInOrder_60 : (decode cX6_likenessInOrder 90 = .ok (.lload 6, 2)) ∧ (decode cX6_likenessInOrder 92 = .ok (.lmul, 1)) ∧ (decode cX6_likenessInOrder 93 = .ok (.lsub, 1)) ∧ (decode cX6_likenessInOrder 94 = .ok (.invokestatic 25, 3)) ∧ (decode cX6_likenessInOrder 97 = .ok (.ladd, 1)) ∧ (decode cX6_likenessInOrder 98 = .ok (.aload_n 0, 1)) ∧ (decode cX6_likenessInOrder 99 = .ok (.getfield 21, 3)) ∧ (decode cX6_likenessInOrder 102 = .ok (.iload 10, 2)) ∧ (decode cX6_likenessInOrder 104 = .ok (.iconst 2, 1)) ∧ (decode cX6_likenessInOrder 105 = .ok (.iadd, 1)) ∧ (decode cX6_likenessInOrder 106 = .ok (.iaload, 1)) ∧ (decode cX6_likenessInOrder 107 = .ok (.i2l, 1)) := by decide +kernel
theorem dX6_likenessInOrder_90 : decode cX6_likenessInOrder 90 = .ok (.lload 6, 2) := gX6_likenessInOrder_60.1
theorem dX6_likenessInOrder_92 : decode cX6_likenessInOrder 92 = .ok (.lmul, 1) := gX6_likenessInOrder_60.2.1
theorem dX6_likenessInOrder_93 : decode cX6_likenessInOrder 93 = .ok (.lsub, 1) := gX6_likenessInOrder_60.2.2.1
theorem dX6_likenessInOrder_94 : decode cX6_likenessInOrder 94 = .ok (.invokestatic 25, 3) := gX6_likenessInOrder_60.2.2.2.1
theorem dX6_likenessInOrder_97 : decode cX6_likenessInOrder 97 = .ok (.ladd, 1) := gX6_likenessInOrder_60.2.2.2.2.1
theorem dX6_likenessInOrder_98 : decode cX6_likenessInOrder 98 = .ok (.aload_n 0, 1) := gX6_likenessInOrder_60.2.2.2.2.2.1
theorem dX6_likenessInOrder_99 : decode cX6_likenessInOrder 99 = .ok (.getfield 21, 3) := gX6_likenessInOrder_60.2.2.2.2.2.2.1
theorem dX6_likenessInOrder_102 : decode cX6_likenessInOrder 102 = .ok (.iload 10, 2) := gX6_likenessInOrder_60.2.2.2.2.2.2.2.1
theorem dX6_likenessInOrder_104 : decode cX6_likenessInOrder 104 = .ok (.iconst 2, 1) := gX6_likenessInOrder_60.2.2.2.2.2.2.2.2.1
theorem dX6_likenessInOrder_105 : decode cX6_likenessInOrder 105 = .ok (.iadd, 1) := gX6_likenessInOrder_60.2.2.2.2.2.2.2.2.2.1
theorem dX6_likenessInOrder_106 : decode cX6_likenessInOrder 106 = .ok (.iaload, 1) := gX6_likenessInOrder_60.2.2.2.2.2.2.2.2.2.2.1
theorem dX6_likenessInOrder_107 : decode cX6_likenessInOrder 107 = .ok (.i2l, 1) := gX6_likenessInOrder_60.2.2.2.2.2.2.2.2.2.2.2
theorem gX6_likenessInOrder_72 : (decode cX6_likenessInOrder 108 = .ok (.lload 8, 2)) ∧ (decode cX6_likenessInOrder 110 = .ok (.lmul, 1)) ∧ (decode cX6_likenessInOrder 111 = .ok (.aload_n 0, 1)) ∧ (decode cX6_likenessInOrder 112 = .ok (.getfield 21, 3)) ∧ (decode cX6_likenessInOrder 115 = .ok (.iload 11, 2)) ∧ (decode cX6_likenessInOrder 117 = .ok (.iload 5, 2)) ∧ (decode cX6_likenessInOrder 119 = .ok (.iadd, 1)) ∧ (decode cX6_likenessInOrder 120 = .ok (.iaload, 1)) ∧ (decode cX6_likenessInOrder 121 = .ok (.i2l, 1)) ∧ (decode cX6_likenessInOrder 122 = .ok (.lload 6, 2)) ∧ (decode cX6_likenessInOrder 124 = .ok (.lmul, 1)) ∧ (decode cX6_likenessInOrder 125 = .ok (.lsub, 1)) := by decide +kernel
theorem dX6_likenessInOrder_108 : decode cX6_likenessInOrder 108 = .ok (.lload 8, 2) := gX6_likenessInOrder_72.1
theorem dX6_likenessInOrder_110 : decode cX6_likenessInOrder 110 = .ok (.lmul, 1) := gX6_likenessInOrder_72.2.1
theorem dX6_likenessInOrder_111 : decode cX6_likenessInOrder 111 = .ok (.aload_n 0, 1) := gX6_likenessInOrder_72.2.2.1
theorem dX6_likenessInOrder_112 : decode cX6_likenessInOrder 112 = .ok (.getfield 21, 3) := gX6_likenessInOrder_72.2.2.2.1
theorem dX6_likenessInOrder_115 : decode cX6_likenessInOrder 115 = .ok (.iload 11, 2) := gX6_likenessInOrder_72.2.2.2.2.1
theorem dX6_likenessInOrder_117 : decode cX6_likenessInOrder 117 = .ok (.iload 5, 2) := gX6_likenessInOrder_72.2.2.2.2.2.1
theorem dX6_likenessInOrder_119 : decode cX6_likenessInOrder 119 = .ok (.iadd, 1) := gX6_likenessInOrder_72.2.2.2.2.2.2.1
theorem dX6_likenessInOrder_120 : decode cX6_likenessInOrder 120 = .ok (.iaload, 1) := gX6_likenessInOrder_72.2.2.2.2.2.2.2.1
theorem dX6_likenessInOrder_121 : decode cX6_likenessInOrder 121 = .ok (.i2l, 1) := gX6_likenessInOrder_72.2.2.2.2.2.2.2.2.1
theorem dX6_likenessInOrder_122 : decode cX6_likenessInOrder 122 = .ok (.lload 6, 2) := gX6_likenessInOrder_72.2.2.2.2.2.2.2.2.2.1
theorem dX6_likenessInOrder_124 : decode cX6_likenessInOrder 124 = .ok (.lmul, 1) := gX6_likenessInOrder_72.2.2.2.2.2.2.2.2.2.2.1
theorem dX6_likenessInOrder_125 : decode cX6_likenessInOrder 125 = .ok (.lsub, 1) := gX6_likenessInOrder_72.2.2.2.2.2.2.2.2.2.2.2
theorem gX6_likenessInOrder_84 : (decode cX6_likenessInOrder 126 = .ok (.invokestatic 25, 3)) ∧ (decode cX6_likenessInOrder 129 = .ok (.ladd, 1)) ∧ (decode cX6_likenessInOrder 130 = .ok (.aload_n 0, 1)) ∧ (decode cX6_likenessInOrder 131 = .ok (.getfield 21, 3)) ∧ (decode cX6_likenessInOrder 134 = .ok (.iload 10, 2)) ∧ (decode cX6_likenessInOrder 136 = .ok (.iconst 3, 1)) ∧ (decode cX6_likenessInOrder 137 = .ok (.iadd, 1)) ∧ (decode cX6_likenessInOrder 138 = .ok (.iaload, 1)) ∧ (decode cX6_likenessInOrder 139 = .ok (.i2l, 1)) ∧ (decode cX6_likenessInOrder 140 = .ok (.lload 8, 2)) ∧ (decode cX6_likenessInOrder 142 = .ok (.lmul, 1)) ∧ (decode cX6_likenessInOrder 143 = .ok (.aload_n 0, 1)) := by decide +kernel
theorem dX6_likenessInOrder_126 : decode cX6_likenessInOrder 126 = .ok (.invokestatic 25, 3) := gX6_likenessInOrder_84.1
theorem dX6_likenessInOrder_129 : decode cX6_likenessInOrder 129 = .ok (.ladd, 1) := gX6_likenessInOrder_84.2.1
theorem dX6_likenessInOrder_130 : decode cX6_likenessInOrder 130 = .ok (.aload_n 0, 1) := gX6_likenessInOrder_84.2.2.1
theorem dX6_likenessInOrder_131 : decode cX6_likenessInOrder 131 = .ok (.getfield 21, 3) := gX6_likenessInOrder_84.2.2.2.1
theorem dX6_likenessInOrder_134 : decode cX6_likenessInOrder 134 = .ok (.iload 10, 2) := gX6_likenessInOrder_84.2.2.2.2.1
theorem dX6_likenessInOrder_136 : decode cX6_likenessInOrder 136 = .ok (.iconst 3, 1) := gX6_likenessInOrder_84.2.2.2.2.2.1
theorem dX6_likenessInOrder_137 : decode cX6_likenessInOrder 137 = .ok (.iadd, 1) := gX6_likenessInOrder_84.2.2.2.2.2.2.1
theorem dX6_likenessInOrder_138 : decode cX6_likenessInOrder 138 = .ok (.iaload, 1) := gX6_likenessInOrder_84.2.2.2.2.2.2.2.1
theorem dX6_likenessInOrder_139 : decode cX6_likenessInOrder 139 = .ok (.i2l, 1) := gX6_likenessInOrder_84.2.2.2.2.2.2.2.2.1
theorem dX6_likenessInOrder_140 : decode cX6_likenessInOrder 140 = .ok (.lload 8, 2) := gX6_likenessInOrder_84.2.2.2.2.2.2.2.2.2.1
theorem dX6_likenessInOrder_142 : decode cX6_likenessInOrder 142 = .ok (.lmul, 1) := gX6_likenessInOrder_84.2.2.2.2.2.2.2.2.2.2.1
theorem dX6_likenessInOrder_143 : decode cX6_likenessInOrder 143 = .ok (.aload_n 0, 1) := gX6_likenessInOrder_84.2.2.2.2.2.2.2.2.2.2.2
theorem gX6_likenessInOrder_96 : (decode cX6_likenessInOrder 144 = .ok (.getfield 21, 3)) ∧ (decode cX6_likenessInOrder 147 = .ok (.iload 11, 2)) ∧ (decode cX6_likenessInOrder 149 = .ok (.iload 12, 2)) ∧ (decode cX6_likenessInOrder 151 = .ok (.iadd, 1)) ∧ (decode cX6_likenessInOrder 152 = .ok (.iaload, 1)) ∧ (decode cX6_likenessInOrder 153 = .ok (.i2l, 1)) ∧ (decode cX6_likenessInOrder 154 = .ok (.lload 6, 2)) ∧ (decode cX6_likenessInOrder 156 = .ok (.lmul, 1)) ∧ (decode cX6_likenessInOrder 157 = .ok (.lsub, 1)) ∧ (decode cX6_likenessInOrder 158 = .ok (.invokestatic 25, 3)) ∧ (decode cX6_likenessInOrder 161 = .ok (.ladd, 1)) ∧ (decode cX6_likenessInOrder 162 = .ok (.lreturn, 1)) := by decide +kernel
theorem dX6_likenessInOrder_144 : decode cX6_likenessInOrder 144 = .ok (.getfield 21, 3) := gX6_likenessInOrder_96.1
theorem dX6_likenessInOrder_147 : decode cX6_likenessInOrder 147 = .ok (.iload 11, 2) := gX6_likenessInOrder_96.2.1
theorem dX6_likenessInOrder_149 : decode cX6_likenessInOrder 149 = .ok (.iload 12, 2) := gX6_likenessInOrder_96.2.2.1
theorem dX6_likenessInOrder_151 : decode cX6_likenessInOrder 151 = .ok (.iadd, 1) := gX6_likenessInOrder_96.2.2.2.1
theorem dX6_likenessInOrder_152 : decode cX6_likenessInOrder 152 = .ok (.iaload, 1) := gX6_likenessInOrder_96.2.2.2.2.1
theorem dX6_likenessInOrder_153 : decode cX6_likenessInOrder 153 = .ok (.i2l, 1) := gX6_likenessInOrder_96.2.2.2.2.2.1
theorem dX6_likenessInOrder_154 : decode cX6_likenessInOrder 154 = .ok (.lload 6, 2) := gX6_likenessInOrder_96.2.2.2.2.2.2.1
theorem dX6_likenessInOrder_156 : decode cX6_likenessInOrder 156 = .ok (.lmul, 1) := gX6_likenessInOrder_96.2.2.2.2.2.2.2.1
theorem dX6_likenessInOrder_157 : decode cX6_likenessInOrder 157 = .ok (.lsub, 1) := gX6_likenessInOrder_96.2.2.2.2.2.2.2.2.1
theorem dX6_likenessInOrder_158 : decode cX6_likenessInOrder 158 = .ok (.invokestatic 25, 3) := gX6_likenessInOrder_96.2.2.2.2.2.2.2.2.2.1
theorem dX6_likenessInOrder_161 : decode cX6_likenessInOrder 161 = .ok (.ladd, 1) := gX6_likenessInOrder_96.2.2.2.2.2.2.2.2.2.2.1
theorem dX6_likenessInOrder_162 : decode cX6_likenessInOrder 162 = .ok (.lreturn, 1) := gX6_likenessInOrder_96.2.2.2.2.2.2.2.2.2.2.2
theorem gX6_chanceOf_0 : (decode cX6_chanceOf 0 = .ok (.aload_n 0, 1)) ∧ (decode cX6_chanceOf 1 = .ok (.iload_n 1, 1)) ∧ (decode cX6_chanceOf 2 = .ok (.iload_n 2, 1)) ∧ (decode cX6_chanceOf 3 = .ok (.invokestatic 31, 3)) ∧ (decode cX6_chanceOf 6 = .ok (.lstore_n 3, 1)) ∧ (decode cX6_chanceOf 7 = .ok (.iconst 0, 1)) ∧ (decode cX6_chanceOf 8 = .ok (.istore 5, 2)) ∧ (decode cX6_chanceOf 10 = .ok (.iconst 0, 1)) ∧ (decode cX6_chanceOf 11 = .ok (.istore 6, 2)) ∧ (decode cX6_chanceOf 13 = .ok (.iload 6, 2)) ∧ (decode cX6_chanceOf 15 = .ok (.iconst 4, 1)) ∧ (decode cX6_chanceOf 16 = .ok (.if_icmp .ge 92, 3)) := by decide +kernel
theorem dX6_chanceOf_0 : decode cX6_chanceOf 0 = .ok (.aload_n 0, 1) := gX6_chanceOf_0.1
theorem dX6_chanceOf_1 : decode cX6_chanceOf 1 = .ok (.iload_n 1, 1) := gX6_chanceOf_0.2.1
theorem dX6_chanceOf_2 : decode cX6_chanceOf 2 = .ok (.iload_n 2, 1) := gX6_chanceOf_0.2.2.1
theorem dX6_chanceOf_3 : decode cX6_chanceOf 3 = .ok (.invokestatic 31, 3) := gX6_chanceOf_0.2.2.2.1
theorem dX6_chanceOf_6 : decode cX6_chanceOf 6 = .ok (.lstore_n 3, 1) := gX6_chanceOf_0.2.2.2.2.1
theorem dX6_chanceOf_7 : decode cX6_chanceOf 7 = .ok (.iconst 0, 1) := gX6_chanceOf_0.2.2.2.2.2.1
theorem dX6_chanceOf_8 : decode cX6_chanceOf 8 = .ok (.istore 5, 2) := gX6_chanceOf_0.2.2.2.2.2.2.1
theorem dX6_chanceOf_10 : decode cX6_chanceOf 10 = .ok (.iconst 0, 1) := gX6_chanceOf_0.2.2.2.2.2.2.2.1
theorem dX6_chanceOf_11 : decode cX6_chanceOf 11 = .ok (.istore 6, 2) := gX6_chanceOf_0.2.2.2.2.2.2.2.2.1
theorem dX6_chanceOf_13 : decode cX6_chanceOf 13 = .ok (.iload 6, 2) := gX6_chanceOf_0.2.2.2.2.2.2.2.2.2.1
theorem dX6_chanceOf_15 : decode cX6_chanceOf 15 = .ok (.iconst 4, 1) := gX6_chanceOf_0.2.2.2.2.2.2.2.2.2.2.1
theorem dX6_chanceOf_16 : decode cX6_chanceOf 16 = .ok (.if_icmp .ge 92, 3) := gX6_chanceOf_0.2.2.2.2.2.2.2.2.2.2.2
theorem gX6_chanceOf_12 : (decode cX6_chanceOf 19 = .ok (.iconst 0, 1)) ∧ (decode cX6_chanceOf 20 = .ok (.istore 7, 2)) ∧ (decode cX6_chanceOf 22 = .ok (.iload 7, 2)) ∧ (decode cX6_chanceOf 24 = .ok (.iconst 4, 1)) ∧ (decode cX6_chanceOf 25 = .ok (.if_icmp .ge 77, 3)) ∧ (decode cX6_chanceOf 28 = .ok (.iconst 0, 1)) ∧ (decode cX6_chanceOf 29 = .ok (.istore 8, 2)) ∧ (decode cX6_chanceOf 31 = .ok (.iload 8, 2)) ∧ (decode cX6_chanceOf 33 = .ok (.iconst 4, 1)) ∧ (decode cX6_chanceOf 34 = .ok (.if_icmp .ge 62, 3)) ∧ (decode cX6_chanceOf 37 = .ok (.iload 6, 2)) ∧ (decode cX6_chanceOf 39 = .ok (.iload 7, 2)) := by decide +kernel
theorem dX6_chanceOf_19 : decode cX6_chanceOf 19 = .ok (.iconst 0, 1) := gX6_chanceOf_12.1
theorem dX6_chanceOf_20 : decode cX6_chanceOf 20 = .ok (.istore 7, 2) := gX6_chanceOf_12.2.1
theorem dX6_chanceOf_22 : decode cX6_chanceOf 22 = .ok (.iload 7, 2) := gX6_chanceOf_12.2.2.1
theorem dX6_chanceOf_24 : decode cX6_chanceOf 24 = .ok (.iconst 4, 1) := gX6_chanceOf_12.2.2.2.1
theorem dX6_chanceOf_25 : decode cX6_chanceOf 25 = .ok (.if_icmp .ge 77, 3) := gX6_chanceOf_12.2.2.2.2.1
theorem dX6_chanceOf_28 : decode cX6_chanceOf 28 = .ok (.iconst 0, 1) := gX6_chanceOf_12.2.2.2.2.2.1
theorem dX6_chanceOf_29 : decode cX6_chanceOf 29 = .ok (.istore 8, 2) := gX6_chanceOf_12.2.2.2.2.2.2.1
theorem dX6_chanceOf_31 : decode cX6_chanceOf 31 = .ok (.iload 8, 2) := gX6_chanceOf_12.2.2.2.2.2.2.2.1
theorem dX6_chanceOf_33 : decode cX6_chanceOf 33 = .ok (.iconst 4, 1) := gX6_chanceOf_12.2.2.2.2.2.2.2.2.1
theorem dX6_chanceOf_34 : decode cX6_chanceOf 34 = .ok (.if_icmp .ge 62, 3) := gX6_chanceOf_12.2.2.2.2.2.2.2.2.2.1
theorem dX6_chanceOf_37 : decode cX6_chanceOf 37 = .ok (.iload 6, 2) := gX6_chanceOf_12.2.2.2.2.2.2.2.2.2.2.1
theorem dX6_chanceOf_39 : decode cX6_chanceOf 39 = .ok (.iload 7, 2) := gX6_chanceOf_12.2.2.2.2.2.2.2.2.2.2.2
theorem gX6_chanceOf_24 : (decode cX6_chanceOf 41 = .ok (.if_icmp .eq 21, 3)) ∧ (decode cX6_chanceOf 44 = .ok (.iload 6, 2)) ∧ (decode cX6_chanceOf 46 = .ok (.iload 8, 2)) ∧ (decode cX6_chanceOf 48 = .ok (.if_icmp .eq 14, 3)) ∧ (decode cX6_chanceOf 51 = .ok (.iload 7, 2)) ∧ (decode cX6_chanceOf 53 = .ok (.iload 8, 2)) ∧ (decode cX6_chanceOf 55 = .ok (.if_icmp .eq 7, 3)) ∧ (decode cX6_chanceOf 58 = .ok (.iconst 1, 1)) ∧ (decode cX6_chanceOf 59 = .ok (.goto 4, 3)) ∧ (decode cX6_chanceOf 62 = .ok (.iconst 0, 1)) ∧ (decode cX6_chanceOf 63 = .ok (.istore 9, 2)) ∧ (decode cX6_chanceOf 65 = .ok (.iload 9, 2)) := by decide +kernel
theorem dX6_chanceOf_41 : decode cX6_chanceOf 41 = .ok (.if_icmp .eq 21, 3) := gX6_chanceOf_24.1
theorem dX6_chanceOf_44 : decode cX6_chanceOf 44 = .ok (.iload 6, 2) := gX6_chanceOf_24.2.1
theorem dX6_chanceOf_46 : decode cX6_chanceOf 46 = .ok (.iload 8, 2) := gX6_chanceOf_24.2.2.1
theorem dX6_chanceOf_48 : decode cX6_chanceOf 48 = .ok (.if_icmp .eq 14, 3) := gX6_chanceOf_24.2.2.2.1
theorem dX6_chanceOf_51 : decode cX6_chanceOf 51 = .ok (.iload 7, 2) := gX6_chanceOf_24.2.2.2.2.1
theorem dX6_chanceOf_53 : decode cX6_chanceOf 53 = .ok (.iload 8, 2) := gX6_chanceOf_24.2.2.2.2.2.1
theorem dX6_chanceOf_55 : decode cX6_chanceOf 55 = .ok (.if_icmp .eq 7, 3) := gX6_chanceOf_24.2.2.2.2.2.2.1
theorem dX6_chanceOf_58 : decode cX6_chanceOf 58 = .ok (.iconst 1, 1) := gX6_chanceOf_24.2.2.2.2.2.2.2.1
theorem dX6_chanceOf_59 : decode cX6_chanceOf 59 = .ok (.goto 4, 3) := gX6_chanceOf_24.2.2.2.2.2.2.2.2.1
theorem dX6_chanceOf_62 : decode cX6_chanceOf 62 = .ok (.iconst 0, 1) := gX6_chanceOf_24.2.2.2.2.2.2.2.2.2.1
theorem dX6_chanceOf_63 : decode cX6_chanceOf 63 = .ok (.istore 9, 2) := gX6_chanceOf_24.2.2.2.2.2.2.2.2.2.2.1
theorem dX6_chanceOf_65 : decode cX6_chanceOf 65 = .ok (.iload 9, 2) := gX6_chanceOf_24.2.2.2.2.2.2.2.2.2.2.2
theorem gX6_chanceOf_36 : (decode cX6_chanceOf 67 = .ok (.ifCond .eq 23, 3)) ∧ (decode cX6_chanceOf 70 = .ok (.aload_n 0, 1)) ∧ (decode cX6_chanceOf 71 = .ok (.iload_n 1, 1)) ∧ (decode cX6_chanceOf 72 = .ok (.iload_n 2, 1)) ∧ (decode cX6_chanceOf 73 = .ok (.iload 6, 2)) ∧ (decode cX6_chanceOf 75 = .ok (.iload 7, 2)) ∧ (decode cX6_chanceOf 77 = .ok (.iload 8, 2)) ∧ (decode cX6_chanceOf 79 = .ok (.invokestatic 9, 3)) ∧ (decode cX6_chanceOf 82 = .ok (.lload_n 3, 1)) ∧ (decode cX6_chanceOf 83 = .ok (.lcmp, 1)) ∧ (decode cX6_chanceOf 84 = .ok (.ifCond .gt 6, 3)) ∧ (decode cX6_chanceOf 87 = .ok (.iinc 5 1, 3)) := by decide +kernel
theorem dX6_chanceOf_67 : decode cX6_chanceOf 67 = .ok (.ifCond .eq 23, 3) := gX6_chanceOf_36.1
theorem dX6_chanceOf_70 : decode cX6_chanceOf 70 = .ok (.aload_n 0, 1) := gX6_chanceOf_36.2.1
theorem dX6_chanceOf_71 : decode cX6_chanceOf 71 = .ok (.iload_n 1, 1) := gX6_chanceOf_36.2.2.1
theorem dX6_chanceOf_72 : decode cX6_chanceOf 72 = .ok (.iload_n 2, 1) := gX6_chanceOf_36.2.2.2.1
theorem dX6_chanceOf_73 : decode cX6_chanceOf 73 = .ok (.iload 6, 2) := gX6_chanceOf_36.2.2.2.2.1
theorem dX6_chanceOf_75 : decode cX6_chanceOf 75 = .ok (.iload 7, 2) := gX6_chanceOf_36.2.2.2.2.2.1
theorem dX6_chanceOf_77 : decode cX6_chanceOf 77 = .ok (.iload 8, 2) := gX6_chanceOf_36.2.2.2.2.2.2.1
theorem dX6_chanceOf_79 : decode cX6_chanceOf 79 = .ok (.invokestatic 9, 3) := gX6_chanceOf_36.2.2.2.2.2.2.2.1
theorem dX6_chanceOf_82 : decode cX6_chanceOf 82 = .ok (.lload_n 3, 1) := gX6_chanceOf_36.2.2.2.2.2.2.2.2.1
theorem dX6_chanceOf_83 : decode cX6_chanceOf 83 = .ok (.lcmp, 1) := gX6_chanceOf_36.2.2.2.2.2.2.2.2.2.1
theorem dX6_chanceOf_84 : decode cX6_chanceOf 84 = .ok (.ifCond .gt 6, 3) := gX6_chanceOf_36.2.2.2.2.2.2.2.2.2.2.1
theorem dX6_chanceOf_87 : decode cX6_chanceOf 87 = .ok (.iinc 5 1, 3) := gX6_chanceOf_36.2.2.2.2.2.2.2.2.2.2.2
theorem gX6_chanceOf_48 : (decode cX6_chanceOf 90 = .ok (.iinc 8 1, 3)) ∧ (decode cX6_chanceOf 93 = .ok (.goto (-62), 3)) ∧ (decode cX6_chanceOf 96 = .ok (.iinc 7 1, 3)) ∧ (decode cX6_chanceOf 99 = .ok (.goto (-77), 3)) ∧ (decode cX6_chanceOf 102 = .ok (.iinc 6 1, 3)) ∧ (decode cX6_chanceOf 105 = .ok (.goto (-92), 3)) ∧ (decode cX6_chanceOf 108 = .ok (.iload 5, 2)) ∧ (decode cX6_chanceOf 110 = .ok (.ireturn, 1)) := by decide +kernel
theorem dX6_chanceOf_90 : decode cX6_chanceOf 90 = .ok (.iinc 8 1, 3) := gX6_chanceOf_48.1
theorem dX6_chanceOf_93 : decode cX6_chanceOf 93 = .ok (.goto (-62), 3) := gX6_chanceOf_48.2.1
theorem dX6_chanceOf_96 : decode cX6_chanceOf 96 = .ok (.iinc 7 1, 3) := gX6_chanceOf_48.2.2.1
theorem dX6_chanceOf_99 : decode cX6_chanceOf 99 = .ok (.goto (-77), 3) := gX6_chanceOf_48.2.2.2.1
theorem dX6_chanceOf_102 : decode cX6_chanceOf 102 = .ok (.iinc 6 1, 3) := gX6_chanceOf_48.2.2.2.2.1
theorem dX6_chanceOf_105 : decode cX6_chanceOf 105 = .ok (.goto (-92), 3) := gX6_chanceOf_48.2.2.2.2.2.1
theorem dX6_chanceOf_108 : decode cX6_chanceOf 108 = .ok (.iload 5, 2) := gX6_chanceOf_48.2.2.2.2.2.2.1
theorem dX6_chanceOf_110 : decode cX6_chanceOf 110 = .ok (.ireturn, 1) := gX6_chanceOf_48.2.2.2.2.2.2.2
theorem gX6_areJoined_0 : (decode cX6_areJoined 0 = .ok (.aload_n 0, 1)) ∧ (decode cX6_areJoined 1 = .ok (.iload_n 1, 1)) ∧ (decode cX6_areJoined 2 = .ok (.iload_n 2, 1)) ∧ (decode cX6_areJoined 3 = .ok (.invokestatic 31, 3)) ∧ (decode cX6_areJoined 6 = .ok (.lstore_n 3, 1)) ∧ (decode cX6_areJoined 7 = .ok (.aload_n 0, 1)) ∧ (decode cX6_areJoined 8 = .ok (.iload_n 1, 1)) ∧ (decode cX6_areJoined 9 = .ok (.invokevirtual 15, 3)) ∧ (decode cX6_areJoined 12 = .ok (.i2l, 1)) ∧ (decode cX6_areJoined 13 = .ok (.aload_n 0, 1)) ∧ (decode cX6_areJoined 14 = .ok (.iload_n 2, 1)) ∧ (decode cX6_areJoined 15 = .ok (.invokevirtual 15, 3)) := by decide +kernel
theorem dX6_areJoined_0 : decode cX6_areJoined 0 = .ok (.aload_n 0, 1) := gX6_areJoined_0.1
theorem dX6_areJoined_1 : decode cX6_areJoined 1 = .ok (.iload_n 1, 1) := gX6_areJoined_0.2.1
theorem dX6_areJoined_2 : decode cX6_areJoined 2 = .ok (.iload_n 2, 1) := gX6_areJoined_0.2.2.1
theorem dX6_areJoined_3 : decode cX6_areJoined 3 = .ok (.invokestatic 31, 3) := gX6_areJoined_0.2.2.2.1
theorem dX6_areJoined_6 : decode cX6_areJoined 6 = .ok (.lstore_n 3, 1) := gX6_areJoined_0.2.2.2.2.1
theorem dX6_areJoined_7 : decode cX6_areJoined 7 = .ok (.aload_n 0, 1) := gX6_areJoined_0.2.2.2.2.2.1
theorem dX6_areJoined_8 : decode cX6_areJoined 8 = .ok (.iload_n 1, 1) := gX6_areJoined_0.2.2.2.2.2.2.1
theorem dX6_areJoined_9 : decode cX6_areJoined 9 = .ok (.invokevirtual 15, 3) := gX6_areJoined_0.2.2.2.2.2.2.2.1
theorem dX6_areJoined_12 : decode cX6_areJoined 12 = .ok (.i2l, 1) := gX6_areJoined_0.2.2.2.2.2.2.2.2.1
theorem dX6_areJoined_13 : decode cX6_areJoined 13 = .ok (.aload_n 0, 1) := gX6_areJoined_0.2.2.2.2.2.2.2.2.2.1
theorem dX6_areJoined_14 : decode cX6_areJoined 14 = .ok (.iload_n 2, 1) := gX6_areJoined_0.2.2.2.2.2.2.2.2.2.2.1
theorem dX6_areJoined_15 : decode cX6_areJoined 15 = .ok (.invokevirtual 15, 3) := gX6_areJoined_0.2.2.2.2.2.2.2.2.2.2.2
theorem gX6_areJoined_12 : (decode cX6_areJoined 18 = .ok (.i2l, 1)) ∧ (decode cX6_areJoined 19 = .ok (.lmul, 1)) ∧ (decode cX6_areJoined 20 = .ok (.lstore 5, 2)) ∧ (decode cX6_areJoined 22 = .ok (.lload_n 3, 1)) ∧ (decode cX6_areJoined 23 = .ok (.ldc2_w 35, 3)) ∧ (decode cX6_areJoined 26 = .ok (.lmul, 1)) ∧ (decode cX6_areJoined 27 = .ok (.lload 5, 2)) ∧ (decode cX6_areJoined 29 = .ok (.lcmp, 1)) ∧ (decode cX6_areJoined 30 = .ok (.ifCond .le 5, 3)) ∧ (decode cX6_areJoined 33 = .ok (.iconst 0, 1)) ∧ (decode cX6_areJoined 34 = .ok (.ireturn, 1)) ∧ (decode cX6_areJoined 35 = .ok (.lload_n 3, 1)) := by decide +kernel
theorem dX6_areJoined_18 : decode cX6_areJoined 18 = .ok (.i2l, 1) := gX6_areJoined_12.1
theorem dX6_areJoined_19 : decode cX6_areJoined 19 = .ok (.lmul, 1) := gX6_areJoined_12.2.1
theorem dX6_areJoined_20 : decode cX6_areJoined 20 = .ok (.lstore 5, 2) := gX6_areJoined_12.2.2.1
theorem dX6_areJoined_22 : decode cX6_areJoined 22 = .ok (.lload_n 3, 1) := gX6_areJoined_12.2.2.2.1
theorem dX6_areJoined_23 : decode cX6_areJoined 23 = .ok (.ldc2_w 35, 3) := gX6_areJoined_12.2.2.2.2.1
theorem dX6_areJoined_26 : decode cX6_areJoined 26 = .ok (.lmul, 1) := gX6_areJoined_12.2.2.2.2.2.1
theorem dX6_areJoined_27 : decode cX6_areJoined 27 = .ok (.lload 5, 2) := gX6_areJoined_12.2.2.2.2.2.2.1
theorem dX6_areJoined_29 : decode cX6_areJoined 29 = .ok (.lcmp, 1) := gX6_areJoined_12.2.2.2.2.2.2.2.1
theorem dX6_areJoined_30 : decode cX6_areJoined 30 = .ok (.ifCond .le 5, 3) := gX6_areJoined_12.2.2.2.2.2.2.2.2.1
theorem dX6_areJoined_33 : decode cX6_areJoined 33 = .ok (.iconst 0, 1) := gX6_areJoined_12.2.2.2.2.2.2.2.2.2.1
theorem dX6_areJoined_34 : decode cX6_areJoined 34 = .ok (.ireturn, 1) := gX6_areJoined_12.2.2.2.2.2.2.2.2.2.2.1
theorem dX6_areJoined_35 : decode cX6_areJoined 35 = .ok (.lload_n 3, 1) := gX6_areJoined_12.2.2.2.2.2.2.2.2.2.2.2
theorem gX6_areJoined_24 : (decode cX6_areJoined 36 = .ok (.lconst 0, 1)) ∧ (decode cX6_areJoined 37 = .ok (.lcmp, 1)) ∧ (decode cX6_areJoined 38 = .ok (.ifCond .eq 13, 3)) ∧ (decode cX6_areJoined 41 = .ok (.aload_n 0, 1)) ∧ (decode cX6_areJoined 42 = .ok (.iload_n 1, 1)) ∧ (decode cX6_areJoined 43 = .ok (.iload_n 2, 1)) ∧ (decode cX6_areJoined 44 = .ok (.invokestatic 37, 3)) ∧ (decode cX6_areJoined 47 = .ok (.iconst 1, 1)) ∧ (decode cX6_areJoined 48 = .ok (.if_icmp .ne 7, 3)) ∧ (decode cX6_areJoined 51 = .ok (.iconst 1, 1)) ∧ (decode cX6_areJoined 52 = .ok (.goto 4, 3)) ∧ (decode cX6_areJoined 55 = .ok (.iconst 0, 1)) := by decide +kernel
theorem dX6_areJoined_36 : decode cX6_areJoined 36 = .ok (.lconst 0, 1) := gX6_areJoined_24.1
theorem dX6_areJoined_37 : decode cX6_areJoined 37 = .ok (.lcmp, 1) := gX6_areJoined_24.2.1
theorem dX6_areJoined_38 : decode cX6_areJoined 38 = .ok (.ifCond .eq 13, 3) := gX6_areJoined_24.2.2.1
theorem dX6_areJoined_41 : decode cX6_areJoined 41 = .ok (.aload_n 0, 1) := gX6_areJoined_24.2.2.2.1
theorem dX6_areJoined_42 : decode cX6_areJoined 42 = .ok (.iload_n 1, 1) := gX6_areJoined_24.2.2.2.2.1
theorem dX6_areJoined_43 : decode cX6_areJoined 43 = .ok (.iload_n 2, 1) := gX6_areJoined_24.2.2.2.2.2.1
theorem dX6_areJoined_44 : decode cX6_areJoined 44 = .ok (.invokestatic 37, 3) := gX6_areJoined_24.2.2.2.2.2.2.1
theorem dX6_areJoined_47 : decode cX6_areJoined 47 = .ok (.iconst 1, 1) := gX6_areJoined_24.2.2.2.2.2.2.2.1
theorem dX6_areJoined_48 : decode cX6_areJoined 48 = .ok (.if_icmp .ne 7, 3) := gX6_areJoined_24.2.2.2.2.2.2.2.2.1
theorem dX6_areJoined_51 : decode cX6_areJoined 51 = .ok (.iconst 1, 1) := gX6_areJoined_24.2.2.2.2.2.2.2.2.2.1
theorem dX6_areJoined_52 : decode cX6_areJoined 52 = .ok (.goto 4, 3) := gX6_areJoined_24.2.2.2.2.2.2.2.2.2.2.1
theorem dX6_areJoined_55 : decode cX6_areJoined 55 = .ok (.iconst 0, 1) := gX6_areJoined_24.2.2.2.2.2.2.2.2.2.2.2
theorem gX6_areJoined_36 : (decode cX6_areJoined 56 = .ok (.ireturn, 1)) := by decide +kernel
theorem dX6_areJoined_56 : decode cX6_areJoined 56 = .ok (.ireturn, 1) := gX6_areJoined_36
theorem gX6_leastJoined_0 : (decode cX6_leastJoined 0 = .ok (.iconst 1, 1)) ∧ (decode cX6_leastJoined 1 = .ok (.iload_n 2, 1)) ∧ (decode cX6_leastJoined 2 = .ok (.ishl, 1)) ∧ (decode cX6_leastJoined 3 = .ok (.istore_n 3, 1)) ∧ (decode cX6_leastJoined 4 = .ok (.iconst 0, 1)) ∧ (decode cX6_leastJoined 5 = .ok (.istore 4, 2)) ∧ (decode cX6_leastJoined 7 = .ok (.iconst 0, 1)) ∧ (decode cX6_leastJoined 8 = .ok (.istore 5, 2)) ∧ (decode cX6_leastJoined 10 = .ok (.iload 5, 2)) ∧ (decode cX6_leastJoined 12 = .ok (.bipush 8, 2)) ∧ (decode cX6_leastJoined 14 = .ok (.if_icmp .ge 46, 3)) ∧ (decode cX6_leastJoined 17 = .ok (.iload 4, 2)) := by decide +kernel
theorem dX6_leastJoined_0 : decode cX6_leastJoined 0 = .ok (.iconst 1, 1) := gX6_leastJoined_0.1
theorem dX6_leastJoined_1 : decode cX6_leastJoined 1 = .ok (.iload_n 2, 1) := gX6_leastJoined_0.2.1
theorem dX6_leastJoined_2 : decode cX6_leastJoined 2 = .ok (.ishl, 1) := gX6_leastJoined_0.2.2.1
theorem dX6_leastJoined_3 : decode cX6_leastJoined 3 = .ok (.istore_n 3, 1) := gX6_leastJoined_0.2.2.2.1
theorem dX6_leastJoined_4 : decode cX6_leastJoined 4 = .ok (.iconst 0, 1) := gX6_leastJoined_0.2.2.2.2.1
theorem dX6_leastJoined_5 : decode cX6_leastJoined 5 = .ok (.istore 4, 2) := gX6_leastJoined_0.2.2.2.2.2.1
theorem dX6_leastJoined_7 : decode cX6_leastJoined 7 = .ok (.iconst 0, 1) := gX6_leastJoined_0.2.2.2.2.2.2.1
theorem dX6_leastJoined_8 : decode cX6_leastJoined 8 = .ok (.istore 5, 2) := gX6_leastJoined_0.2.2.2.2.2.2.2.1
theorem dX6_leastJoined_10 : decode cX6_leastJoined 10 = .ok (.iload 5, 2) := gX6_leastJoined_0.2.2.2.2.2.2.2.2.1
theorem dX6_leastJoined_12 : decode cX6_leastJoined 12 = .ok (.bipush 8, 2) := gX6_leastJoined_0.2.2.2.2.2.2.2.2.2.1
theorem dX6_leastJoined_14 : decode cX6_leastJoined 14 = .ok (.if_icmp .ge 46, 3) := gX6_leastJoined_0.2.2.2.2.2.2.2.2.2.2.1
theorem dX6_leastJoined_17 : decode cX6_leastJoined 17 = .ok (.iload 4, 2) := gX6_leastJoined_0.2.2.2.2.2.2.2.2.2.2.2
theorem gX6_leastJoined_12 : (decode cX6_leastJoined 19 = .ok (.iload_n 3, 1)) ∧ (decode cX6_leastJoined 20 = .ok (.if_icmp .eq 40, 3)) ∧ (decode cX6_leastJoined 23 = .ok (.iload_n 3, 1)) ∧ (decode cX6_leastJoined 24 = .ok (.iload 4, 2)) ∧ (decode cX6_leastJoined 26 = .ok (.iconst (-1), 1)) ∧ (decode cX6_leastJoined 27 = .ok (.ixor, 1)) ∧ (decode cX6_leastJoined 28 = .ok (.iand, 1)) ∧ (decode cX6_leastJoined 29 = .ok (.invokestatic 41, 3)) ∧ (decode cX6_leastJoined 32 = .ok (.istore 6, 2)) ∧ (decode cX6_leastJoined 34 = .ok (.iload 4, 2)) ∧ (decode cX6_leastJoined 36 = .ok (.iconst 1, 1)) ∧ (decode cX6_leastJoined 37 = .ok (.iload 6, 2)) := by decide +kernel
theorem dX6_leastJoined_19 : decode cX6_leastJoined 19 = .ok (.iload_n 3, 1) := gX6_leastJoined_12.1
theorem dX6_leastJoined_20 : decode cX6_leastJoined 20 = .ok (.if_icmp .eq 40, 3) := gX6_leastJoined_12.2.1
theorem dX6_leastJoined_23 : decode cX6_leastJoined 23 = .ok (.iload_n 3, 1) := gX6_leastJoined_12.2.2.1
theorem dX6_leastJoined_24 : decode cX6_leastJoined 24 = .ok (.iload 4, 2) := gX6_leastJoined_12.2.2.2.1
theorem dX6_leastJoined_26 : decode cX6_leastJoined 26 = .ok (.iconst (-1), 1) := gX6_leastJoined_12.2.2.2.2.1
theorem dX6_leastJoined_27 : decode cX6_leastJoined 27 = .ok (.ixor, 1) := gX6_leastJoined_12.2.2.2.2.2.1
theorem dX6_leastJoined_28 : decode cX6_leastJoined 28 = .ok (.iand, 1) := gX6_leastJoined_12.2.2.2.2.2.2.1
theorem dX6_leastJoined_29 : decode cX6_leastJoined 29 = .ok (.invokestatic 41, 3) := gX6_leastJoined_12.2.2.2.2.2.2.2.1
theorem dX6_leastJoined_32 : decode cX6_leastJoined 32 = .ok (.istore 6, 2) := gX6_leastJoined_12.2.2.2.2.2.2.2.2.1
theorem dX6_leastJoined_34 : decode cX6_leastJoined 34 = .ok (.iload 4, 2) := gX6_leastJoined_12.2.2.2.2.2.2.2.2.2.1
theorem dX6_leastJoined_36 : decode cX6_leastJoined 36 = .ok (.iconst 1, 1) := gX6_leastJoined_12.2.2.2.2.2.2.2.2.2.2.1
theorem dX6_leastJoined_37 : decode cX6_leastJoined 37 = .ok (.iload 6, 2) := gX6_leastJoined_12.2.2.2.2.2.2.2.2.2.2.2
theorem gX6_leastJoined_24 : (decode cX6_leastJoined 39 = .ok (.ishl, 1)) ∧ (decode cX6_leastJoined 40 = .ok (.ior, 1)) ∧ (decode cX6_leastJoined 41 = .ok (.istore 4, 2)) ∧ (decode cX6_leastJoined 43 = .ok (.iload_n 3, 1)) ∧ (decode cX6_leastJoined 44 = .ok (.aload_n 0, 1)) ∧ (decode cX6_leastJoined 45 = .ok (.iload_n 1, 1)) ∧ (decode cX6_leastJoined 46 = .ok (.iload 6, 2)) ∧ (decode cX6_leastJoined 48 = .ok (.iload_n 3, 1)) ∧ (decode cX6_leastJoined 49 = .ok (.invokestatic 46, 3)) ∧ (decode cX6_leastJoined 52 = .ok (.ior, 1)) ∧ (decode cX6_leastJoined 53 = .ok (.istore_n 3, 1)) ∧ (decode cX6_leastJoined 54 = .ok (.iinc 5 1, 3)) := by decide +kernel
theorem dX6_leastJoined_39 : decode cX6_leastJoined 39 = .ok (.ishl, 1) := gX6_leastJoined_24.1
theorem dX6_leastJoined_40 : decode cX6_leastJoined 40 = .ok (.ior, 1) := gX6_leastJoined_24.2.1
theorem dX6_leastJoined_41 : decode cX6_leastJoined 41 = .ok (.istore 4, 2) := gX6_leastJoined_24.2.2.1
theorem dX6_leastJoined_43 : decode cX6_leastJoined 43 = .ok (.iload_n 3, 1) := gX6_leastJoined_24.2.2.2.1
theorem dX6_leastJoined_44 : decode cX6_leastJoined 44 = .ok (.aload_n 0, 1) := gX6_leastJoined_24.2.2.2.2.1
theorem dX6_leastJoined_45 : decode cX6_leastJoined 45 = .ok (.iload_n 1, 1) := gX6_leastJoined_24.2.2.2.2.2.1
theorem dX6_leastJoined_46 : decode cX6_leastJoined 46 = .ok (.iload 6, 2) := gX6_leastJoined_24.2.2.2.2.2.2.1
theorem dX6_leastJoined_48 : decode cX6_leastJoined 48 = .ok (.iload_n 3, 1) := gX6_leastJoined_24.2.2.2.2.2.2.2.1
theorem dX6_leastJoined_49 : decode cX6_leastJoined 49 = .ok (.invokestatic 46, 3) := gX6_leastJoined_24.2.2.2.2.2.2.2.2.1
theorem dX6_leastJoined_52 : decode cX6_leastJoined 52 = .ok (.ior, 1) := gX6_leastJoined_24.2.2.2.2.2.2.2.2.2.1
theorem dX6_leastJoined_53 : decode cX6_leastJoined 53 = .ok (.istore_n 3, 1) := gX6_leastJoined_24.2.2.2.2.2.2.2.2.2.2.1
theorem dX6_leastJoined_54 : decode cX6_leastJoined 54 = .ok (.iinc 5 1, 3) := gX6_leastJoined_24.2.2.2.2.2.2.2.2.2.2.2
theorem gX6_leastJoined_36 : (decode cX6_leastJoined 57 = .ok (.goto (-47), 3)) ∧ (decode cX6_leastJoined 60 = .ok (.iload_n 3, 1)) ∧ (decode cX6_leastJoined 61 = .ok (.invokestatic 41, 3)) ∧ (decode cX6_leastJoined 64 = .ok (.ireturn, 1)) := by decide +kernel
theorem dX6_leastJoined_57 : decode cX6_leastJoined 57 = .ok (.goto (-47), 3) := gX6_leastJoined_36.1
theorem dX6_leastJoined_60 : decode cX6_leastJoined 60 = .ok (.iload_n 3, 1) := gX6_leastJoined_36.2.1
theorem dX6_leastJoined_61 : decode cX6_leastJoined 61 = .ok (.invokestatic 41, 3) := gX6_leastJoined_36.2.2.1
theorem dX6_leastJoined_64 : decode cX6_leastJoined 64 = .ok (.ireturn, 1) := gX6_leastJoined_36.2.2.2
theorem gX6_joinedWith_0 : (decode cX6_joinedWith 0 = .ok (.iconst 0, 1)) ∧ (decode cX6_joinedWith 1 = .ok (.istore 4, 2)) ∧ (decode cX6_joinedWith 3 = .ok (.iconst 0, 1)) ∧ (decode cX6_joinedWith 4 = .ok (.istore 5, 2)) ∧ (decode cX6_joinedWith 6 = .ok (.iload 5, 2)) ∧ (decode cX6_joinedWith 8 = .ok (.bipush 8, 2)) ∧ (decode cX6_joinedWith 10 = .ok (.if_icmp .ge 71, 3)) ∧ (decode cX6_joinedWith 13 = .ok (.iload 5, 2)) ∧ (decode cX6_joinedWith 15 = .ok (.iload_n 1, 1)) ∧ (decode cX6_joinedWith 16 = .ok (.invokestatic 50, 3)) ∧ (decode cX6_joinedWith 19 = .ok (.istore 6, 2)) ∧ (decode cX6_joinedWith 21 = .ok (.iload_n 3, 1)) := by decide +kernel
theorem dX6_joinedWith_0 : decode cX6_joinedWith 0 = .ok (.iconst 0, 1) := gX6_joinedWith_0.1
theorem dX6_joinedWith_1 : decode cX6_joinedWith 1 = .ok (.istore 4, 2) := gX6_joinedWith_0.2.1
theorem dX6_joinedWith_3 : decode cX6_joinedWith 3 = .ok (.iconst 0, 1) := gX6_joinedWith_0.2.2.1
theorem dX6_joinedWith_4 : decode cX6_joinedWith 4 = .ok (.istore 5, 2) := gX6_joinedWith_0.2.2.2.1
theorem dX6_joinedWith_6 : decode cX6_joinedWith 6 = .ok (.iload 5, 2) := gX6_joinedWith_0.2.2.2.2.1
theorem dX6_joinedWith_8 : decode cX6_joinedWith 8 = .ok (.bipush 8, 2) := gX6_joinedWith_0.2.2.2.2.2.1
theorem dX6_joinedWith_10 : decode cX6_joinedWith 10 = .ok (.if_icmp .ge 71, 3) := gX6_joinedWith_0.2.2.2.2.2.2.1
theorem dX6_joinedWith_13 : decode cX6_joinedWith 13 = .ok (.iload 5, 2) := gX6_joinedWith_0.2.2.2.2.2.2.2.1
theorem dX6_joinedWith_15 : decode cX6_joinedWith 15 = .ok (.iload_n 1, 1) := gX6_joinedWith_0.2.2.2.2.2.2.2.2.1
theorem dX6_joinedWith_16 : decode cX6_joinedWith 16 = .ok (.invokestatic 50, 3) := gX6_joinedWith_0.2.2.2.2.2.2.2.2.2.1
theorem dX6_joinedWith_19 : decode cX6_joinedWith 19 = .ok (.istore 6, 2) := gX6_joinedWith_0.2.2.2.2.2.2.2.2.2.2.1
theorem dX6_joinedWith_21 : decode cX6_joinedWith 21 = .ok (.iload_n 3, 1) := gX6_joinedWith_0.2.2.2.2.2.2.2.2.2.2.2
theorem gX6_joinedWith_12 : (decode cX6_joinedWith 22 = .ok (.iload 5, 2)) ∧ (decode cX6_joinedWith 24 = .ok (.ishr, 1)) ∧ (decode cX6_joinedWith 25 = .ok (.iconst 1, 1)) ∧ (decode cX6_joinedWith 26 = .ok (.iand, 1)) ∧ (decode cX6_joinedWith 27 = .ok (.ifCond .ne 7, 3)) ∧ (decode cX6_joinedWith 30 = .ok (.iconst 1, 1)) ∧ (decode cX6_joinedWith 31 = .ok (.goto 4, 3)) ∧ (decode cX6_joinedWith 34 = .ok (.iconst 0, 1)) ∧ (decode cX6_joinedWith 35 = .ok (.istore 7, 2)) ∧ (decode cX6_joinedWith 37 = .ok (.iload 7, 2)) ∧ (decode cX6_joinedWith 39 = .ok (.ifCond .eq 36, 3)) ∧ (decode cX6_joinedWith 42 = .ok (.aload_n 0, 1)) := by decide +kernel
theorem dX6_joinedWith_22 : decode cX6_joinedWith 22 = .ok (.iload 5, 2) := gX6_joinedWith_12.1
theorem dX6_joinedWith_24 : decode cX6_joinedWith 24 = .ok (.ishr, 1) := gX6_joinedWith_12.2.1
theorem dX6_joinedWith_25 : decode cX6_joinedWith 25 = .ok (.iconst 1, 1) := gX6_joinedWith_12.2.2.1
theorem dX6_joinedWith_26 : decode cX6_joinedWith 26 = .ok (.iand, 1) := gX6_joinedWith_12.2.2.2.1
theorem dX6_joinedWith_27 : decode cX6_joinedWith 27 = .ok (.ifCond .ne 7, 3) := gX6_joinedWith_12.2.2.2.2.1
theorem dX6_joinedWith_30 : decode cX6_joinedWith 30 = .ok (.iconst 1, 1) := gX6_joinedWith_12.2.2.2.2.2.1
theorem dX6_joinedWith_31 : decode cX6_joinedWith 31 = .ok (.goto 4, 3) := gX6_joinedWith_12.2.2.2.2.2.2.1
theorem dX6_joinedWith_34 : decode cX6_joinedWith 34 = .ok (.iconst 0, 1) := gX6_joinedWith_12.2.2.2.2.2.2.2.1
theorem dX6_joinedWith_35 : decode cX6_joinedWith 35 = .ok (.istore 7, 2) := gX6_joinedWith_12.2.2.2.2.2.2.2.2.1
theorem dX6_joinedWith_37 : decode cX6_joinedWith 37 = .ok (.iload 7, 2) := gX6_joinedWith_12.2.2.2.2.2.2.2.2.2.1
theorem dX6_joinedWith_39 : decode cX6_joinedWith 39 = .ok (.ifCond .eq 36, 3) := gX6_joinedWith_12.2.2.2.2.2.2.2.2.2.2.1
theorem dX6_joinedWith_42 : decode cX6_joinedWith 42 = .ok (.aload_n 0, 1) := gX6_joinedWith_12.2.2.2.2.2.2.2.2.2.2.2
theorem gX6_joinedWith_24 : (decode cX6_joinedWith 43 = .ok (.getfield 54, 3)) ∧ (decode cX6_joinedWith 46 = .ok (.iload 6, 2)) ∧ (decode cX6_joinedWith 48 = .ok (.baload, 1)) ∧ (decode cX6_joinedWith 49 = .ok (.ifCond .eq 26, 3)) ∧ (decode cX6_joinedWith 52 = .ok (.aload_n 0, 1)) ∧ (decode cX6_joinedWith 53 = .ok (.iload_n 2, 1)) ∧ (decode cX6_joinedWith 54 = .ok (.iload_n 1, 1)) ∧ (decode cX6_joinedWith 55 = .ok (.invokestatic 50, 3)) ∧ (decode cX6_joinedWith 58 = .ok (.iload 6, 2)) ∧ (decode cX6_joinedWith 60 = .ok (.invokestatic 58, 3)) ∧ (decode cX6_joinedWith 63 = .ok (.ifCond .eq 12, 3)) ∧ (decode cX6_joinedWith 66 = .ok (.iload 4, 2)) := by decide +kernel
theorem dX6_joinedWith_43 : decode cX6_joinedWith 43 = .ok (.getfield 54, 3) := gX6_joinedWith_24.1
theorem dX6_joinedWith_46 : decode cX6_joinedWith 46 = .ok (.iload 6, 2) := gX6_joinedWith_24.2.1
theorem dX6_joinedWith_48 : decode cX6_joinedWith 48 = .ok (.baload, 1) := gX6_joinedWith_24.2.2.1
theorem dX6_joinedWith_49 : decode cX6_joinedWith 49 = .ok (.ifCond .eq 26, 3) := gX6_joinedWith_24.2.2.2.1
theorem dX6_joinedWith_52 : decode cX6_joinedWith 52 = .ok (.aload_n 0, 1) := gX6_joinedWith_24.2.2.2.2.1
theorem dX6_joinedWith_53 : decode cX6_joinedWith 53 = .ok (.iload_n 2, 1) := gX6_joinedWith_24.2.2.2.2.2.1
theorem dX6_joinedWith_54 : decode cX6_joinedWith 54 = .ok (.iload_n 1, 1) := gX6_joinedWith_24.2.2.2.2.2.2.1
theorem dX6_joinedWith_55 : decode cX6_joinedWith 55 = .ok (.invokestatic 50, 3) := gX6_joinedWith_24.2.2.2.2.2.2.2.1
theorem dX6_joinedWith_58 : decode cX6_joinedWith 58 = .ok (.iload 6, 2) := gX6_joinedWith_24.2.2.2.2.2.2.2.2.1
theorem dX6_joinedWith_60 : decode cX6_joinedWith 60 = .ok (.invokestatic 58, 3) := gX6_joinedWith_24.2.2.2.2.2.2.2.2.2.1
theorem dX6_joinedWith_63 : decode cX6_joinedWith 63 = .ok (.ifCond .eq 12, 3) := gX6_joinedWith_24.2.2.2.2.2.2.2.2.2.2.1
theorem dX6_joinedWith_66 : decode cX6_joinedWith 66 = .ok (.iload 4, 2) := gX6_joinedWith_24.2.2.2.2.2.2.2.2.2.2.2
theorem gX6_joinedWith_36 : (decode cX6_joinedWith 68 = .ok (.iconst 1, 1)) ∧ (decode cX6_joinedWith 69 = .ok (.iload 5, 2)) ∧ (decode cX6_joinedWith 71 = .ok (.ishl, 1)) ∧ (decode cX6_joinedWith 72 = .ok (.ior, 1)) ∧ (decode cX6_joinedWith 73 = .ok (.istore 4, 2)) ∧ (decode cX6_joinedWith 75 = .ok (.iinc 5 1, 3)) ∧ (decode cX6_joinedWith 78 = .ok (.goto (-72), 3)) ∧ (decode cX6_joinedWith 81 = .ok (.iload 4, 2)) ∧ (decode cX6_joinedWith 83 = .ok (.ireturn, 1)) := by decide +kernel
theorem dX6_joinedWith_68 : decode cX6_joinedWith 68 = .ok (.iconst 1, 1) := gX6_joinedWith_36.1
theorem dX6_joinedWith_69 : decode cX6_joinedWith 69 = .ok (.iload 5, 2) := gX6_joinedWith_36.2.1
theorem dX6_joinedWith_71 : decode cX6_joinedWith 71 = .ok (.ishl, 1) := gX6_joinedWith_36.2.2.1
theorem dX6_joinedWith_72 : decode cX6_joinedWith 72 = .ok (.ior, 1) := gX6_joinedWith_36.2.2.2.1
theorem dX6_joinedWith_73 : decode cX6_joinedWith 73 = .ok (.istore 4, 2) := gX6_joinedWith_36.2.2.2.2.1
theorem dX6_joinedWith_75 : decode cX6_joinedWith 75 = .ok (.iinc 5 1, 3) := gX6_joinedWith_36.2.2.2.2.2.1
theorem dX6_joinedWith_78 : decode cX6_joinedWith 78 = .ok (.goto (-72), 3) := gX6_joinedWith_36.2.2.2.2.2.2.1
theorem dX6_joinedWith_81 : decode cX6_joinedWith 81 = .ok (.iload 4, 2) := gX6_joinedWith_36.2.2.2.2.2.2.2.1
theorem dX6_joinedWith_83 : decode cX6_joinedWith 83 = .ok (.ireturn, 1) := gX6_joinedWith_36.2.2.2.2.2.2.2.2
theorem gX7_init_0 : (decode cX7_init 0 = .ok (.aload_n 0, 1)) ∧ (decode cX7_init 1 = .ok (.invokespecial 3, 3)) ∧ (decode cX7_init 4 = .ok (.aload_n 0, 1)) ∧ (decode cX7_init 5 = .ok (.new 9, 3)) ∧ (decode cX7_init 8 = .ok (.dup, 1)) ∧ (decode cX7_init 9 = .ok (.invokespecial 11, 3)) ∧ (decode cX7_init 12 = .ok (.putfield 12, 3)) ∧ (decode cX7_init 15 = .ok (.aload_n 0, 1)) ∧ (decode cX7_init 16 = .ok (.bipush 8, 2)) ∧ (decode cX7_init 18 = .ok (.newarray .boolean, 2)) ∧ (decode cX7_init 20 = .ok (.putfield 18, 3)) ∧ (decode cX7_init 23 = .ok (.aload_n 0, 1)) := by decide +kernel
theorem dX7_init_0 : decode cX7_init 0 = .ok (.aload_n 0, 1) := gX7_init_0.1
theorem dX7_init_1 : decode cX7_init 1 = .ok (.invokespecial 3, 3) := gX7_init_0.2.1
theorem dX7_init_4 : decode cX7_init 4 = .ok (.aload_n 0, 1) := gX7_init_0.2.2.1
theorem dX7_init_5 : decode cX7_init 5 = .ok (.new 9, 3) := gX7_init_0.2.2.2.1
theorem dX7_init_8 : decode cX7_init 8 = .ok (.dup, 1) := gX7_init_0.2.2.2.2.1
theorem dX7_init_9 : decode cX7_init 9 = .ok (.invokespecial 11, 3) := gX7_init_0.2.2.2.2.2.1
theorem dX7_init_12 : decode cX7_init 12 = .ok (.putfield 12, 3) := gX7_init_0.2.2.2.2.2.2.1
theorem dX7_init_15 : decode cX7_init 15 = .ok (.aload_n 0, 1) := gX7_init_0.2.2.2.2.2.2.2.1
theorem dX7_init_16 : decode cX7_init 16 = .ok (.bipush 8, 2) := gX7_init_0.2.2.2.2.2.2.2.2.1
theorem dX7_init_18 : decode cX7_init 18 = .ok (.newarray .boolean, 2) := gX7_init_0.2.2.2.2.2.2.2.2.2.1
theorem dX7_init_20 : decode cX7_init 20 = .ok (.putfield 18, 3) := gX7_init_0.2.2.2.2.2.2.2.2.2.2.1
theorem dX7_init_23 : decode cX7_init 23 = .ok (.aload_n 0, 1) := gX7_init_0.2.2.2.2.2.2.2.2.2.2.2
theorem gX7_init_12 : (decode cX7_init 24 = .ok (.bipush 8, 2)) ∧ (decode cX7_init 26 = .ok (.newarray .int, 2)) ∧ (decode cX7_init 28 = .ok (.putfield 22, 3)) ∧ (decode cX7_init 31 = .ok (.aload_n 0, 1)) ∧ (decode cX7_init 32 = .ok (.bipush 8, 2)) ∧ (decode cX7_init 34 = .ok (.newarray .long, 2)) ∧ (decode cX7_init 36 = .ok (.putfield 26, 3)) ∧ (decode cX7_init 39 = .ok (.aload_n 0, 1)) ∧ (decode cX7_init 40 = .ok (.bipush 8, 2)) ∧ (decode cX7_init 42 = .ok (.newarray .long, 2)) ∧ (decode cX7_init 44 = .ok (.putfield 30, 3)) ∧ (decode cX7_init 47 = .ok (.aload_n 0, 1)) := by decide +kernel
theorem dX7_init_24 : decode cX7_init 24 = .ok (.bipush 8, 2) := gX7_init_12.1
theorem dX7_init_26 : decode cX7_init 26 = .ok (.newarray .int, 2) := gX7_init_12.2.1
theorem dX7_init_28 : decode cX7_init 28 = .ok (.putfield 22, 3) := gX7_init_12.2.2.1
theorem dX7_init_31 : decode cX7_init 31 = .ok (.aload_n 0, 1) := gX7_init_12.2.2.2.1
theorem dX7_init_32 : decode cX7_init 32 = .ok (.bipush 8, 2) := gX7_init_12.2.2.2.2.1
theorem dX7_init_34 : decode cX7_init 34 = .ok (.newarray .long, 2) := gX7_init_12.2.2.2.2.2.1
theorem dX7_init_36 : decode cX7_init 36 = .ok (.putfield 26, 3) := gX7_init_12.2.2.2.2.2.2.1
theorem dX7_init_39 : decode cX7_init 39 = .ok (.aload_n 0, 1) := gX7_init_12.2.2.2.2.2.2.2.1
theorem dX7_init_40 : decode cX7_init 40 = .ok (.bipush 8, 2) := gX7_init_12.2.2.2.2.2.2.2.2.1
theorem dX7_init_42 : decode cX7_init 42 = .ok (.newarray .long, 2) := gX7_init_12.2.2.2.2.2.2.2.2.2.1
theorem dX7_init_44 : decode cX7_init 44 = .ok (.putfield 30, 3) := gX7_init_12.2.2.2.2.2.2.2.2.2.2.1
theorem dX7_init_47 : decode cX7_init 47 = .ok (.aload_n 0, 1) := gX7_init_12.2.2.2.2.2.2.2.2.2.2.2
theorem gX7_init_24 : (decode cX7_init 48 = .ok (.bipush 8, 2)) ∧ (decode cX7_init 50 = .ok (.newarray .long, 2)) ∧ (decode cX7_init 52 = .ok (.putfield 33, 3)) ∧ (decode cX7_init 55 = .ok (.aload_n 0, 1)) ∧ (decode cX7_init 56 = .ok (.bipush 8, 2)) ∧ (decode cX7_init 58 = .ok (.newarray .long, 2)) ∧ (decode cX7_init 60 = .ok (.putfield 36, 3)) ∧ (decode cX7_init 63 = .ok (.aload_n 0, 1)) ∧ (decode cX7_init 64 = .ok (.bipush 8, 2)) ∧ (decode cX7_init 66 = .ok (.newarray .boolean, 2)) ∧ (decode cX7_init 68 = .ok (.putfield 39, 3)) ∧ (decode cX7_init 71 = .ok (.aload_n 0, 1)) := by decide +kernel
theorem dX7_init_48 : decode cX7_init 48 = .ok (.bipush 8, 2) := gX7_init_24.1
theorem dX7_init_50 : decode cX7_init 50 = .ok (.newarray .long, 2) := gX7_init_24.2.1
theorem dX7_init_52 : decode cX7_init 52 = .ok (.putfield 33, 3) := gX7_init_24.2.2.1
theorem dX7_init_55 : decode cX7_init 55 = .ok (.aload_n 0, 1) := gX7_init_24.2.2.2.1
theorem dX7_init_56 : decode cX7_init 56 = .ok (.bipush 8, 2) := gX7_init_24.2.2.2.2.1
theorem dX7_init_58 : decode cX7_init 58 = .ok (.newarray .long, 2) := gX7_init_24.2.2.2.2.2.1
theorem dX7_init_60 : decode cX7_init 60 = .ok (.putfield 36, 3) := gX7_init_24.2.2.2.2.2.2.1
theorem dX7_init_63 : decode cX7_init 63 = .ok (.aload_n 0, 1) := gX7_init_24.2.2.2.2.2.2.2.1
theorem dX7_init_64 : decode cX7_init 64 = .ok (.bipush 8, 2) := gX7_init_24.2.2.2.2.2.2.2.2.1
theorem dX7_init_66 : decode cX7_init 66 = .ok (.newarray .boolean, 2) := gX7_init_24.2.2.2.2.2.2.2.2.2.1
theorem dX7_init_68 : decode cX7_init 68 = .ok (.putfield 39, 3) := gX7_init_24.2.2.2.2.2.2.2.2.2.2.1
theorem dX7_init_71 : decode cX7_init 71 = .ok (.aload_n 0, 1) := gX7_init_24.2.2.2.2.2.2.2.2.2.2.2
theorem gX7_init_36 : (decode cX7_init 72 = .ok (.bipush 8, 2)) ∧ (decode cX7_init 74 = .ok (.newarray .int, 2)) ∧ (decode cX7_init 76 = .ok (.putfield 42, 3)) ∧ (decode cX7_init 79 = .ok (.aload_n 0, 1)) ∧ (decode cX7_init 80 = .ok (.bipush 80, 2)) ∧ (decode cX7_init 82 = .ok (.newarray .long, 2)) ∧ (decode cX7_init 84 = .ok (.putfield 45, 3)) ∧ (decode cX7_init 87 = .ok (.aload_n 0, 1)) ∧ (decode cX7_init 88 = .ok (.bipush 80, 2)) ∧ (decode cX7_init 90 = .ok (.newarray .long, 2)) ∧ (decode cX7_init 92 = .ok (.putfield 48, 3)) ∧ (decode cX7_init 95 = .ok (.return_, 1)) := by decide +kernel
theorem dX7_init_72 : decode cX7_init 72 = .ok (.bipush 8, 2) := gX7_init_36.1
theorem dX7_init_74 : decode cX7_init 74 = .ok (.newarray .int, 2) := gX7_init_36.2.1
theorem dX7_init_76 : decode cX7_init 76 = .ok (.putfield 42, 3) := gX7_init_36.2.2.1
theorem dX7_init_79 : decode cX7_init 79 = .ok (.aload_n 0, 1) := gX7_init_36.2.2.2.1
theorem dX7_init_80 : decode cX7_init 80 = .ok (.bipush 80, 2) := gX7_init_36.2.2.2.2.1
theorem dX7_init_82 : decode cX7_init 82 = .ok (.newarray .long, 2) := gX7_init_36.2.2.2.2.2.1
theorem dX7_init_84 : decode cX7_init 84 = .ok (.putfield 45, 3) := gX7_init_36.2.2.2.2.2.2.1
theorem dX7_init_87 : decode cX7_init 87 = .ok (.aload_n 0, 1) := gX7_init_36.2.2.2.2.2.2.2.1
theorem dX7_init_88 : decode cX7_init 88 = .ok (.bipush 80, 2) := gX7_init_36.2.2.2.2.2.2.2.2.1
theorem dX7_init_90 : decode cX7_init 90 = .ok (.newarray .long, 2) := gX7_init_36.2.2.2.2.2.2.2.2.2.1
theorem dX7_init_92 : decode cX7_init 92 = .ok (.putfield 48, 3) := gX7_init_36.2.2.2.2.2.2.2.2.2.2.1
theorem dX7_init_95 : decode cX7_init 95 = .ok (.return_, 1) := gX7_init_36.2.2.2.2.2.2.2.2.2.2.2
theorem gX7_lay_0 : (decode cX7_lay 0 = .ok (.iconst 0, 1)) ∧ (decode cX7_lay 1 = .ok (.istore 5, 2)) ∧ (decode cX7_lay 3 = .ok (.iload 5, 2)) ∧ (decode cX7_lay 5 = .ok (.bipush 8, 2)) ∧ (decode cX7_lay 7 = .ok (.if_icmp .ge 72, 3)) ∧ (decode cX7_lay 10 = .ok (.iload 5, 2)) ∧ (decode cX7_lay 12 = .ok (.iload_n 3, 1)) ∧ (decode cX7_lay 13 = .ok (.invokestatic 51, 3)) ∧ (decode cX7_lay 16 = .ok (.istore 6, 2)) ∧ (decode cX7_lay 18 = .ok (.aload_n 0, 1)) ∧ (decode cX7_lay 19 = .ok (.getfield 18, 3)) ∧ (decode cX7_lay 22 = .ok (.iload 5, 2)) := by decide +kernel
theorem dX7_lay_0 : decode cX7_lay 0 = .ok (.iconst 0, 1) := gX7_lay_0.1
theorem dX7_lay_1 : decode cX7_lay 1 = .ok (.istore 5, 2) := gX7_lay_0.2.1
theorem dX7_lay_3 : decode cX7_lay 3 = .ok (.iload 5, 2) := gX7_lay_0.2.2.1
theorem dX7_lay_5 : decode cX7_lay 5 = .ok (.bipush 8, 2) := gX7_lay_0.2.2.2.1
theorem dX7_lay_7 : decode cX7_lay 7 = .ok (.if_icmp .ge 72, 3) := gX7_lay_0.2.2.2.2.1
theorem dX7_lay_10 : decode cX7_lay 10 = .ok (.iload 5, 2) := gX7_lay_0.2.2.2.2.2.1
theorem dX7_lay_12 : decode cX7_lay 12 = .ok (.iload_n 3, 1) := gX7_lay_0.2.2.2.2.2.2.1
theorem dX7_lay_13 : decode cX7_lay 13 = .ok (.invokestatic 51, 3) := gX7_lay_0.2.2.2.2.2.2.2.1
theorem dX7_lay_16 : decode cX7_lay 16 = .ok (.istore 6, 2) := gX7_lay_0.2.2.2.2.2.2.2.2.1
theorem dX7_lay_18 : decode cX7_lay 18 = .ok (.aload_n 0, 1) := gX7_lay_0.2.2.2.2.2.2.2.2.2.1
theorem dX7_lay_19 : decode cX7_lay 19 = .ok (.getfield 18, 3) := gX7_lay_0.2.2.2.2.2.2.2.2.2.2.1
theorem dX7_lay_22 : decode cX7_lay 22 = .ok (.iload 5, 2) := gX7_lay_0.2.2.2.2.2.2.2.2.2.2.2
theorem gX7_lay_12 : (decode cX7_lay 24 = .ok (.iload 5, 2)) ∧ (decode cX7_lay 26 = .ok (.iload 4, 2)) ∧ (decode cX7_lay 28 = .ok (.if_icmp .eq 16, 3)) ∧ (decode cX7_lay 31 = .ok (.aload_n 1, 1)) ∧ (decode cX7_lay 32 = .ok (.iload 6, 2)) ∧ (decode cX7_lay 34 = .ok (.invokevirtual 55, 3)) ∧ (decode cX7_lay 37 = .ok (.ifCond .eq 7, 3)) ∧ (decode cX7_lay 40 = .ok (.iconst 1, 1)) ∧ (decode cX7_lay 41 = .ok (.goto 4, 3)) ∧ (decode cX7_lay 44 = .ok (.iconst 0, 1)) ∧ (decode cX7_lay 45 = .ok (.bastore, 1)) ∧ (decode cX7_lay 46 = .ok (.aload_n 0, 1)) := by decide +kernel
theorem dX7_lay_24 : decode cX7_lay 24 = .ok (.iload 5, 2) := gX7_lay_12.1
theorem dX7_lay_26 : decode cX7_lay 26 = .ok (.iload 4, 2) := gX7_lay_12.2.1
theorem dX7_lay_28 : decode cX7_lay 28 = .ok (.if_icmp .eq 16, 3) := gX7_lay_12.2.2.1
theorem dX7_lay_31 : decode cX7_lay 31 = .ok (.aload_n 1, 1) := gX7_lay_12.2.2.2.1
theorem dX7_lay_32 : decode cX7_lay 32 = .ok (.iload 6, 2) := gX7_lay_12.2.2.2.2.1
theorem dX7_lay_34 : decode cX7_lay 34 = .ok (.invokevirtual 55, 3) := gX7_lay_12.2.2.2.2.2.1
theorem dX7_lay_37 : decode cX7_lay 37 = .ok (.ifCond .eq 7, 3) := gX7_lay_12.2.2.2.2.2.2.1
theorem dX7_lay_40 : decode cX7_lay 40 = .ok (.iconst 1, 1) := gX7_lay_12.2.2.2.2.2.2.2.1
theorem dX7_lay_41 : decode cX7_lay 41 = .ok (.goto 4, 3) := gX7_lay_12.2.2.2.2.2.2.2.2.1
theorem dX7_lay_44 : decode cX7_lay 44 = .ok (.iconst 0, 1) := gX7_lay_12.2.2.2.2.2.2.2.2.2.1
theorem dX7_lay_45 : decode cX7_lay 45 = .ok (.bastore, 1) := gX7_lay_12.2.2.2.2.2.2.2.2.2.2.1
theorem dX7_lay_46 : decode cX7_lay 46 = .ok (.aload_n 0, 1) := gX7_lay_12.2.2.2.2.2.2.2.2.2.2.2
theorem gX7_lay_24 : (decode cX7_lay 47 = .ok (.getfield 22, 3)) ∧ (decode cX7_lay 50 = .ok (.iload 5, 2)) ∧ (decode cX7_lay 52 = .ok (.aload_n 1, 1)) ∧ (decode cX7_lay 53 = .ok (.getfield 61, 3)) ∧ (decode cX7_lay 56 = .ok (.iload 6, 2)) ∧ (decode cX7_lay 58 = .ok (.baload, 1)) ∧ (decode cX7_lay 59 = .ok (.ifCond .eq 12, 3)) ∧ (decode cX7_lay 62 = .ok (.aload_n 1, 1)) ∧ (decode cX7_lay 63 = .ok (.iload 6, 2)) ∧ (decode cX7_lay 65 = .ok (.invokevirtual 64, 3)) ∧ (decode cX7_lay 68 = .ok (.goto 4, 3)) ∧ (decode cX7_lay 71 = .ok (.iconst 0, 1)) := by decide +kernel
theorem dX7_lay_47 : decode cX7_lay 47 = .ok (.getfield 22, 3) := gX7_lay_24.1
theorem dX7_lay_50 : decode cX7_lay 50 = .ok (.iload 5, 2) := gX7_lay_24.2.1
theorem dX7_lay_52 : decode cX7_lay 52 = .ok (.aload_n 1, 1) := gX7_lay_24.2.2.1
theorem dX7_lay_53 : decode cX7_lay 53 = .ok (.getfield 61, 3) := gX7_lay_24.2.2.2.1
theorem dX7_lay_56 : decode cX7_lay 56 = .ok (.iload 6, 2) := gX7_lay_24.2.2.2.2.1
theorem dX7_lay_58 : decode cX7_lay 58 = .ok (.baload, 1) := gX7_lay_24.2.2.2.2.2.1
theorem dX7_lay_59 : decode cX7_lay 59 = .ok (.ifCond .eq 12, 3) := gX7_lay_24.2.2.2.2.2.2.1
theorem dX7_lay_62 : decode cX7_lay 62 = .ok (.aload_n 1, 1) := gX7_lay_24.2.2.2.2.2.2.2.1
theorem dX7_lay_63 : decode cX7_lay 63 = .ok (.iload 6, 2) := gX7_lay_24.2.2.2.2.2.2.2.2.1
theorem dX7_lay_65 : decode cX7_lay 65 = .ok (.invokevirtual 64, 3) := gX7_lay_24.2.2.2.2.2.2.2.2.2.1
theorem dX7_lay_68 : decode cX7_lay 68 = .ok (.goto 4, 3) := gX7_lay_24.2.2.2.2.2.2.2.2.2.2.1
theorem dX7_lay_71 : decode cX7_lay 71 = .ok (.iconst 0, 1) := gX7_lay_24.2.2.2.2.2.2.2.2.2.2.2
theorem gX7_lay_36 : (decode cX7_lay 72 = .ok (.iastore, 1)) ∧ (decode cX7_lay 73 = .ok (.iinc 5 1, 3)) ∧ (decode cX7_lay 76 = .ok (.goto (-73), 3)) ∧ (decode cX7_lay 79 = .ok (.aload_n 2, 1)) ∧ (decode cX7_lay 80 = .ok (.aload_n 0, 1)) ∧ (decode cX7_lay 81 = .ok (.getfield 18, 3)) ∧ (decode cX7_lay 84 = .ok (.invokevirtual 68, 3)) ∧ (decode cX7_lay 87 = .ok (.iconst 0, 1)) ∧ (decode cX7_lay 88 = .ok (.istore 5, 2)) ∧ (decode cX7_lay 90 = .ok (.iload 5, 2)) ∧ (decode cX7_lay 92 = .ok (.bipush 8, 2)) ∧ (decode cX7_lay 94 = .ok (.if_icmp .ge 51, 3)) := by decide +kernel
theorem dX7_lay_72 : decode cX7_lay 72 = .ok (.iastore, 1) := gX7_lay_36.1
theorem dX7_lay_73 : decode cX7_lay 73 = .ok (.iinc 5 1, 3) := gX7_lay_36.2.1
theorem dX7_lay_76 : decode cX7_lay 76 = .ok (.goto (-73), 3) := gX7_lay_36.2.2.1
theorem dX7_lay_79 : decode cX7_lay 79 = .ok (.aload_n 2, 1) := gX7_lay_36.2.2.2.1
theorem dX7_lay_80 : decode cX7_lay 80 = .ok (.aload_n 0, 1) := gX7_lay_36.2.2.2.2.1
theorem dX7_lay_81 : decode cX7_lay 81 = .ok (.getfield 18, 3) := gX7_lay_36.2.2.2.2.2.1
theorem dX7_lay_84 : decode cX7_lay 84 = .ok (.invokevirtual 68, 3) := gX7_lay_36.2.2.2.2.2.2.1
theorem dX7_lay_87 : decode cX7_lay 87 = .ok (.iconst 0, 1) := gX7_lay_36.2.2.2.2.2.2.2.1
theorem dX7_lay_88 : decode cX7_lay 88 = .ok (.istore 5, 2) := gX7_lay_36.2.2.2.2.2.2.2.2.1
theorem dX7_lay_90 : decode cX7_lay 90 = .ok (.iload 5, 2) := gX7_lay_36.2.2.2.2.2.2.2.2.2.1
theorem dX7_lay_92 : decode cX7_lay 92 = .ok (.bipush 8, 2) := gX7_lay_36.2.2.2.2.2.2.2.2.2.2.1
theorem dX7_lay_94 : decode cX7_lay 94 = .ok (.if_icmp .ge 51, 3) := gX7_lay_36.2.2.2.2.2.2.2.2.2.2.2
theorem gX7_lay_48 : (decode cX7_lay 97 = .ok (.aload_n 2, 1)) ∧ (decode cX7_lay 98 = .ok (.iload 5, 2)) ∧ (decode cX7_lay 100 = .ok (.iload_n 3, 1)) ∧ (decode cX7_lay 101 = .ok (.invokestatic 51, 3)) ∧ (decode cX7_lay 104 = .ok (.aload_n 0, 1)) ∧ (decode cX7_lay 105 = .ok (.getfield 12, 3)) ∧ (decode cX7_lay 108 = .ok (.invokevirtual 74, 3)) ∧ (decode cX7_lay 111 = .ok (.aload_n 0, 1)) ∧ (decode cX7_lay 112 = .ok (.getfield 26, 3)) ∧ (decode cX7_lay 115 = .ok (.iload 5, 2)) ∧ (decode cX7_lay 117 = .ok (.aload_n 0, 1)) ∧ (decode cX7_lay 118 = .ok (.getfield 12, 3)) := by decide +kernel
theorem dX7_lay_97 : decode cX7_lay 97 = .ok (.aload_n 2, 1) := gX7_lay_48.1
theorem dX7_lay_98 : decode cX7_lay 98 = .ok (.iload 5, 2) := gX7_lay_48.2.1
theorem dX7_lay_100 : decode cX7_lay 100 = .ok (.iload_n 3, 1) := gX7_lay_48.2.2.1
theorem dX7_lay_101 : decode cX7_lay 101 = .ok (.invokestatic 51, 3) := gX7_lay_48.2.2.2.1
theorem dX7_lay_104 : decode cX7_lay 104 = .ok (.aload_n 0, 1) := gX7_lay_48.2.2.2.2.1
theorem dX7_lay_105 : decode cX7_lay 105 = .ok (.getfield 12, 3) := gX7_lay_48.2.2.2.2.2.1
theorem dX7_lay_108 : decode cX7_lay 108 = .ok (.invokevirtual 74, 3) := gX7_lay_48.2.2.2.2.2.2.1
theorem dX7_lay_111 : decode cX7_lay 111 = .ok (.aload_n 0, 1) := gX7_lay_48.2.2.2.2.2.2.2.1
theorem dX7_lay_112 : decode cX7_lay 112 = .ok (.getfield 26, 3) := gX7_lay_48.2.2.2.2.2.2.2.2.1
theorem dX7_lay_115 : decode cX7_lay 115 = .ok (.iload 5, 2) := gX7_lay_48.2.2.2.2.2.2.2.2.2.1
theorem dX7_lay_117 : decode cX7_lay 117 = .ok (.aload_n 0, 1) := gX7_lay_48.2.2.2.2.2.2.2.2.2.2.1
theorem dX7_lay_118 : decode cX7_lay 118 = .ok (.getfield 12, 3) := gX7_lay_48.2.2.2.2.2.2.2.2.2.2.2
theorem gX7_lay_60 : (decode cX7_lay 121 = .ok (.getfield 78, 3)) ∧ (decode cX7_lay 124 = .ok (.lastore, 1)) ∧ (decode cX7_lay 125 = .ok (.aload_n 0, 1)) ∧ (decode cX7_lay 126 = .ok (.getfield 30, 3)) ∧ (decode cX7_lay 129 = .ok (.iload 5, 2)) ∧ (decode cX7_lay 131 = .ok (.aload_n 0, 1)) ∧ (decode cX7_lay 132 = .ok (.getfield 12, 3)) ∧ (decode cX7_lay 135 = .ok (.getfield 82, 3)) ∧ (decode cX7_lay 138 = .ok (.lastore, 1)) ∧ (decode cX7_lay 139 = .ok (.iinc 5 1, 3)) ∧ (decode cX7_lay 142 = .ok (.goto (-52), 3)) ∧ (decode cX7_lay 145 = .ok (.aload_n 0, 1)) := by decide +kernel
theorem dX7_lay_121 : decode cX7_lay 121 = .ok (.getfield 78, 3) := gX7_lay_60.1
theorem dX7_lay_124 : decode cX7_lay 124 = .ok (.lastore, 1) := gX7_lay_60.2.1
theorem dX7_lay_125 : decode cX7_lay 125 = .ok (.aload_n 0, 1) := gX7_lay_60.2.2.1
theorem dX7_lay_126 : decode cX7_lay 126 = .ok (.getfield 30, 3) := gX7_lay_60.2.2.2.1
theorem dX7_lay_129 : decode cX7_lay 129 = .ok (.iload 5, 2) := gX7_lay_60.2.2.2.2.1
theorem dX7_lay_131 : decode cX7_lay 131 = .ok (.aload_n 0, 1) := gX7_lay_60.2.2.2.2.2.1
theorem dX7_lay_132 : decode cX7_lay 132 = .ok (.getfield 12, 3) := gX7_lay_60.2.2.2.2.2.2.1
theorem dX7_lay_135 : decode cX7_lay 135 = .ok (.getfield 82, 3) := gX7_lay_60.2.2.2.2.2.2.2.1
theorem dX7_lay_138 : decode cX7_lay 138 = .ok (.lastore, 1) := gX7_lay_60.2.2.2.2.2.2.2.2.1
theorem dX7_lay_139 : decode cX7_lay 139 = .ok (.iinc 5 1, 3) := gX7_lay_60.2.2.2.2.2.2.2.2.2.1
theorem dX7_lay_142 : decode cX7_lay 142 = .ok (.goto (-52), 3) := gX7_lay_60.2.2.2.2.2.2.2.2.2.2.1
theorem dX7_lay_145 : decode cX7_lay 145 = .ok (.aload_n 0, 1) := gX7_lay_60.2.2.2.2.2.2.2.2.2.2.2
theorem gX7_lay_72 : (decode cX7_lay 146 = .ok (.invokevirtual 85, 3)) ∧ (decode cX7_lay 149 = .ok (.return_, 1)) := by decide +kernel
theorem dX7_lay_146 : decode cX7_lay 146 = .ok (.invokevirtual 85, 3) := gX7_lay_72.1
theorem dX7_lay_149 : decode cX7_lay 149 = .ok (.return_, 1) := gX7_lay_72.2
theorem gX7_sumUp_0 : (decode cX7_sumUp 0 = .ok (.lconst 0, 1)) ∧ (decode cX7_sumUp 1 = .ok (.lstore_n 1, 1)) ∧ (decode cX7_sumUp 2 = .ok (.aload_n 0, 1)) ∧ (decode cX7_sumUp 3 = .ok (.ldc2_w 90, 3)) ∧ (decode cX7_sumUp 6 = .ok (.putfield 92, 3)) ∧ (decode cX7_sumUp 9 = .ok (.aload_n 0, 1)) ∧ (decode cX7_sumUp 10 = .ok (.lconst 0, 1)) ∧ (decode cX7_sumUp 11 = .ok (.putfield 95, 3)) ∧ (decode cX7_sumUp 14 = .ok (.aload_n 0, 1)) ∧ (decode cX7_sumUp 15 = .ok (.iconst 0, 1)) ∧ (decode cX7_sumUp 16 = .ok (.putfield 98, 3)) ∧ (decode cX7_sumUp 19 = .ok (.aload_n 0, 1)) := by decide +kernel
theorem dX7_sumUp_0 : decode cX7_sumUp 0 = .ok (.lconst 0, 1) := gX7_sumUp_0.1
theorem dX7_sumUp_1 : decode cX7_sumUp 1 = .ok (.lstore_n 1, 1) := gX7_sumUp_0.2.1
theorem dX7_sumUp_2 : decode cX7_sumUp 2 = .ok (.aload_n 0, 1) := gX7_sumUp_0.2.2.1
theorem dX7_sumUp_3 : decode cX7_sumUp 3 = .ok (.ldc2_w 90, 3) := gX7_sumUp_0.2.2.2.1
theorem dX7_sumUp_6 : decode cX7_sumUp 6 = .ok (.putfield 92, 3) := gX7_sumUp_0.2.2.2.2.1
theorem dX7_sumUp_9 : decode cX7_sumUp 9 = .ok (.aload_n 0, 1) := gX7_sumUp_0.2.2.2.2.2.1
theorem dX7_sumUp_10 : decode cX7_sumUp 10 = .ok (.lconst 0, 1) := gX7_sumUp_0.2.2.2.2.2.2.1
theorem dX7_sumUp_11 : decode cX7_sumUp 11 = .ok (.putfield 95, 3) := gX7_sumUp_0.2.2.2.2.2.2.2.1
theorem dX7_sumUp_14 : decode cX7_sumUp 14 = .ok (.aload_n 0, 1) := gX7_sumUp_0.2.2.2.2.2.2.2.2.1
theorem dX7_sumUp_15 : decode cX7_sumUp 15 = .ok (.iconst 0, 1) := gX7_sumUp_0.2.2.2.2.2.2.2.2.2.1
theorem dX7_sumUp_16 : decode cX7_sumUp 16 = .ok (.putfield 98, 3) := gX7_sumUp_0.2.2.2.2.2.2.2.2.2.2.1
theorem dX7_sumUp_19 : decode cX7_sumUp 19 = .ok (.aload_n 0, 1) := gX7_sumUp_0.2.2.2.2.2.2.2.2.2.2.2
theorem gX7_sumUp_12 : (decode cX7_sumUp 20 = .ok (.lconst 0, 1)) ∧ (decode cX7_sumUp 21 = .ok (.putfield 102, 3)) ∧ (decode cX7_sumUp 24 = .ok (.aload_n 0, 1)) ∧ (decode cX7_sumUp 25 = .ok (.lconst 1, 1)) ∧ (decode cX7_sumUp 26 = .ok (.putfield 105, 3)) ∧ (decode cX7_sumUp 29 = .ok (.iconst 0, 1)) ∧ (decode cX7_sumUp 30 = .ok (.istore_n 3, 1)) ∧ (decode cX7_sumUp 31 = .ok (.iload_n 3, 1)) ∧ (decode cX7_sumUp 32 = .ok (.bipush 8, 2)) ∧ (decode cX7_sumUp 34 = .ok (.if_icmp .ge 120, 3)) ∧ (decode cX7_sumUp 37 = .ok (.aload_n 0, 1)) ∧ (decode cX7_sumUp 38 = .ok (.getfield 18, 3)) := by decide +kernel
theorem dX7_sumUp_20 : decode cX7_sumUp 20 = .ok (.lconst 0, 1) := gX7_sumUp_12.1
theorem dX7_sumUp_21 : decode cX7_sumUp 21 = .ok (.putfield 102, 3) := gX7_sumUp_12.2.1
theorem dX7_sumUp_24 : decode cX7_sumUp 24 = .ok (.aload_n 0, 1) := gX7_sumUp_12.2.2.1
theorem dX7_sumUp_25 : decode cX7_sumUp 25 = .ok (.lconst 1, 1) := gX7_sumUp_12.2.2.2.1
theorem dX7_sumUp_26 : decode cX7_sumUp 26 = .ok (.putfield 105, 3) := gX7_sumUp_12.2.2.2.2.1
theorem dX7_sumUp_29 : decode cX7_sumUp 29 = .ok (.iconst 0, 1) := gX7_sumUp_12.2.2.2.2.2.1
theorem dX7_sumUp_30 : decode cX7_sumUp 30 = .ok (.istore_n 3, 1) := gX7_sumUp_12.2.2.2.2.2.2.1
theorem dX7_sumUp_31 : decode cX7_sumUp 31 = .ok (.iload_n 3, 1) := gX7_sumUp_12.2.2.2.2.2.2.2.1
theorem dX7_sumUp_32 : decode cX7_sumUp 32 = .ok (.bipush 8, 2) := gX7_sumUp_12.2.2.2.2.2.2.2.2.1
theorem dX7_sumUp_34 : decode cX7_sumUp 34 = .ok (.if_icmp .ge 120, 3) := gX7_sumUp_12.2.2.2.2.2.2.2.2.2.1
theorem dX7_sumUp_37 : decode cX7_sumUp 37 = .ok (.aload_n 0, 1) := gX7_sumUp_12.2.2.2.2.2.2.2.2.2.2.1
theorem dX7_sumUp_38 : decode cX7_sumUp 38 = .ok (.getfield 18, 3) := gX7_sumUp_12.2.2.2.2.2.2.2.2.2.2.2
theorem gX7_sumUp_24 : (decode cX7_sumUp 41 = .ok (.iload_n 3, 1)) ∧ (decode cX7_sumUp 42 = .ok (.baload, 1)) ∧ (decode cX7_sumUp 43 = .ok (.ifCond .eq 105, 3)) ∧ (decode cX7_sumUp 46 = .ok (.aload_n 0, 1)) ∧ (decode cX7_sumUp 47 = .ok (.aload_n 0, 1)) ∧ (decode cX7_sumUp 48 = .ok (.getfield 92, 3)) ∧ (decode cX7_sumUp 51 = .ok (.aload_n 0, 1)) ∧ (decode cX7_sumUp 52 = .ok (.getfield 22, 3)) ∧ (decode cX7_sumUp 55 = .ok (.iload_n 3, 1)) ∧ (decode cX7_sumUp 56 = .ok (.iaload, 1)) ∧ (decode cX7_sumUp 57 = .ok (.i2l, 1)) ∧ (decode cX7_sumUp 58 = .ok (.invokestatic 108, 3)) := by decide +kernel
theorem dX7_sumUp_41 : decode cX7_sumUp 41 = .ok (.iload_n 3, 1) := gX7_sumUp_24.1
theorem dX7_sumUp_42 : decode cX7_sumUp 42 = .ok (.baload, 1) := gX7_sumUp_24.2.1
theorem dX7_sumUp_43 : decode cX7_sumUp 43 = .ok (.ifCond .eq 105, 3) := gX7_sumUp_24.2.2.1
theorem dX7_sumUp_46 : decode cX7_sumUp 46 = .ok (.aload_n 0, 1) := gX7_sumUp_24.2.2.2.1
theorem dX7_sumUp_47 : decode cX7_sumUp 47 = .ok (.aload_n 0, 1) := gX7_sumUp_24.2.2.2.2.1
theorem dX7_sumUp_48 : decode cX7_sumUp 48 = .ok (.getfield 92, 3) := gX7_sumUp_24.2.2.2.2.2.1
theorem dX7_sumUp_51 : decode cX7_sumUp 51 = .ok (.aload_n 0, 1) := gX7_sumUp_24.2.2.2.2.2.2.1
theorem dX7_sumUp_52 : decode cX7_sumUp 52 = .ok (.getfield 22, 3) := gX7_sumUp_24.2.2.2.2.2.2.2.1
theorem dX7_sumUp_55 : decode cX7_sumUp 55 = .ok (.iload_n 3, 1) := gX7_sumUp_24.2.2.2.2.2.2.2.2.1
theorem dX7_sumUp_56 : decode cX7_sumUp 56 = .ok (.iaload, 1) := gX7_sumUp_24.2.2.2.2.2.2.2.2.2.1
theorem dX7_sumUp_57 : decode cX7_sumUp 57 = .ok (.i2l, 1) := gX7_sumUp_24.2.2.2.2.2.2.2.2.2.2.1
theorem dX7_sumUp_58 : decode cX7_sumUp 58 = .ok (.invokestatic 108, 3) := gX7_sumUp_24.2.2.2.2.2.2.2.2.2.2.2
theorem gX7_sumUp_36 : (decode cX7_sumUp 61 = .ok (.putfield 92, 3)) ∧ (decode cX7_sumUp 64 = .ok (.aload_n 0, 1)) ∧ (decode cX7_sumUp 65 = .ok (.aload_n 0, 1)) ∧ (decode cX7_sumUp 66 = .ok (.getfield 95, 3)) ∧ (decode cX7_sumUp 69 = .ok (.aload_n 0, 1)) ∧ (decode cX7_sumUp 70 = .ok (.getfield 22, 3)) ∧ (decode cX7_sumUp 73 = .ok (.iload_n 3, 1)) ∧ (decode cX7_sumUp 74 = .ok (.iaload, 1)) ∧ (decode cX7_sumUp 75 = .ok (.i2l, 1)) ∧ (decode cX7_sumUp 76 = .ok (.invokestatic 114, 3)) ∧ (decode cX7_sumUp 79 = .ok (.putfield 95, 3)) ∧ (decode cX7_sumUp 82 = .ok (.lload_n 1, 1)) := by decide +kernel
theorem dX7_sumUp_61 : decode cX7_sumUp 61 = .ok (.putfield 92, 3) := gX7_sumUp_36.1
theorem dX7_sumUp_64 : decode cX7_sumUp 64 = .ok (.aload_n 0, 1) := gX7_sumUp_36.2.1
theorem dX7_sumUp_65 : decode cX7_sumUp 65 = .ok (.aload_n 0, 1) := gX7_sumUp_36.2.2.1
theorem dX7_sumUp_66 : decode cX7_sumUp 66 = .ok (.getfield 95, 3) := gX7_sumUp_36.2.2.2.1
theorem dX7_sumUp_69 : decode cX7_sumUp 69 = .ok (.aload_n 0, 1) := gX7_sumUp_36.2.2.2.2.1
theorem dX7_sumUp_70 : decode cX7_sumUp 70 = .ok (.getfield 22, 3) := gX7_sumUp_36.2.2.2.2.2.1
theorem dX7_sumUp_73 : decode cX7_sumUp 73 = .ok (.iload_n 3, 1) := gX7_sumUp_36.2.2.2.2.2.2.1
theorem dX7_sumUp_74 : decode cX7_sumUp 74 = .ok (.iaload, 1) := gX7_sumUp_36.2.2.2.2.2.2.2.1
theorem dX7_sumUp_75 : decode cX7_sumUp 75 = .ok (.i2l, 1) := gX7_sumUp_36.2.2.2.2.2.2.2.2.1
theorem dX7_sumUp_76 : decode cX7_sumUp 76 = .ok (.invokestatic 114, 3) := gX7_sumUp_36.2.2.2.2.2.2.2.2.2.1
theorem dX7_sumUp_79 : decode cX7_sumUp 79 = .ok (.putfield 95, 3) := gX7_sumUp_36.2.2.2.2.2.2.2.2.2.2.1
theorem dX7_sumUp_82 : decode cX7_sumUp 82 = .ok (.lload_n 1, 1) := gX7_sumUp_36.2.2.2.2.2.2.2.2.2.2.2
theorem gX7_sumUp_48 : (decode cX7_sumUp 83 = .ok (.aload_n 0, 1)) ∧ (decode cX7_sumUp 84 = .ok (.getfield 22, 3)) ∧ (decode cX7_sumUp 87 = .ok (.iload_n 3, 1)) ∧ (decode cX7_sumUp 88 = .ok (.iaload, 1)) ∧ (decode cX7_sumUp 89 = .ok (.i2l, 1)) ∧ (decode cX7_sumUp 90 = .ok (.ladd, 1)) ∧ (decode cX7_sumUp 91 = .ok (.lstore_n 1, 1)) ∧ (decode cX7_sumUp 92 = .ok (.aload_n 0, 1)) ∧ (decode cX7_sumUp 93 = .ok (.dup, 1)) ∧ (decode cX7_sumUp 94 = .ok (.getfield 98, 3)) ∧ (decode cX7_sumUp 97 = .ok (.iconst 1, 1)) ∧ (decode cX7_sumUp 98 = .ok (.iadd, 1)) := by decide +kernel
theorem dX7_sumUp_83 : decode cX7_sumUp 83 = .ok (.aload_n 0, 1) := gX7_sumUp_48.1
theorem dX7_sumUp_84 : decode cX7_sumUp 84 = .ok (.getfield 22, 3) := gX7_sumUp_48.2.1
theorem dX7_sumUp_87 : decode cX7_sumUp 87 = .ok (.iload_n 3, 1) := gX7_sumUp_48.2.2.1
theorem dX7_sumUp_88 : decode cX7_sumUp 88 = .ok (.iaload, 1) := gX7_sumUp_48.2.2.2.1
theorem dX7_sumUp_89 : decode cX7_sumUp 89 = .ok (.i2l, 1) := gX7_sumUp_48.2.2.2.2.1
theorem dX7_sumUp_90 : decode cX7_sumUp 90 = .ok (.ladd, 1) := gX7_sumUp_48.2.2.2.2.2.1
theorem dX7_sumUp_91 : decode cX7_sumUp 91 = .ok (.lstore_n 1, 1) := gX7_sumUp_48.2.2.2.2.2.2.1
theorem dX7_sumUp_92 : decode cX7_sumUp 92 = .ok (.aload_n 0, 1) := gX7_sumUp_48.2.2.2.2.2.2.2.1
theorem dX7_sumUp_93 : decode cX7_sumUp 93 = .ok (.dup, 1) := gX7_sumUp_48.2.2.2.2.2.2.2.2.1
theorem dX7_sumUp_94 : decode cX7_sumUp 94 = .ok (.getfield 98, 3) := gX7_sumUp_48.2.2.2.2.2.2.2.2.2.1
theorem dX7_sumUp_97 : decode cX7_sumUp 97 = .ok (.iconst 1, 1) := gX7_sumUp_48.2.2.2.2.2.2.2.2.2.2.1
theorem dX7_sumUp_98 : decode cX7_sumUp 98 = .ok (.iadd, 1) := gX7_sumUp_48.2.2.2.2.2.2.2.2.2.2.2
theorem gX7_sumUp_60 : (decode cX7_sumUp 99 = .ok (.putfield 98, 3)) ∧ (decode cX7_sumUp 102 = .ok (.aload_n 0, 1)) ∧ (decode cX7_sumUp 103 = .ok (.getfield 26, 3)) ∧ (decode cX7_sumUp 106 = .ok (.iload_n 3, 1)) ∧ (decode cX7_sumUp 107 = .ok (.laload, 1)) ∧ (decode cX7_sumUp 108 = .ok (.aload_n 0, 1)) ∧ (decode cX7_sumUp 109 = .ok (.getfield 105, 3)) ∧ (decode cX7_sumUp 112 = .ok (.lmul, 1)) ∧ (decode cX7_sumUp 113 = .ok (.aload_n 0, 1)) ∧ (decode cX7_sumUp 114 = .ok (.getfield 102, 3)) ∧ (decode cX7_sumUp 117 = .ok (.aload_n 0, 1)) ∧ (decode cX7_sumUp 118 = .ok (.getfield 30, 3)) := by decide +kernel
theorem dX7_sumUp_99 : decode cX7_sumUp 99 = .ok (.putfield 98, 3) := gX7_sumUp_60.1
theorem dX7_sumUp_102 : decode cX7_sumUp 102 = .ok (.aload_n 0, 1) := gX7_sumUp_60.2.1
theorem dX7_sumUp_103 : decode cX7_sumUp 103 = .ok (.getfield 26, 3) := gX7_sumUp_60.2.2.1
theorem dX7_sumUp_106 : decode cX7_sumUp 106 = .ok (.iload_n 3, 1) := gX7_sumUp_60.2.2.2.1
theorem dX7_sumUp_107 : decode cX7_sumUp 107 = .ok (.laload, 1) := gX7_sumUp_60.2.2.2.2.1
theorem dX7_sumUp_108 : decode cX7_sumUp 108 = .ok (.aload_n 0, 1) := gX7_sumUp_60.2.2.2.2.2.1
theorem dX7_sumUp_109 : decode cX7_sumUp 109 = .ok (.getfield 105, 3) := gX7_sumUp_60.2.2.2.2.2.2.1
theorem dX7_sumUp_112 : decode cX7_sumUp 112 = .ok (.lmul, 1) := gX7_sumUp_60.2.2.2.2.2.2.2.1
theorem dX7_sumUp_113 : decode cX7_sumUp 113 = .ok (.aload_n 0, 1) := gX7_sumUp_60.2.2.2.2.2.2.2.2.1
theorem dX7_sumUp_114 : decode cX7_sumUp 114 = .ok (.getfield 102, 3) := gX7_sumUp_60.2.2.2.2.2.2.2.2.2.1
theorem dX7_sumUp_117 : decode cX7_sumUp 117 = .ok (.aload_n 0, 1) := gX7_sumUp_60.2.2.2.2.2.2.2.2.2.2.1
theorem dX7_sumUp_118 : decode cX7_sumUp 118 = .ok (.getfield 30, 3) := gX7_sumUp_60.2.2.2.2.2.2.2.2.2.2.2
theorem gX7_sumUp_72 : (decode cX7_sumUp 121 = .ok (.iload_n 3, 1)) ∧ (decode cX7_sumUp 122 = .ok (.laload, 1)) ∧ (decode cX7_sumUp 123 = .ok (.lmul, 1)) ∧ (decode cX7_sumUp 124 = .ok (.lcmp, 1)) ∧ (decode cX7_sumUp 125 = .ok (.ifCond .le 23, 3)) ∧ (decode cX7_sumUp 128 = .ok (.aload_n 0, 1)) ∧ (decode cX7_sumUp 129 = .ok (.aload_n 0, 1)) ∧ (decode cX7_sumUp 130 = .ok (.getfield 26, 3)) ∧ (decode cX7_sumUp 133 = .ok (.iload_n 3, 1)) ∧ (decode cX7_sumUp 134 = .ok (.laload, 1)) ∧ (decode cX7_sumUp 135 = .ok (.putfield 102, 3)) ∧ (decode cX7_sumUp 138 = .ok (.aload_n 0, 1)) := by decide +kernel
theorem dX7_sumUp_121 : decode cX7_sumUp 121 = .ok (.iload_n 3, 1) := gX7_sumUp_72.1
theorem dX7_sumUp_122 : decode cX7_sumUp 122 = .ok (.laload, 1) := gX7_sumUp_72.2.1
theorem dX7_sumUp_123 : decode cX7_sumUp 123 = .ok (.lmul, 1) := gX7_sumUp_72.2.2.1
theorem dX7_sumUp_124 : decode cX7_sumUp 124 = .ok (.lcmp, 1) := gX7_sumUp_72.2.2.2.1
theorem dX7_sumUp_125 : decode cX7_sumUp 125 = .ok (.ifCond .le 23, 3) := gX7_sumUp_72.2.2.2.2.1
theorem dX7_sumUp_128 : decode cX7_sumUp 128 = .ok (.aload_n 0, 1) := gX7_sumUp_72.2.2.2.2.2.1
theorem dX7_sumUp_129 : decode cX7_sumUp 129 = .ok (.aload_n 0, 1) := gX7_sumUp_72.2.2.2.2.2.2.1
theorem dX7_sumUp_130 : decode cX7_sumUp 130 = .ok (.getfield 26, 3) := gX7_sumUp_72.2.2.2.2.2.2.2.1
theorem dX7_sumUp_133 : decode cX7_sumUp 133 = .ok (.iload_n 3, 1) := gX7_sumUp_72.2.2.2.2.2.2.2.2.1
theorem dX7_sumUp_134 : decode cX7_sumUp 134 = .ok (.laload, 1) := gX7_sumUp_72.2.2.2.2.2.2.2.2.2.1
theorem dX7_sumUp_135 : decode cX7_sumUp 135 = .ok (.putfield 102, 3) := gX7_sumUp_72.2.2.2.2.2.2.2.2.2.2.1
theorem dX7_sumUp_138 : decode cX7_sumUp 138 = .ok (.aload_n 0, 1) := gX7_sumUp_72.2.2.2.2.2.2.2.2.2.2.2
theorem gX7_sumUp_84 : (decode cX7_sumUp 139 = .ok (.aload_n 0, 1)) ∧ (decode cX7_sumUp 140 = .ok (.getfield 30, 3)) ∧ (decode cX7_sumUp 143 = .ok (.iload_n 3, 1)) ∧ (decode cX7_sumUp 144 = .ok (.laload, 1)) ∧ (decode cX7_sumUp 145 = .ok (.putfield 105, 3)) ∧ (decode cX7_sumUp 148 = .ok (.iinc 3 1, 3)) ∧ (decode cX7_sumUp 151 = .ok (.goto (-120), 3)) ∧ (decode cX7_sumUp 154 = .ok (.aload_n 0, 1)) ∧ (decode cX7_sumUp 155 = .ok (.getfield 12, 3)) ∧ (decode cX7_sumUp 158 = .ok (.lload_n 1, 1)) ∧ (decode cX7_sumUp 159 = .ok (.iconst 1, 1)) ∧ (decode cX7_sumUp 160 = .ok (.aload_n 0, 1)) := by decide +kernel
theorem dX7_sumUp_139 : decode cX7_sumUp 139 = .ok (.aload_n 0, 1) := gX7_sumUp_84.1
theorem dX7_sumUp_140 : decode cX7_sumUp 140 = .ok (.getfield 30, 3) := gX7_sumUp_84.2.1
theorem dX7_sumUp_143 : decode cX7_sumUp 143 = .ok (.iload_n 3, 1) := gX7_sumUp_84.2.2.1
theorem dX7_sumUp_144 : decode cX7_sumUp 144 = .ok (.laload, 1) := gX7_sumUp_84.2.2.2.1
theorem dX7_sumUp_145 : decode cX7_sumUp 145 = .ok (.putfield 105, 3) := gX7_sumUp_84.2.2.2.2.1
theorem dX7_sumUp_148 : decode cX7_sumUp 148 = .ok (.iinc 3 1, 3) := gX7_sumUp_84.2.2.2.2.2.1
theorem dX7_sumUp_151 : decode cX7_sumUp 151 = .ok (.goto (-120), 3) := gX7_sumUp_84.2.2.2.2.2.2.1
theorem dX7_sumUp_154 : decode cX7_sumUp 154 = .ok (.aload_n 0, 1) := gX7_sumUp_84.2.2.2.2.2.2.2.1
theorem dX7_sumUp_155 : decode cX7_sumUp 155 = .ok (.getfield 12, 3) := gX7_sumUp_84.2.2.2.2.2.2.2.2.1
theorem dX7_sumUp_158 : decode cX7_sumUp 158 = .ok (.lload_n 1, 1) := gX7_sumUp_84.2.2.2.2.2.2.2.2.2.1
theorem dX7_sumUp_159 : decode cX7_sumUp 159 = .ok (.iconst 1, 1) := gX7_sumUp_84.2.2.2.2.2.2.2.2.2.2.1
theorem dX7_sumUp_160 : decode cX7_sumUp 160 = .ok (.aload_n 0, 1) := gX7_sumUp_84.2.2.2.2.2.2.2.2.2.2.2
theorem gX7_sumUp_96 : (decode cX7_sumUp 161 = .ok (.getfield 98, 3)) ∧ (decode cX7_sumUp 164 = .ok (.invokestatic 117, 3)) ∧ (decode cX7_sumUp 167 = .ok (.i2l, 1)) ∧ (decode cX7_sumUp 168 = .ok (.invokevirtual 119, 3)) ∧ (decode cX7_sumUp 171 = .ok (.aload_n 0, 1)) ∧ (decode cX7_sumUp 172 = .ok (.aload_n 0, 1)) ∧ (decode cX7_sumUp 173 = .ok (.getfield 12, 3)) ∧ (decode cX7_sumUp 176 = .ok (.getfield 78, 3)) ∧ (decode cX7_sumUp 179 = .ok (.putfield 123, 3)) ∧ (decode cX7_sumUp 182 = .ok (.aload_n 0, 1)) ∧ (decode cX7_sumUp 183 = .ok (.aload_n 0, 1)) ∧ (decode cX7_sumUp 184 = .ok (.getfield 12, 3)) := by decide +kernel
theorem dX7_sumUp_161 : decode cX7_sumUp 161 = .ok (.getfield 98, 3) := gX7_sumUp_96.1
theorem dX7_sumUp_164 : decode cX7_sumUp 164 = .ok (.invokestatic 117, 3) := gX7_sumUp_96.2.1
theorem dX7_sumUp_167 : decode cX7_sumUp 167 = .ok (.i2l, 1) := gX7_sumUp_96.2.2.1
theorem dX7_sumUp_168 : decode cX7_sumUp 168 = .ok (.invokevirtual 119, 3) := gX7_sumUp_96.2.2.2.1
theorem dX7_sumUp_171 : decode cX7_sumUp 171 = .ok (.aload_n 0, 1) := gX7_sumUp_96.2.2.2.2.1
theorem dX7_sumUp_172 : decode cX7_sumUp 172 = .ok (.aload_n 0, 1) := gX7_sumUp_96.2.2.2.2.2.1
theorem dX7_sumUp_173 : decode cX7_sumUp 173 = .ok (.getfield 12, 3) := gX7_sumUp_96.2.2.2.2.2.2.1
theorem dX7_sumUp_176 : decode cX7_sumUp 176 = .ok (.getfield 78, 3) := gX7_sumUp_96.2.2.2.2.2.2.2.1
theorem dX7_sumUp_179 : decode cX7_sumUp 179 = .ok (.putfield 123, 3) := gX7_sumUp_96.2.2.2.2.2.2.2.2.1
theorem dX7_sumUp_182 : decode cX7_sumUp 182 = .ok (.aload_n 0, 1) := gX7_sumUp_96.2.2.2.2.2.2.2.2.2.1
theorem dX7_sumUp_183 : decode cX7_sumUp 183 = .ok (.aload_n 0, 1) := gX7_sumUp_96.2.2.2.2.2.2.2.2.2.2.1
theorem dX7_sumUp_184 : decode cX7_sumUp 184 = .ok (.getfield 12, 3) := gX7_sumUp_96.2.2.2.2.2.2.2.2.2.2.2
theorem gX7_sumUp_108 : (decode cX7_sumUp 187 = .ok (.getfield 82, 3)) ∧ (decode cX7_sumUp 190 = .ok (.putfield 126, 3)) ∧ (decode cX7_sumUp 193 = .ok (.return_, 1)) := by decide +kernel
theorem dX7_sumUp_187 : decode cX7_sumUp 187 = .ok (.getfield 82, 3) := gX7_sumUp_108.1
theorem dX7_sumUp_190 : decode cX7_sumUp 190 = .ok (.putfield 126, 3) := gX7_sumUp_108.2.1
theorem dX7_sumUp_193 : decode cX7_sumUp 193 = .ok (.return_, 1) := gX7_sumUp_108.2.2
theorem gX7_workGain_0 : (decode cX7_workGain 0 = .ok (.aload_n 0, 1)) ∧ (decode cX7_workGain 1 = .ok (.aload_n 1, 1)) ∧ (decode cX7_workGain 2 = .ok (.iload_n 2, 1)) ∧ (decode cX7_workGain 3 = .ok (.invokevirtual 129, 3)) ∧ (decode cX7_workGain 6 = .ok (.aload_n 0, 1)) ∧ (decode cX7_workGain 7 = .ok (.getfield 39, 3)) ∧ (decode cX7_workGain 10 = .ok (.iload_n 2, 1)) ∧ (decode cX7_workGain 11 = .ok (.baload, 1)) ∧ (decode cX7_workGain 12 = .ok (.ifCond .eq 5, 3)) ∧ (decode cX7_workGain 15 = .ok (.iconst 0, 1)) ∧ (decode cX7_workGain 16 = .ok (.ireturn, 1)) ∧ (decode cX7_workGain 17 = .ok (.aload_n 0, 1)) := by decide +kernel
theorem dX7_workGain_0 : decode cX7_workGain 0 = .ok (.aload_n 0, 1) := gX7_workGain_0.1
theorem dX7_workGain_1 : decode cX7_workGain 1 = .ok (.aload_n 1, 1) := gX7_workGain_0.2.1
theorem dX7_workGain_2 : decode cX7_workGain 2 = .ok (.iload_n 2, 1) := gX7_workGain_0.2.2.1
theorem dX7_workGain_3 : decode cX7_workGain 3 = .ok (.invokevirtual 129, 3) := gX7_workGain_0.2.2.2.1
theorem dX7_workGain_6 : decode cX7_workGain 6 = .ok (.aload_n 0, 1) := gX7_workGain_0.2.2.2.2.1
theorem dX7_workGain_7 : decode cX7_workGain 7 = .ok (.getfield 39, 3) := gX7_workGain_0.2.2.2.2.2.1
theorem dX7_workGain_10 : decode cX7_workGain 10 = .ok (.iload_n 2, 1) := gX7_workGain_0.2.2.2.2.2.2.1
theorem dX7_workGain_11 : decode cX7_workGain 11 = .ok (.baload, 1) := gX7_workGain_0.2.2.2.2.2.2.2.1
theorem dX7_workGain_12 : decode cX7_workGain 12 = .ok (.ifCond .eq 5, 3) := gX7_workGain_0.2.2.2.2.2.2.2.2.1
theorem dX7_workGain_15 : decode cX7_workGain 15 = .ok (.iconst 0, 1) := gX7_workGain_0.2.2.2.2.2.2.2.2.2.1
theorem dX7_workGain_16 : decode cX7_workGain 16 = .ok (.ireturn, 1) := gX7_workGain_0.2.2.2.2.2.2.2.2.2.2.1
theorem dX7_workGain_17 : decode cX7_workGain 17 = .ok (.aload_n 0, 1) := gX7_workGain_0.2.2.2.2.2.2.2.2.2.2.2
theorem gX7_workGain_12 : (decode cX7_workGain 18 = .ok (.getfield 33, 3)) ∧ (decode cX7_workGain 21 = .ok (.iload_n 2, 1)) ∧ (decode cX7_workGain 22 = .ok (.laload, 1)) ∧ (decode cX7_workGain 23 = .ok (.lstore 4, 2)) ∧ (decode cX7_workGain 25 = .ok (.aload_n 0, 1)) ∧ (decode cX7_workGain 26 = .ok (.getfield 36, 3)) ∧ (decode cX7_workGain 29 = .ok (.iload_n 2, 1)) ∧ (decode cX7_workGain 30 = .ok (.laload, 1)) ∧ (decode cX7_workGain 31 = .ok (.lstore 6, 2)) ∧ (decode cX7_workGain 33 = .ok (.aload_n 0, 1)) ∧ (decode cX7_workGain 34 = .ok (.getfield 22, 3)) ∧ (decode cX7_workGain 37 = .ok (.iload_n 2, 1)) := by decide +kernel
theorem dX7_workGain_18 : decode cX7_workGain 18 = .ok (.getfield 33, 3) := gX7_workGain_12.1
theorem dX7_workGain_21 : decode cX7_workGain 21 = .ok (.iload_n 2, 1) := gX7_workGain_12.2.1
theorem dX7_workGain_22 : decode cX7_workGain 22 = .ok (.laload, 1) := gX7_workGain_12.2.2.1
theorem dX7_workGain_23 : decode cX7_workGain 23 = .ok (.lstore 4, 2) := gX7_workGain_12.2.2.2.1
theorem dX7_workGain_25 : decode cX7_workGain 25 = .ok (.aload_n 0, 1) := gX7_workGain_12.2.2.2.2.1
theorem dX7_workGain_26 : decode cX7_workGain 26 = .ok (.getfield 36, 3) := gX7_workGain_12.2.2.2.2.2.1
theorem dX7_workGain_29 : decode cX7_workGain 29 = .ok (.iload_n 2, 1) := gX7_workGain_12.2.2.2.2.2.2.1
theorem dX7_workGain_30 : decode cX7_workGain 30 = .ok (.laload, 1) := gX7_workGain_12.2.2.2.2.2.2.2.1
theorem dX7_workGain_31 : decode cX7_workGain 31 = .ok (.lstore 6, 2) := gX7_workGain_12.2.2.2.2.2.2.2.2.1
theorem dX7_workGain_33 : decode cX7_workGain 33 = .ok (.aload_n 0, 1) := gX7_workGain_12.2.2.2.2.2.2.2.2.2.1
theorem dX7_workGain_34 : decode cX7_workGain 34 = .ok (.getfield 22, 3) := gX7_workGain_12.2.2.2.2.2.2.2.2.2.2.1
theorem dX7_workGain_37 : decode cX7_workGain 37 = .ok (.iload_n 2, 1) := gX7_workGain_12.2.2.2.2.2.2.2.2.2.2.2
theorem gX7_workGain_24 : (decode cX7_workGain 38 = .ok (.iconst 1, 1)) ∧ (decode cX7_workGain 39 = .ok (.aload_n 0, 1)) ∧ (decode cX7_workGain 40 = .ok (.getfield 22, 3)) ∧ (decode cX7_workGain 43 = .ok (.iload_n 2, 1)) ∧ (decode cX7_workGain 44 = .ok (.iaload, 1)) ∧ (decode cX7_workGain 45 = .ok (.iload_n 3, 1)) ∧ (decode cX7_workGain 46 = .ok (.isub, 1)) ∧ (decode cX7_workGain 47 = .ok (.invokestatic 117, 3)) ∧ (decode cX7_workGain 50 = .ok (.iastore, 1)) ∧ (decode cX7_workGain 51 = .ok (.aload_n 0, 1)) ∧ (decode cX7_workGain 52 = .ok (.invokevirtual 85, 3)) ∧ (decode cX7_workGain 55 = .ok (.aload_n 0, 1)) := by decide +kernel
theorem dX7_workGain_38 : decode cX7_workGain 38 = .ok (.iconst 1, 1) := gX7_workGain_24.1
theorem dX7_workGain_39 : decode cX7_workGain 39 = .ok (.aload_n 0, 1) := gX7_workGain_24.2.1
theorem dX7_workGain_40 : decode cX7_workGain 40 = .ok (.getfield 22, 3) := gX7_workGain_24.2.2.1
theorem dX7_workGain_43 : decode cX7_workGain 43 = .ok (.iload_n 2, 1) := gX7_workGain_24.2.2.2.1
theorem dX7_workGain_44 : decode cX7_workGain 44 = .ok (.iaload, 1) := gX7_workGain_24.2.2.2.2.1
theorem dX7_workGain_45 : decode cX7_workGain 45 = .ok (.iload_n 3, 1) := gX7_workGain_24.2.2.2.2.2.1
theorem dX7_workGain_46 : decode cX7_workGain 46 = .ok (.isub, 1) := gX7_workGain_24.2.2.2.2.2.2.1
theorem dX7_workGain_47 : decode cX7_workGain 47 = .ok (.invokestatic 117, 3) := gX7_workGain_24.2.2.2.2.2.2.2.1
theorem dX7_workGain_50 : decode cX7_workGain 50 = .ok (.iastore, 1) := gX7_workGain_24.2.2.2.2.2.2.2.2.1
theorem dX7_workGain_51 : decode cX7_workGain 51 = .ok (.aload_n 0, 1) := gX7_workGain_24.2.2.2.2.2.2.2.2.2.1
theorem dX7_workGain_52 : decode cX7_workGain 52 = .ok (.invokevirtual 85, 3) := gX7_workGain_24.2.2.2.2.2.2.2.2.2.2.1
theorem dX7_workGain_55 : decode cX7_workGain 55 = .ok (.aload_n 0, 1) := gX7_workGain_24.2.2.2.2.2.2.2.2.2.2.2
theorem gX7_workGain_36 : (decode cX7_workGain 56 = .ok (.aload_n 1, 1)) ∧ (decode cX7_workGain 57 = .ok (.iload_n 2, 1)) ∧ (decode cX7_workGain 58 = .ok (.invokevirtual 129, 3)) ∧ (decode cX7_workGain 61 = .ok (.aload_n 0, 1)) ∧ (decode cX7_workGain 62 = .ok (.getfield 39, 3)) ∧ (decode cX7_workGain 65 = .ok (.iload_n 2, 1)) ∧ (decode cX7_workGain 66 = .ok (.baload, 1)) ∧ (decode cX7_workGain 67 = .ok (.ifCond .eq 5, 3)) ∧ (decode cX7_workGain 70 = .ok (.iconst 0, 1)) ∧ (decode cX7_workGain 71 = .ok (.ireturn, 1)) ∧ (decode cX7_workGain 72 = .ok (.aload_n 0, 1)) ∧ (decode cX7_workGain 73 = .ok (.lload 4, 2)) := by decide +kernel
theorem dX7_workGain_56 : decode cX7_workGain 56 = .ok (.aload_n 1, 1) := gX7_workGain_36.1
theorem dX7_workGain_57 : decode cX7_workGain 57 = .ok (.iload_n 2, 1) := gX7_workGain_36.2.1
theorem dX7_workGain_58 : decode cX7_workGain 58 = .ok (.invokevirtual 129, 3) := gX7_workGain_36.2.2.1
theorem dX7_workGain_61 : decode cX7_workGain 61 = .ok (.aload_n 0, 1) := gX7_workGain_36.2.2.2.1
theorem dX7_workGain_62 : decode cX7_workGain 62 = .ok (.getfield 39, 3) := gX7_workGain_36.2.2.2.2.1
theorem dX7_workGain_65 : decode cX7_workGain 65 = .ok (.iload_n 2, 1) := gX7_workGain_36.2.2.2.2.2.1
theorem dX7_workGain_66 : decode cX7_workGain 66 = .ok (.baload, 1) := gX7_workGain_36.2.2.2.2.2.2.1
theorem dX7_workGain_67 : decode cX7_workGain 67 = .ok (.ifCond .eq 5, 3) := gX7_workGain_36.2.2.2.2.2.2.2.1
theorem dX7_workGain_70 : decode cX7_workGain 70 = .ok (.iconst 0, 1) := gX7_workGain_36.2.2.2.2.2.2.2.2.1
theorem dX7_workGain_71 : decode cX7_workGain 71 = .ok (.ireturn, 1) := gX7_workGain_36.2.2.2.2.2.2.2.2.2.1
theorem dX7_workGain_72 : decode cX7_workGain 72 = .ok (.aload_n 0, 1) := gX7_workGain_36.2.2.2.2.2.2.2.2.2.2.1
theorem dX7_workGain_73 : decode cX7_workGain 73 = .ok (.lload 4, 2) := gX7_workGain_36.2.2.2.2.2.2.2.2.2.2.2
theorem gX7_workGain_48 : (decode cX7_workGain 75 = .ok (.lload 6, 2)) ∧ (decode cX7_workGain 77 = .ok (.invokevirtual 133, 3)) ∧ (decode cX7_workGain 80 = .ok (.aload_n 0, 1)) ∧ (decode cX7_workGain 81 = .ok (.bipush 45, 2)) ∧ (decode cX7_workGain 83 = .ok (.invokevirtual 136, 3)) ∧ (decode cX7_workGain 86 = .ok (.aload_n 0, 1)) ∧ (decode cX7_workGain 87 = .ok (.getfield 12, 3)) ∧ (decode cX7_workGain 90 = .ok (.getfield 140, 3)) ∧ (decode cX7_workGain 93 = .ok (.ifCond .ne 7, 3)) ∧ (decode cX7_workGain 96 = .ok (.iconst 1, 1)) ∧ (decode cX7_workGain 97 = .ok (.goto 4, 3)) ∧ (decode cX7_workGain 100 = .ok (.iconst 0, 1)) := by decide +kernel
theorem dX7_workGain_75 : decode cX7_workGain 75 = .ok (.lload 6, 2) := gX7_workGain_48.1
theorem dX7_workGain_77 : decode cX7_workGain 77 = .ok (.invokevirtual 133, 3) := gX7_workGain_48.2.1
theorem dX7_workGain_80 : decode cX7_workGain 80 = .ok (.aload_n 0, 1) := gX7_workGain_48.2.2.1
theorem dX7_workGain_81 : decode cX7_workGain 81 = .ok (.bipush 45, 2) := gX7_workGain_48.2.2.2.1
theorem dX7_workGain_83 : decode cX7_workGain 83 = .ok (.invokevirtual 136, 3) := gX7_workGain_48.2.2.2.2.1
theorem dX7_workGain_86 : decode cX7_workGain 86 = .ok (.aload_n 0, 1) := gX7_workGain_48.2.2.2.2.2.1
theorem dX7_workGain_87 : decode cX7_workGain 87 = .ok (.getfield 12, 3) := gX7_workGain_48.2.2.2.2.2.2.1
theorem dX7_workGain_90 : decode cX7_workGain 90 = .ok (.getfield 140, 3) := gX7_workGain_48.2.2.2.2.2.2.2.1
theorem dX7_workGain_93 : decode cX7_workGain 93 = .ok (.ifCond .ne 7, 3) := gX7_workGain_48.2.2.2.2.2.2.2.2.1
theorem dX7_workGain_96 : decode cX7_workGain 96 = .ok (.iconst 1, 1) := gX7_workGain_48.2.2.2.2.2.2.2.2.2.1
theorem dX7_workGain_97 : decode cX7_workGain 97 = .ok (.goto 4, 3) := gX7_workGain_48.2.2.2.2.2.2.2.2.2.2.1
theorem dX7_workGain_100 : decode cX7_workGain 100 = .ok (.iconst 0, 1) := gX7_workGain_48.2.2.2.2.2.2.2.2.2.2.2
theorem gX7_workGain_60 : (decode cX7_workGain 101 = .ok (.ireturn, 1)) := by decide +kernel
theorem dX7_workGain_101 : decode cX7_workGain 101 = .ok (.ireturn, 1) := gX7_workGain_60
theorem gX7_work_0 : (decode cX7_work 0 = .ok (.aload_n 0, 1)) ∧ (decode cX7_work 1 = .ok (.iconst 0, 1)) ∧ (decode cX7_work 2 = .ok (.putfield 143, 3)) ∧ (decode cX7_work 5 = .ok (.aload_n 0, 1)) ∧ (decode cX7_work 6 = .ok (.getfield 12, 3)) ∧ (decode cX7_work 9 = .ok (.iconst 0, 1)) ∧ (decode cX7_work 10 = .ok (.putfield 140, 3)) ∧ (decode cX7_work 13 = .ok (.iconst 0, 1)) ∧ (decode cX7_work 14 = .ok (.istore_n 3, 1)) ∧ (decode cX7_work 15 = .ok (.iload_n 3, 1)) ∧ (decode cX7_work 16 = .ok (.aload_n 1, 1)) ∧ (decode cX7_work 17 = .ok (.getfield 146, 3)) := by decide +kernel
theorem dX7_work_0 : decode cX7_work 0 = .ok (.aload_n 0, 1) := gX7_work_0.1
theorem dX7_work_1 : decode cX7_work 1 = .ok (.iconst 0, 1) := gX7_work_0.2.1
theorem dX7_work_2 : decode cX7_work 2 = .ok (.putfield 143, 3) := gX7_work_0.2.2.1
theorem dX7_work_5 : decode cX7_work 5 = .ok (.aload_n 0, 1) := gX7_work_0.2.2.2.1
theorem dX7_work_6 : decode cX7_work 6 = .ok (.getfield 12, 3) := gX7_work_0.2.2.2.2.1
theorem dX7_work_9 : decode cX7_work 9 = .ok (.iconst 0, 1) := gX7_work_0.2.2.2.2.2.1
theorem dX7_work_10 : decode cX7_work 10 = .ok (.putfield 140, 3) := gX7_work_0.2.2.2.2.2.2.1
theorem dX7_work_13 : decode cX7_work 13 = .ok (.iconst 0, 1) := gX7_work_0.2.2.2.2.2.2.2.1
theorem dX7_work_14 : decode cX7_work 14 = .ok (.istore_n 3, 1) := gX7_work_0.2.2.2.2.2.2.2.2.1
theorem dX7_work_15 : decode cX7_work 15 = .ok (.iload_n 3, 1) := gX7_work_0.2.2.2.2.2.2.2.2.2.1
theorem dX7_work_16 : decode cX7_work 16 = .ok (.aload_n 1, 1) := gX7_work_0.2.2.2.2.2.2.2.2.2.2.1
theorem dX7_work_17 : decode cX7_work 17 = .ok (.getfield 146, 3) := gX7_work_0.2.2.2.2.2.2.2.2.2.2.2
theorem gX7_work_12 : (decode cX7_work 20 = .ok (.if_icmp .ge 76, 3)) ∧ (decode cX7_work 23 = .ok (.iload_n 3, 1)) ∧ (decode cX7_work 24 = .ok (.bipush 80, 2)) ∧ (decode cX7_work 26 = .ok (.if_icmp .ge 70, 3)) ∧ (decode cX7_work 29 = .ok (.aload_n 0, 1)) ∧ (decode cX7_work 30 = .ok (.getfield 12, 3)) ∧ (decode cX7_work 33 = .ok (.getfield 140, 3)) ∧ (decode cX7_work 36 = .ok (.ifCond .ne 60, 3)) ∧ (decode cX7_work 39 = .ok (.aload_n 1, 1)) ∧ (decode cX7_work 40 = .ok (.getfield 151, 3)) ∧ (decode cX7_work 43 = .ok (.iload_n 3, 1)) ∧ (decode cX7_work 44 = .ok (.iaload, 1)) := by decide +kernel
theorem dX7_work_20 : decode cX7_work 20 = .ok (.if_icmp .ge 76, 3) := gX7_work_12.1
theorem dX7_work_23 : decode cX7_work 23 = .ok (.iload_n 3, 1) := gX7_work_12.2.1
theorem dX7_work_24 : decode cX7_work 24 = .ok (.bipush 80, 2) := gX7_work_12.2.2.1
theorem dX7_work_26 : decode cX7_work 26 = .ok (.if_icmp .ge 70, 3) := gX7_work_12.2.2.2.1
theorem dX7_work_29 : decode cX7_work 29 = .ok (.aload_n 0, 1) := gX7_work_12.2.2.2.2.1
theorem dX7_work_30 : decode cX7_work 30 = .ok (.getfield 12, 3) := gX7_work_12.2.2.2.2.2.1
theorem dX7_work_33 : decode cX7_work 33 = .ok (.getfield 140, 3) := gX7_work_12.2.2.2.2.2.2.1
theorem dX7_work_36 : decode cX7_work 36 = .ok (.ifCond .ne 60, 3) := gX7_work_12.2.2.2.2.2.2.2.1
theorem dX7_work_39 : decode cX7_work 39 = .ok (.aload_n 1, 1) := gX7_work_12.2.2.2.2.2.2.2.2.1
theorem dX7_work_40 : decode cX7_work 40 = .ok (.getfield 151, 3) := gX7_work_12.2.2.2.2.2.2.2.2.2.1
theorem dX7_work_43 : decode cX7_work 43 = .ok (.iload_n 3, 1) := gX7_work_12.2.2.2.2.2.2.2.2.2.2.1
theorem dX7_work_44 : decode cX7_work 44 = .ok (.iaload, 1) := gX7_work_12.2.2.2.2.2.2.2.2.2.2.2
theorem gX7_work_24 : (decode cX7_work 45 = .ok (.istore 4, 2)) ∧ (decode cX7_work 47 = .ok (.iload 4, 2)) ∧ (decode cX7_work 49 = .ok (.ifCond .lt 14, 3)) ∧ (decode cX7_work 52 = .ok (.aload_n 0, 1)) ∧ (decode cX7_work 53 = .ok (.iload 4, 2)) ∧ (decode cX7_work 55 = .ok (.i2l, 1)) ∧ (decode cX7_work 56 = .ok (.lconst 1, 1)) ∧ (decode cX7_work 57 = .ok (.invokevirtual 133, 3)) ∧ (decode cX7_work 60 = .ok (.goto 30, 3)) ∧ (decode cX7_work 63 = .ok (.iload 4, 2)) ∧ (decode cX7_work 65 = .ok (.ineg, 1)) ∧ (decode cX7_work 66 = .ok (.invokestatic 154, 3)) := by decide +kernel
theorem dX7_work_45 : decode cX7_work 45 = .ok (.istore 4, 2) := gX7_work_24.1
theorem dX7_work_47 : decode cX7_work 47 = .ok (.iload 4, 2) := gX7_work_24.2.1
theorem dX7_work_49 : decode cX7_work 49 = .ok (.ifCond .lt 14, 3) := gX7_work_24.2.2.1
theorem dX7_work_52 : decode cX7_work 52 = .ok (.aload_n 0, 1) := gX7_work_24.2.2.2.1
theorem dX7_work_53 : decode cX7_work 53 = .ok (.iload 4, 2) := gX7_work_24.2.2.2.2.1
theorem dX7_work_55 : decode cX7_work 55 = .ok (.i2l, 1) := gX7_work_24.2.2.2.2.2.1
theorem dX7_work_56 : decode cX7_work 56 = .ok (.lconst 1, 1) := gX7_work_24.2.2.2.2.2.2.1
theorem dX7_work_57 : decode cX7_work 57 = .ok (.invokevirtual 133, 3) := gX7_work_24.2.2.2.2.2.2.2.1
theorem dX7_work_60 : decode cX7_work 60 = .ok (.goto 30, 3) := gX7_work_24.2.2.2.2.2.2.2.2.1
theorem dX7_work_63 : decode cX7_work 63 = .ok (.iload 4, 2) := gX7_work_24.2.2.2.2.2.2.2.2.2.1
theorem dX7_work_65 : decode cX7_work 65 = .ok (.ineg, 1) := gX7_work_24.2.2.2.2.2.2.2.2.2.2.1
theorem dX7_work_66 : decode cX7_work 66 = .ok (.invokestatic 154, 3) := gX7_work_24.2.2.2.2.2.2.2.2.2.2.2
theorem gX7_work_36 : (decode cX7_work 69 = .ok (.ifCond .eq 14, 3)) ∧ (decode cX7_work 72 = .ok (.aload_n 0, 1)) ∧ (decode cX7_work 73 = .ok (.iload 4, 2)) ∧ (decode cX7_work 75 = .ok (.ineg, 1)) ∧ (decode cX7_work 76 = .ok (.iload_n 2, 1)) ∧ (decode cX7_work 77 = .ok (.invokevirtual 157, 3)) ∧ (decode cX7_work 80 = .ok (.goto 10, 3)) ∧ (decode cX7_work 83 = .ok (.aload_n 0, 1)) ∧ (decode cX7_work 84 = .ok (.iload 4, 2)) ∧ (decode cX7_work 86 = .ok (.ineg, 1)) ∧ (decode cX7_work 87 = .ok (.invokevirtual 136, 3)) ∧ (decode cX7_work 90 = .ok (.iinc 3 1, 3)) := by decide +kernel
theorem dX7_work_69 : decode cX7_work 69 = .ok (.ifCond .eq 14, 3) := gX7_work_36.1
theorem dX7_work_72 : decode cX7_work 72 = .ok (.aload_n 0, 1) := gX7_work_36.2.1
theorem dX7_work_73 : decode cX7_work 73 = .ok (.iload 4, 2) := gX7_work_36.2.2.1
theorem dX7_work_75 : decode cX7_work 75 = .ok (.ineg, 1) := gX7_work_36.2.2.2.1
theorem dX7_work_76 : decode cX7_work 76 = .ok (.iload_n 2, 1) := gX7_work_36.2.2.2.2.1
theorem dX7_work_77 : decode cX7_work 77 = .ok (.invokevirtual 157, 3) := gX7_work_36.2.2.2.2.2.1
theorem dX7_work_80 : decode cX7_work 80 = .ok (.goto 10, 3) := gX7_work_36.2.2.2.2.2.2.1
theorem dX7_work_83 : decode cX7_work 83 = .ok (.aload_n 0, 1) := gX7_work_36.2.2.2.2.2.2.2.1
theorem dX7_work_84 : decode cX7_work 84 = .ok (.iload 4, 2) := gX7_work_36.2.2.2.2.2.2.2.2.1
theorem dX7_work_86 : decode cX7_work 86 = .ok (.ineg, 1) := gX7_work_36.2.2.2.2.2.2.2.2.2.1
theorem dX7_work_87 : decode cX7_work 87 = .ok (.invokevirtual 136, 3) := gX7_work_36.2.2.2.2.2.2.2.2.2.2.1
theorem dX7_work_90 : decode cX7_work 90 = .ok (.iinc 3 1, 3) := gX7_work_36.2.2.2.2.2.2.2.2.2.2.2
theorem gX7_work_48 : (decode cX7_work 93 = .ok (.goto (-78), 3)) ∧ (decode cX7_work 96 = .ok (.aload_n 0, 1)) ∧ (decode cX7_work 97 = .ok (.getfield 39, 3)) ∧ (decode cX7_work 100 = .ok (.iload_n 2, 1)) ∧ (decode cX7_work 101 = .ok (.aload_n 0, 1)) ∧ (decode cX7_work 102 = .ok (.getfield 12, 3)) ∧ (decode cX7_work 105 = .ok (.getfield 140, 3)) ∧ (decode cX7_work 108 = .ok (.ifCond .ne 11, 3)) ∧ (decode cX7_work 111 = .ok (.aload_n 0, 1)) ∧ (decode cX7_work 112 = .ok (.getfield 143, 3)) ∧ (decode cX7_work 115 = .ok (.iconst 1, 1)) ∧ (decode cX7_work 116 = .ok (.if_icmp .eq 7, 3)) := by decide +kernel
theorem dX7_work_93 : decode cX7_work 93 = .ok (.goto (-78), 3) := gX7_work_48.1
theorem dX7_work_96 : decode cX7_work 96 = .ok (.aload_n 0, 1) := gX7_work_48.2.1
theorem dX7_work_97 : decode cX7_work 97 = .ok (.getfield 39, 3) := gX7_work_48.2.2.1
theorem dX7_work_100 : decode cX7_work 100 = .ok (.iload_n 2, 1) := gX7_work_48.2.2.2.1
theorem dX7_work_101 : decode cX7_work 101 = .ok (.aload_n 0, 1) := gX7_work_48.2.2.2.2.1
theorem dX7_work_102 : decode cX7_work 102 = .ok (.getfield 12, 3) := gX7_work_48.2.2.2.2.2.1
theorem dX7_work_105 : decode cX7_work 105 = .ok (.getfield 140, 3) := gX7_work_48.2.2.2.2.2.2.1
theorem dX7_work_108 : decode cX7_work 108 = .ok (.ifCond .ne 11, 3) := gX7_work_48.2.2.2.2.2.2.2.1
theorem dX7_work_111 : decode cX7_work 111 = .ok (.aload_n 0, 1) := gX7_work_48.2.2.2.2.2.2.2.2.1
theorem dX7_work_112 : decode cX7_work 112 = .ok (.getfield 143, 3) := gX7_work_48.2.2.2.2.2.2.2.2.2.1
theorem dX7_work_115 : decode cX7_work 115 = .ok (.iconst 1, 1) := gX7_work_48.2.2.2.2.2.2.2.2.2.2.1
theorem dX7_work_116 : decode cX7_work 116 = .ok (.if_icmp .eq 7, 3) := gX7_work_48.2.2.2.2.2.2.2.2.2.2.2
theorem gX7_work_60 : (decode cX7_work 119 = .ok (.iconst 1, 1)) ∧ (decode cX7_work 120 = .ok (.goto 4, 3)) ∧ (decode cX7_work 123 = .ok (.iconst 0, 1)) ∧ (decode cX7_work 124 = .ok (.bastore, 1)) ∧ (decode cX7_work 125 = .ok (.aload_n 0, 1)) ∧ (decode cX7_work 126 = .ok (.getfield 33, 3)) ∧ (decode cX7_work 129 = .ok (.iload_n 2, 1)) ∧ (decode cX7_work 130 = .ok (.aload_n 0, 1)) ∧ (decode cX7_work 131 = .ok (.getfield 45, 3)) ∧ (decode cX7_work 134 = .ok (.iconst 0, 1)) ∧ (decode cX7_work 135 = .ok (.laload, 1)) ∧ (decode cX7_work 136 = .ok (.lastore, 1)) := by decide +kernel
theorem dX7_work_119 : decode cX7_work 119 = .ok (.iconst 1, 1) := gX7_work_60.1
theorem dX7_work_120 : decode cX7_work 120 = .ok (.goto 4, 3) := gX7_work_60.2.1
theorem dX7_work_123 : decode cX7_work 123 = .ok (.iconst 0, 1) := gX7_work_60.2.2.1
theorem dX7_work_124 : decode cX7_work 124 = .ok (.bastore, 1) := gX7_work_60.2.2.2.1
theorem dX7_work_125 : decode cX7_work 125 = .ok (.aload_n 0, 1) := gX7_work_60.2.2.2.2.1
theorem dX7_work_126 : decode cX7_work 126 = .ok (.getfield 33, 3) := gX7_work_60.2.2.2.2.2.1
theorem dX7_work_129 : decode cX7_work 129 = .ok (.iload_n 2, 1) := gX7_work_60.2.2.2.2.2.2.1
theorem dX7_work_130 : decode cX7_work 130 = .ok (.aload_n 0, 1) := gX7_work_60.2.2.2.2.2.2.2.1
theorem dX7_work_131 : decode cX7_work 131 = .ok (.getfield 45, 3) := gX7_work_60.2.2.2.2.2.2.2.2.1
theorem dX7_work_134 : decode cX7_work 134 = .ok (.iconst 0, 1) := gX7_work_60.2.2.2.2.2.2.2.2.2.1
theorem dX7_work_135 : decode cX7_work 135 = .ok (.laload, 1) := gX7_work_60.2.2.2.2.2.2.2.2.2.2.1
theorem dX7_work_136 : decode cX7_work 136 = .ok (.lastore, 1) := gX7_work_60.2.2.2.2.2.2.2.2.2.2.2
theorem gX7_work_72 : (decode cX7_work 137 = .ok (.aload_n 0, 1)) ∧ (decode cX7_work 138 = .ok (.getfield 36, 3)) ∧ (decode cX7_work 141 = .ok (.iload_n 2, 1)) ∧ (decode cX7_work 142 = .ok (.aload_n 0, 1)) ∧ (decode cX7_work 143 = .ok (.getfield 48, 3)) ∧ (decode cX7_work 146 = .ok (.iconst 0, 1)) ∧ (decode cX7_work 147 = .ok (.laload, 1)) ∧ (decode cX7_work 148 = .ok (.lastore, 1)) ∧ (decode cX7_work 149 = .ok (.return_, 1)) := by decide +kernel
theorem dX7_work_137 : decode cX7_work 137 = .ok (.aload_n 0, 1) := gX7_work_72.1
theorem dX7_work_138 : decode cX7_work 138 = .ok (.getfield 36, 3) := gX7_work_72.2.1
theorem dX7_work_141 : decode cX7_work 141 = .ok (.iload_n 2, 1) := gX7_work_72.2.2.1
theorem dX7_work_142 : decode cX7_work 142 = .ok (.aload_n 0, 1) := gX7_work_72.2.2.2.1
theorem dX7_work_143 : decode cX7_work 143 = .ok (.getfield 48, 3) := gX7_work_72.2.2.2.2.1
theorem dX7_work_146 : decode cX7_work 146 = .ok (.iconst 0, 1) := gX7_work_72.2.2.2.2.2.1
theorem dX7_work_147 : decode cX7_work 147 = .ok (.laload, 1) := gX7_work_72.2.2.2.2.2.2.1
theorem dX7_work_148 : decode cX7_work 148 = .ok (.lastore, 1) := gX7_work_72.2.2.2.2.2.2.2.1
theorem dX7_work_149 : decode cX7_work 149 = .ok (.return_, 1) := gX7_work_72.2.2.2.2.2.2.2.2
theorem gX7_pushName_0 : (decode cX7_pushName 0 = .ok (.iload_n 1, 1)) ∧ (decode cX7_pushName 1 = .ok (.tableswitch 171 97 113 #[122, 156, 171, 171, 171, 171, 171, 110, 171, 171, 171, 98, 171, 171, 171, 83, 137], 83)) ∧ (decode cX7_pushName 84 = .ok (.aload_n 0, 1)) ∧ (decode cX7_pushName 85 = .ok (.aload_n 0, 1)) ∧ (decode cX7_pushName 86 = .ok (.getfield 22, 3)) ∧ (decode cX7_pushName 89 = .ok (.iload_n 2, 1)) ∧ (decode cX7_pushName 90 = .ok (.iaload, 1)) ∧ (decode cX7_pushName 91 = .ok (.i2l, 1)) ∧ (decode cX7_pushName 92 = .ok (.lconst 1, 1)) ∧ (decode cX7_pushName 93 = .ok (.invokevirtual 133, 3)) ∧ (decode cX7_pushName 96 = .ok (.goto 86, 3)) ∧ (decode cX7_pushName 99 = .ok (.aload_n 0, 1)) := by decide +kernel
theorem dX7_pushName_0 : decode cX7_pushName 0 = .ok (.iload_n 1, 1) := gX7_pushName_0.1
theorem dX7_pushName_1 : decode cX7_pushName 1 = .ok (.tableswitch 171 97 113 #[122, 156, 171, 171, 171, 171, 171, 110, 171, 171, 171, 98, 171, 171, 171, 83, 137], 83) := gX7_pushName_0.2.1
theorem dX7_pushName_84 : decode cX7_pushName 84 = .ok (.aload_n 0, 1) := gX7_pushName_0.2.2.1
theorem dX7_pushName_85 : decode cX7_pushName 85 = .ok (.aload_n 0, 1) := gX7_pushName_0.2.2.2.1
theorem dX7_pushName_86 : decode cX7_pushName 86 = .ok (.getfield 22, 3) := gX7_pushName_0.2.2.2.2.1
theorem dX7_pushName_89 : decode cX7_pushName 89 = .ok (.iload_n 2, 1) := gX7_pushName_0.2.2.2.2.2.1
theorem dX7_pushName_90 : decode cX7_pushName 90 = .ok (.iaload, 1) := gX7_pushName_0.2.2.2.2.2.2.1
theorem dX7_pushName_91 : decode cX7_pushName 91 = .ok (.i2l, 1) := gX7_pushName_0.2.2.2.2.2.2.2.1
theorem dX7_pushName_92 : decode cX7_pushName 92 = .ok (.lconst 1, 1) := gX7_pushName_0.2.2.2.2.2.2.2.2.1
theorem dX7_pushName_93 : decode cX7_pushName 93 = .ok (.invokevirtual 133, 3) := gX7_pushName_0.2.2.2.2.2.2.2.2.2.1
theorem dX7_pushName_96 : decode cX7_pushName 96 = .ok (.goto 86, 3) := gX7_pushName_0.2.2.2.2.2.2.2.2.2.2.1
theorem dX7_pushName_99 : decode cX7_pushName 99 = .ok (.aload_n 0, 1) := gX7_pushName_0.2.2.2.2.2.2.2.2.2.2.2
theorem gX7_pushName_12 : (decode cX7_pushName 100 = .ok (.aload_n 0, 1)) ∧ (decode cX7_pushName 101 = .ok (.getfield 92, 3)) ∧ (decode cX7_pushName 104 = .ok (.lconst 1, 1)) ∧ (decode cX7_pushName 105 = .ok (.invokevirtual 133, 3)) ∧ (decode cX7_pushName 108 = .ok (.goto 74, 3)) ∧ (decode cX7_pushName 111 = .ok (.aload_n 0, 1)) ∧ (decode cX7_pushName 112 = .ok (.aload_n 0, 1)) ∧ (decode cX7_pushName 113 = .ok (.getfield 95, 3)) ∧ (decode cX7_pushName 116 = .ok (.lconst 1, 1)) ∧ (decode cX7_pushName 117 = .ok (.invokevirtual 133, 3)) ∧ (decode cX7_pushName 120 = .ok (.goto 62, 3)) ∧ (decode cX7_pushName 123 = .ok (.aload_n 0, 1)) := by decide +kernel
theorem dX7_pushName_100 : decode cX7_pushName 100 = .ok (.aload_n 0, 1) := gX7_pushName_12.1
theorem dX7_pushName_101 : decode cX7_pushName 101 = .ok (.getfield 92, 3) := gX7_pushName_12.2.1
theorem dX7_pushName_104 : decode cX7_pushName 104 = .ok (.lconst 1, 1) := gX7_pushName_12.2.2.1
theorem dX7_pushName_105 : decode cX7_pushName 105 = .ok (.invokevirtual 133, 3) := gX7_pushName_12.2.2.2.1
theorem dX7_pushName_108 : decode cX7_pushName 108 = .ok (.goto 74, 3) := gX7_pushName_12.2.2.2.2.1
theorem dX7_pushName_111 : decode cX7_pushName 111 = .ok (.aload_n 0, 1) := gX7_pushName_12.2.2.2.2.2.1
theorem dX7_pushName_112 : decode cX7_pushName 112 = .ok (.aload_n 0, 1) := gX7_pushName_12.2.2.2.2.2.2.1
theorem dX7_pushName_113 : decode cX7_pushName 113 = .ok (.getfield 95, 3) := gX7_pushName_12.2.2.2.2.2.2.2.1
theorem dX7_pushName_116 : decode cX7_pushName 116 = .ok (.lconst 1, 1) := gX7_pushName_12.2.2.2.2.2.2.2.2.1
theorem dX7_pushName_117 : decode cX7_pushName 117 = .ok (.invokevirtual 133, 3) := gX7_pushName_12.2.2.2.2.2.2.2.2.2.1
theorem dX7_pushName_120 : decode cX7_pushName 120 = .ok (.goto 62, 3) := gX7_pushName_12.2.2.2.2.2.2.2.2.2.2.1
theorem dX7_pushName_123 : decode cX7_pushName 123 = .ok (.aload_n 0, 1) := gX7_pushName_12.2.2.2.2.2.2.2.2.2.2.2
theorem gX7_pushName_24 : (decode cX7_pushName 124 = .ok (.aload_n 0, 1)) ∧ (decode cX7_pushName 125 = .ok (.getfield 123, 3)) ∧ (decode cX7_pushName 128 = .ok (.aload_n 0, 1)) ∧ (decode cX7_pushName 129 = .ok (.getfield 126, 3)) ∧ (decode cX7_pushName 132 = .ok (.invokevirtual 133, 3)) ∧ (decode cX7_pushName 135 = .ok (.goto 47, 3)) ∧ (decode cX7_pushName 138 = .ok (.aload_n 0, 1)) ∧ (decode cX7_pushName 139 = .ok (.aload_n 0, 1)) ∧ (decode cX7_pushName 140 = .ok (.getfield 26, 3)) ∧ (decode cX7_pushName 143 = .ok (.iload_n 2, 1)) ∧ (decode cX7_pushName 144 = .ok (.laload, 1)) ∧ (decode cX7_pushName 145 = .ok (.aload_n 0, 1)) := by decide +kernel
theorem dX7_pushName_124 : decode cX7_pushName 124 = .ok (.aload_n 0, 1) := gX7_pushName_24.1
theorem dX7_pushName_125 : decode cX7_pushName 125 = .ok (.getfield 123, 3) := gX7_pushName_24.2.1
theorem dX7_pushName_128 : decode cX7_pushName 128 = .ok (.aload_n 0, 1) := gX7_pushName_24.2.2.1
theorem dX7_pushName_129 : decode cX7_pushName 129 = .ok (.getfield 126, 3) := gX7_pushName_24.2.2.2.1
theorem dX7_pushName_132 : decode cX7_pushName 132 = .ok (.invokevirtual 133, 3) := gX7_pushName_24.2.2.2.2.1
theorem dX7_pushName_135 : decode cX7_pushName 135 = .ok (.goto 47, 3) := gX7_pushName_24.2.2.2.2.2.1
theorem dX7_pushName_138 : decode cX7_pushName 138 = .ok (.aload_n 0, 1) := gX7_pushName_24.2.2.2.2.2.2.1
theorem dX7_pushName_139 : decode cX7_pushName 139 = .ok (.aload_n 0, 1) := gX7_pushName_24.2.2.2.2.2.2.2.1
theorem dX7_pushName_140 : decode cX7_pushName 140 = .ok (.getfield 26, 3) := gX7_pushName_24.2.2.2.2.2.2.2.2.1
theorem dX7_pushName_143 : decode cX7_pushName 143 = .ok (.iload_n 2, 1) := gX7_pushName_24.2.2.2.2.2.2.2.2.2.1
theorem dX7_pushName_144 : decode cX7_pushName 144 = .ok (.laload, 1) := gX7_pushName_24.2.2.2.2.2.2.2.2.2.2.1
theorem dX7_pushName_145 : decode cX7_pushName 145 = .ok (.aload_n 0, 1) := gX7_pushName_24.2.2.2.2.2.2.2.2.2.2.2
theorem gX7_pushName_36 : (decode cX7_pushName 146 = .ok (.getfield 30, 3)) ∧ (decode cX7_pushName 149 = .ok (.iload_n 2, 1)) ∧ (decode cX7_pushName 150 = .ok (.laload, 1)) ∧ (decode cX7_pushName 151 = .ok (.invokevirtual 133, 3)) ∧ (decode cX7_pushName 154 = .ok (.goto 28, 3)) ∧ (decode cX7_pushName 157 = .ok (.aload_n 0, 1)) ∧ (decode cX7_pushName 158 = .ok (.aload_n 0, 1)) ∧ (decode cX7_pushName 159 = .ok (.getfield 102, 3)) ∧ (decode cX7_pushName 162 = .ok (.aload_n 0, 1)) ∧ (decode cX7_pushName 163 = .ok (.getfield 105, 3)) ∧ (decode cX7_pushName 166 = .ok (.invokevirtual 133, 3)) ∧ (decode cX7_pushName 169 = .ok (.goto 13, 3)) := by decide +kernel
theorem dX7_pushName_146 : decode cX7_pushName 146 = .ok (.getfield 30, 3) := gX7_pushName_36.1
theorem dX7_pushName_149 : decode cX7_pushName 149 = .ok (.iload_n 2, 1) := gX7_pushName_36.2.1
theorem dX7_pushName_150 : decode cX7_pushName 150 = .ok (.laload, 1) := gX7_pushName_36.2.2.1
theorem dX7_pushName_151 : decode cX7_pushName 151 = .ok (.invokevirtual 133, 3) := gX7_pushName_36.2.2.2.1
theorem dX7_pushName_154 : decode cX7_pushName 154 = .ok (.goto 28, 3) := gX7_pushName_36.2.2.2.2.1
theorem dX7_pushName_157 : decode cX7_pushName 157 = .ok (.aload_n 0, 1) := gX7_pushName_36.2.2.2.2.2.1
theorem dX7_pushName_158 : decode cX7_pushName 158 = .ok (.aload_n 0, 1) := gX7_pushName_36.2.2.2.2.2.2.1
theorem dX7_pushName_159 : decode cX7_pushName 159 = .ok (.getfield 102, 3) := gX7_pushName_36.2.2.2.2.2.2.2.1
theorem dX7_pushName_162 : decode cX7_pushName 162 = .ok (.aload_n 0, 1) := gX7_pushName_36.2.2.2.2.2.2.2.2.1
theorem dX7_pushName_163 : decode cX7_pushName 163 = .ok (.getfield 105, 3) := gX7_pushName_36.2.2.2.2.2.2.2.2.2.1
theorem dX7_pushName_166 : decode cX7_pushName 166 = .ok (.invokevirtual 133, 3) := gX7_pushName_36.2.2.2.2.2.2.2.2.2.2.1
theorem dX7_pushName_169 : decode cX7_pushName 169 = .ok (.goto 13, 3) := gX7_pushName_36.2.2.2.2.2.2.2.2.2.2.2
theorem gX7_pushName_48 : (decode cX7_pushName 172 = .ok (.aload_n 0, 1)) ∧ (decode cX7_pushName 173 = .ok (.aload_n 0, 1)) ∧ (decode cX7_pushName 174 = .ok (.getfield 98, 3)) ∧ (decode cX7_pushName 177 = .ok (.i2l, 1)) ∧ (decode cX7_pushName 178 = .ok (.lconst 1, 1)) ∧ (decode cX7_pushName 179 = .ok (.invokevirtual 133, 3)) ∧ (decode cX7_pushName 182 = .ok (.return_, 1)) := by decide +kernel
theorem dX7_pushName_172 : decode cX7_pushName 172 = .ok (.aload_n 0, 1) := gX7_pushName_48.1
theorem dX7_pushName_173 : decode cX7_pushName 173 = .ok (.aload_n 0, 1) := gX7_pushName_48.2.1
theorem dX7_pushName_174 : decode cX7_pushName 174 = .ok (.getfield 98, 3) := gX7_pushName_48.2.2.1
theorem dX7_pushName_177 : decode cX7_pushName 177 = .ok (.i2l, 1) := gX7_pushName_48.2.2.2.1
theorem dX7_pushName_178 : decode cX7_pushName 178 = .ok (.lconst 1, 1) := gX7_pushName_48.2.2.2.2.1
theorem dX7_pushName_179 : decode cX7_pushName 179 = .ok (.invokevirtual 133, 3) := gX7_pushName_48.2.2.2.2.2.1
theorem dX7_pushName_182 : decode cX7_pushName 182 = .ok (.return_, 1) := gX7_pushName_48.2.2.2.2.2.2
theorem gX7_push_0 : (decode cX7_push 0 = .ok (.aload_n 0, 1)) ∧ (decode cX7_push 1 = .ok (.getfield 143, 3)) ∧ (decode cX7_push 4 = .ok (.bipush 80, 2)) ∧ (decode cX7_push 6 = .ok (.if_icmp .ge 33, 3)) ∧ (decode cX7_push 9 = .ok (.aload_n 0, 1)) ∧ (decode cX7_push 10 = .ok (.getfield 45, 3)) ∧ (decode cX7_push 13 = .ok (.aload_n 0, 1)) ∧ (decode cX7_push 14 = .ok (.getfield 143, 3)) ∧ (decode cX7_push 17 = .ok (.lload_n 1, 1)) ∧ (decode cX7_push 18 = .ok (.lastore, 1)) ∧ (decode cX7_push 19 = .ok (.aload_n 0, 1)) ∧ (decode cX7_push 20 = .ok (.getfield 48, 3)) := by decide +kernel
theorem dX7_push_0 : decode cX7_push 0 = .ok (.aload_n 0, 1) := gX7_push_0.1
theorem dX7_push_1 : decode cX7_push 1 = .ok (.getfield 143, 3) := gX7_push_0.2.1
theorem dX7_push_4 : decode cX7_push 4 = .ok (.bipush 80, 2) := gX7_push_0.2.2.1
theorem dX7_push_6 : decode cX7_push 6 = .ok (.if_icmp .ge 33, 3) := gX7_push_0.2.2.2.1
theorem dX7_push_9 : decode cX7_push 9 = .ok (.aload_n 0, 1) := gX7_push_0.2.2.2.2.1
theorem dX7_push_10 : decode cX7_push 10 = .ok (.getfield 45, 3) := gX7_push_0.2.2.2.2.2.1
theorem dX7_push_13 : decode cX7_push 13 = .ok (.aload_n 0, 1) := gX7_push_0.2.2.2.2.2.2.1
theorem dX7_push_14 : decode cX7_push 14 = .ok (.getfield 143, 3) := gX7_push_0.2.2.2.2.2.2.2.1
theorem dX7_push_17 : decode cX7_push 17 = .ok (.lload_n 1, 1) := gX7_push_0.2.2.2.2.2.2.2.2.1
theorem dX7_push_18 : decode cX7_push 18 = .ok (.lastore, 1) := gX7_push_0.2.2.2.2.2.2.2.2.2.1
theorem dX7_push_19 : decode cX7_push 19 = .ok (.aload_n 0, 1) := gX7_push_0.2.2.2.2.2.2.2.2.2.2.1
theorem dX7_push_20 : decode cX7_push 20 = .ok (.getfield 48, 3) := gX7_push_0.2.2.2.2.2.2.2.2.2.2.2
theorem gX7_push_12 : (decode cX7_push 23 = .ok (.aload_n 0, 1)) ∧ (decode cX7_push 24 = .ok (.getfield 143, 3)) ∧ (decode cX7_push 27 = .ok (.lload_n 3, 1)) ∧ (decode cX7_push 28 = .ok (.lastore, 1)) ∧ (decode cX7_push 29 = .ok (.aload_n 0, 1)) ∧ (decode cX7_push 30 = .ok (.dup, 1)) ∧ (decode cX7_push 31 = .ok (.getfield 143, 3)) ∧ (decode cX7_push 34 = .ok (.iconst 1, 1)) ∧ (decode cX7_push 35 = .ok (.iadd, 1)) ∧ (decode cX7_push 36 = .ok (.putfield 143, 3)) ∧ (decode cX7_push 39 = .ok (.return_, 1)) := by decide +kernel
theorem dX7_push_23 : decode cX7_push 23 = .ok (.aload_n 0, 1) := gX7_push_12.1
theorem dX7_push_24 : decode cX7_push 24 = .ok (.getfield 143, 3) := gX7_push_12.2.1
theorem dX7_push_27 : decode cX7_push 27 = .ok (.lload_n 3, 1) := gX7_push_12.2.2.1
theorem dX7_push_28 : decode cX7_push 28 = .ok (.lastore, 1) := gX7_push_12.2.2.2.1
theorem dX7_push_29 : decode cX7_push 29 = .ok (.aload_n 0, 1) := gX7_push_12.2.2.2.2.1
theorem dX7_push_30 : decode cX7_push 30 = .ok (.dup, 1) := gX7_push_12.2.2.2.2.2.1
theorem dX7_push_31 : decode cX7_push 31 = .ok (.getfield 143, 3) := gX7_push_12.2.2.2.2.2.2.1
theorem dX7_push_34 : decode cX7_push 34 = .ok (.iconst 1, 1) := gX7_push_12.2.2.2.2.2.2.2.1
theorem dX7_push_35 : decode cX7_push 35 = .ok (.iadd, 1) := gX7_push_12.2.2.2.2.2.2.2.2.1
theorem dX7_push_36 : decode cX7_push 36 = .ok (.putfield 143, 3) := gX7_push_12.2.2.2.2.2.2.2.2.2.1
theorem dX7_push_39 : decode cX7_push 39 = .ok (.return_, 1) := gX7_push_12.2.2.2.2.2.2.2.2.2.2
theorem gX7_operate_0 : (decode cX7_operate 0 = .ok (.aload_n 0, 1)) ∧ (decode cX7_operate 1 = .ok (.getfield 143, 3)) ∧ (decode cX7_operate 4 = .ok (.iconst 1, 1)) ∧ (decode cX7_operate 5 = .ok (.isub, 1)) ∧ (decode cX7_operate 6 = .ok (.istore_n 2, 1)) ∧ (decode cX7_operate 7 = .ok (.aload_n 0, 1)) ∧ (decode cX7_operate 8 = .ok (.getfield 143, 3)) ∧ (decode cX7_operate 11 = .ok (.iconst 2, 1)) ∧ (decode cX7_operate 12 = .ok (.isub, 1)) ∧ (decode cX7_operate 13 = .ok (.istore_n 3, 1)) ∧ (decode cX7_operate 14 = .ok (.iload_n 3, 1)) ∧ (decode cX7_operate 15 = .ok (.ifCond .ge 4, 3)) := by decide +kernel
theorem dX7_operate_0 : decode cX7_operate 0 = .ok (.aload_n 0, 1) := gX7_operate_0.1
theorem dX7_operate_1 : decode cX7_operate 1 = .ok (.getfield 143, 3) := gX7_operate_0.2.1
theorem dX7_operate_4 : decode cX7_operate 4 = .ok (.iconst 1, 1) := gX7_operate_0.2.2.1
theorem dX7_operate_5 : decode cX7_operate 5 = .ok (.isub, 1) := gX7_operate_0.2.2.2.1
theorem dX7_operate_6 : decode cX7_operate 6 = .ok (.istore_n 2, 1) := gX7_operate_0.2.2.2.2.1
theorem dX7_operate_7 : decode cX7_operate 7 = .ok (.aload_n 0, 1) := gX7_operate_0.2.2.2.2.2.1
theorem dX7_operate_8 : decode cX7_operate 8 = .ok (.getfield 143, 3) := gX7_operate_0.2.2.2.2.2.2.1
theorem dX7_operate_11 : decode cX7_operate 11 = .ok (.iconst 2, 1) := gX7_operate_0.2.2.2.2.2.2.2.1
theorem dX7_operate_12 : decode cX7_operate 12 = .ok (.isub, 1) := gX7_operate_0.2.2.2.2.2.2.2.2.1
theorem dX7_operate_13 : decode cX7_operate 13 = .ok (.istore_n 3, 1) := gX7_operate_0.2.2.2.2.2.2.2.2.2.1
theorem dX7_operate_14 : decode cX7_operate 14 = .ok (.iload_n 3, 1) := gX7_operate_0.2.2.2.2.2.2.2.2.2.2.1
theorem dX7_operate_15 : decode cX7_operate 15 = .ok (.ifCond .ge 4, 3) := gX7_operate_0.2.2.2.2.2.2.2.2.2.2.2
theorem gX7_operate_12 : (decode cX7_operate 18 = .ok (.return_, 1)) ∧ (decode cX7_operate 19 = .ok (.aload_n 0, 1)) ∧ (decode cX7_operate 20 = .ok (.getfield 45, 3)) ∧ (decode cX7_operate 23 = .ok (.iload_n 3, 1)) ∧ (decode cX7_operate 24 = .ok (.laload, 1)) ∧ (decode cX7_operate 25 = .ok (.lstore 4, 2)) ∧ (decode cX7_operate 27 = .ok (.aload_n 0, 1)) ∧ (decode cX7_operate 28 = .ok (.getfield 48, 3)) ∧ (decode cX7_operate 31 = .ok (.iload_n 3, 1)) ∧ (decode cX7_operate 32 = .ok (.laload, 1)) ∧ (decode cX7_operate 33 = .ok (.lstore 6, 2)) ∧ (decode cX7_operate 35 = .ok (.aload_n 0, 1)) := by decide +kernel
theorem dX7_operate_18 : decode cX7_operate 18 = .ok (.return_, 1) := gX7_operate_12.1
theorem dX7_operate_19 : decode cX7_operate 19 = .ok (.aload_n 0, 1) := gX7_operate_12.2.1
theorem dX7_operate_20 : decode cX7_operate 20 = .ok (.getfield 45, 3) := gX7_operate_12.2.2.1
theorem dX7_operate_23 : decode cX7_operate 23 = .ok (.iload_n 3, 1) := gX7_operate_12.2.2.2.1
theorem dX7_operate_24 : decode cX7_operate 24 = .ok (.laload, 1) := gX7_operate_12.2.2.2.2.1
theorem dX7_operate_25 : decode cX7_operate 25 = .ok (.lstore 4, 2) := gX7_operate_12.2.2.2.2.2.1
theorem dX7_operate_27 : decode cX7_operate 27 = .ok (.aload_n 0, 1) := gX7_operate_12.2.2.2.2.2.2.1
theorem dX7_operate_28 : decode cX7_operate 28 = .ok (.getfield 48, 3) := gX7_operate_12.2.2.2.2.2.2.2.1
theorem dX7_operate_31 : decode cX7_operate 31 = .ok (.iload_n 3, 1) := gX7_operate_12.2.2.2.2.2.2.2.2.1
theorem dX7_operate_32 : decode cX7_operate 32 = .ok (.laload, 1) := gX7_operate_12.2.2.2.2.2.2.2.2.2.1
theorem dX7_operate_33 : decode cX7_operate 33 = .ok (.lstore 6, 2) := gX7_operate_12.2.2.2.2.2.2.2.2.2.2.1
theorem dX7_operate_35 : decode cX7_operate 35 = .ok (.aload_n 0, 1) := gX7_operate_12.2.2.2.2.2.2.2.2.2.2.2
theorem gX7_operate_24 : (decode cX7_operate 36 = .ok (.getfield 45, 3)) ∧ (decode cX7_operate 39 = .ok (.iload_n 2, 1)) ∧ (decode cX7_operate 40 = .ok (.laload, 1)) ∧ (decode cX7_operate 41 = .ok (.lstore 8, 2)) ∧ (decode cX7_operate 43 = .ok (.aload_n 0, 1)) ∧ (decode cX7_operate 44 = .ok (.getfield 48, 3)) ∧ (decode cX7_operate 47 = .ok (.iload_n 2, 1)) ∧ (decode cX7_operate 48 = .ok (.laload, 1)) ∧ (decode cX7_operate 49 = .ok (.lstore 10, 2)) ∧ (decode cX7_operate 51 = .ok (.iload_n 1, 1)) ∧ (decode cX7_operate 52 = .ok (.tableswitch 132 42 47 #[92, 40, 132, 66, 132, 112], 40)) ∧ (decode cX7_operate 92 = .ok (.aload_n 0, 1)) := by decide +kernel
theorem dX7_operate_36 : decode cX7_operate 36 = .ok (.getfield 45, 3) := gX7_operate_24.1
theorem dX7_operate_39 : decode cX7_operate 39 = .ok (.iload_n 2, 1) := gX7_operate_24.2.1
theorem dX7_operate_40 : decode cX7_operate 40 = .ok (.laload, 1) := gX7_operate_24.2.2.1
theorem dX7_operate_41 : decode cX7_operate 41 = .ok (.lstore 8, 2) := gX7_operate_24.2.2.2.1
theorem dX7_operate_43 : decode cX7_operate 43 = .ok (.aload_n 0, 1) := gX7_operate_24.2.2.2.2.1
theorem dX7_operate_44 : decode cX7_operate 44 = .ok (.getfield 48, 3) := gX7_operate_24.2.2.2.2.2.1
theorem dX7_operate_47 : decode cX7_operate 47 = .ok (.iload_n 2, 1) := gX7_operate_24.2.2.2.2.2.2.1
theorem dX7_operate_48 : decode cX7_operate 48 = .ok (.laload, 1) := gX7_operate_24.2.2.2.2.2.2.2.1
theorem dX7_operate_49 : decode cX7_operate 49 = .ok (.lstore 10, 2) := gX7_operate_24.2.2.2.2.2.2.2.2.1
theorem dX7_operate_51 : decode cX7_operate 51 = .ok (.iload_n 1, 1) := gX7_operate_24.2.2.2.2.2.2.2.2.2.1
theorem dX7_operate_52 : decode cX7_operate 52 = .ok (.tableswitch 132 42 47 #[92, 40, 132, 66, 132, 112], 40) := gX7_operate_24.2.2.2.2.2.2.2.2.2.2.1
theorem dX7_operate_92 : decode cX7_operate 92 = .ok (.aload_n 0, 1) := gX7_operate_24.2.2.2.2.2.2.2.2.2.2.2
theorem gX7_operate_36 : (decode cX7_operate 93 = .ok (.getfield 12, 3)) ∧ (decode cX7_operate 96 = .ok (.lload 4, 2)) ∧ (decode cX7_operate 98 = .ok (.lload 10, 2)) ∧ (decode cX7_operate 100 = .ok (.lmul, 1)) ∧ (decode cX7_operate 101 = .ok (.lload 8, 2)) ∧ (decode cX7_operate 103 = .ok (.lload 6, 2)) ∧ (decode cX7_operate 105 = .ok (.lmul, 1)) ∧ (decode cX7_operate 106 = .ok (.ladd, 1)) ∧ (decode cX7_operate 107 = .ok (.lload 6, 2)) ∧ (decode cX7_operate 109 = .ok (.lload 10, 2)) ∧ (decode cX7_operate 111 = .ok (.lmul, 1)) ∧ (decode cX7_operate 112 = .ok (.invokevirtual 119, 3)) := by decide +kernel
theorem dX7_operate_93 : decode cX7_operate 93 = .ok (.getfield 12, 3) := gX7_operate_36.1
theorem dX7_operate_96 : decode cX7_operate 96 = .ok (.lload 4, 2) := gX7_operate_36.2.1
theorem dX7_operate_98 : decode cX7_operate 98 = .ok (.lload 10, 2) := gX7_operate_36.2.2.1
theorem dX7_operate_100 : decode cX7_operate 100 = .ok (.lmul, 1) := gX7_operate_36.2.2.2.1
theorem dX7_operate_101 : decode cX7_operate 101 = .ok (.lload 8, 2) := gX7_operate_36.2.2.2.2.1
theorem dX7_operate_103 : decode cX7_operate 103 = .ok (.lload 6, 2) := gX7_operate_36.2.2.2.2.2.1
theorem dX7_operate_105 : decode cX7_operate 105 = .ok (.lmul, 1) := gX7_operate_36.2.2.2.2.2.2.1
theorem dX7_operate_106 : decode cX7_operate 106 = .ok (.ladd, 1) := gX7_operate_36.2.2.2.2.2.2.2.1
theorem dX7_operate_107 : decode cX7_operate 107 = .ok (.lload 6, 2) := gX7_operate_36.2.2.2.2.2.2.2.2.1
theorem dX7_operate_109 : decode cX7_operate 109 = .ok (.lload 10, 2) := gX7_operate_36.2.2.2.2.2.2.2.2.2.1
theorem dX7_operate_111 : decode cX7_operate 111 = .ok (.lmul, 1) := gX7_operate_36.2.2.2.2.2.2.2.2.2.2.1
theorem dX7_operate_112 : decode cX7_operate 112 = .ok (.invokevirtual 119, 3) := gX7_operate_36.2.2.2.2.2.2.2.2.2.2.2
theorem gX7_operate_48 : (decode cX7_operate 115 = .ok (.goto 149, 3)) ∧ (decode cX7_operate 118 = .ok (.aload_n 0, 1)) ∧ (decode cX7_operate 119 = .ok (.getfield 12, 3)) ∧ (decode cX7_operate 122 = .ok (.lload 4, 2)) ∧ (decode cX7_operate 124 = .ok (.lload 10, 2)) ∧ (decode cX7_operate 126 = .ok (.lmul, 1)) ∧ (decode cX7_operate 127 = .ok (.lload 8, 2)) ∧ (decode cX7_operate 129 = .ok (.lload 6, 2)) ∧ (decode cX7_operate 131 = .ok (.lmul, 1)) ∧ (decode cX7_operate 132 = .ok (.lsub, 1)) ∧ (decode cX7_operate 133 = .ok (.lload 6, 2)) ∧ (decode cX7_operate 135 = .ok (.lload 10, 2)) := by decide +kernel
theorem dX7_operate_115 : decode cX7_operate 115 = .ok (.goto 149, 3) := gX7_operate_48.1
theorem dX7_operate_118 : decode cX7_operate 118 = .ok (.aload_n 0, 1) := gX7_operate_48.2.1
theorem dX7_operate_119 : decode cX7_operate 119 = .ok (.getfield 12, 3) := gX7_operate_48.2.2.1
theorem dX7_operate_122 : decode cX7_operate 122 = .ok (.lload 4, 2) := gX7_operate_48.2.2.2.1
theorem dX7_operate_124 : decode cX7_operate 124 = .ok (.lload 10, 2) := gX7_operate_48.2.2.2.2.1
theorem dX7_operate_126 : decode cX7_operate 126 = .ok (.lmul, 1) := gX7_operate_48.2.2.2.2.2.1
theorem dX7_operate_127 : decode cX7_operate 127 = .ok (.lload 8, 2) := gX7_operate_48.2.2.2.2.2.2.1
theorem dX7_operate_129 : decode cX7_operate 129 = .ok (.lload 6, 2) := gX7_operate_48.2.2.2.2.2.2.2.1
theorem dX7_operate_131 : decode cX7_operate 131 = .ok (.lmul, 1) := gX7_operate_48.2.2.2.2.2.2.2.2.1
theorem dX7_operate_132 : decode cX7_operate 132 = .ok (.lsub, 1) := gX7_operate_48.2.2.2.2.2.2.2.2.2.1
theorem dX7_operate_133 : decode cX7_operate 133 = .ok (.lload 6, 2) := gX7_operate_48.2.2.2.2.2.2.2.2.2.2.1
theorem dX7_operate_135 : decode cX7_operate 135 = .ok (.lload 10, 2) := gX7_operate_48.2.2.2.2.2.2.2.2.2.2.2
theorem gX7_operate_60 : (decode cX7_operate 137 = .ok (.lmul, 1)) ∧ (decode cX7_operate 138 = .ok (.invokevirtual 119, 3)) ∧ (decode cX7_operate 141 = .ok (.goto 123, 3)) ∧ (decode cX7_operate 144 = .ok (.aload_n 0, 1)) ∧ (decode cX7_operate 145 = .ok (.getfield 12, 3)) ∧ (decode cX7_operate 148 = .ok (.lload 4, 2)) ∧ (decode cX7_operate 150 = .ok (.lload 8, 2)) ∧ (decode cX7_operate 152 = .ok (.lmul, 1)) ∧ (decode cX7_operate 153 = .ok (.lload 6, 2)) ∧ (decode cX7_operate 155 = .ok (.lload 10, 2)) ∧ (decode cX7_operate 157 = .ok (.lmul, 1)) ∧ (decode cX7_operate 158 = .ok (.invokevirtual 119, 3)) := by decide +kernel
theorem dX7_operate_137 : decode cX7_operate 137 = .ok (.lmul, 1) := gX7_operate_60.1
theorem dX7_operate_138 : decode cX7_operate 138 = .ok (.invokevirtual 119, 3) := gX7_operate_60.2.1
theorem dX7_operate_141 : decode cX7_operate 141 = .ok (.goto 123, 3) := gX7_operate_60.2.2.1
theorem dX7_operate_144 : decode cX7_operate 144 = .ok (.aload_n 0, 1) := gX7_operate_60.2.2.2.1
theorem dX7_operate_145 : decode cX7_operate 145 = .ok (.getfield 12, 3) := gX7_operate_60.2.2.2.2.1
theorem dX7_operate_148 : decode cX7_operate 148 = .ok (.lload 4, 2) := gX7_operate_60.2.2.2.2.2.1
theorem dX7_operate_150 : decode cX7_operate 150 = .ok (.lload 8, 2) := gX7_operate_60.2.2.2.2.2.2.1
theorem dX7_operate_152 : decode cX7_operate 152 = .ok (.lmul, 1) := gX7_operate_60.2.2.2.2.2.2.2.1
theorem dX7_operate_153 : decode cX7_operate 153 = .ok (.lload 6, 2) := gX7_operate_60.2.2.2.2.2.2.2.2.1
theorem dX7_operate_155 : decode cX7_operate 155 = .ok (.lload 10, 2) := gX7_operate_60.2.2.2.2.2.2.2.2.2.1
theorem dX7_operate_157 : decode cX7_operate 157 = .ok (.lmul, 1) := gX7_operate_60.2.2.2.2.2.2.2.2.2.2.1
theorem dX7_operate_158 : decode cX7_operate 158 = .ok (.invokevirtual 119, 3) := gX7_operate_60.2.2.2.2.2.2.2.2.2.2.2
theorem gX7_operate_72 : (decode cX7_operate 161 = .ok (.goto 103, 3)) ∧ (decode cX7_operate 164 = .ok (.aload_n 0, 1)) ∧ (decode cX7_operate 165 = .ok (.getfield 12, 3)) ∧ (decode cX7_operate 168 = .ok (.lload 4, 2)) ∧ (decode cX7_operate 170 = .ok (.lload 10, 2)) ∧ (decode cX7_operate 172 = .ok (.lmul, 1)) ∧ (decode cX7_operate 173 = .ok (.lload 6, 2)) ∧ (decode cX7_operate 175 = .ok (.lload 8, 2)) ∧ (decode cX7_operate 177 = .ok (.lmul, 1)) ∧ (decode cX7_operate 178 = .ok (.invokevirtual 119, 3)) ∧ (decode cX7_operate 181 = .ok (.goto 83, 3)) ∧ (decode cX7_operate 184 = .ok (.iload_n 1, 1)) := by decide +kernel
theorem dX7_operate_161 : decode cX7_operate 161 = .ok (.goto 103, 3) := gX7_operate_72.1
theorem dX7_operate_164 : decode cX7_operate 164 = .ok (.aload_n 0, 1) := gX7_operate_72.2.1
theorem dX7_operate_165 : decode cX7_operate 165 = .ok (.getfield 12, 3) := gX7_operate_72.2.2.1
theorem dX7_operate_168 : decode cX7_operate 168 = .ok (.lload 4, 2) := gX7_operate_72.2.2.2.1
theorem dX7_operate_170 : decode cX7_operate 170 = .ok (.lload 10, 2) := gX7_operate_72.2.2.2.2.1
theorem dX7_operate_172 : decode cX7_operate 172 = .ok (.lmul, 1) := gX7_operate_72.2.2.2.2.2.1
theorem dX7_operate_173 : decode cX7_operate 173 = .ok (.lload 6, 2) := gX7_operate_72.2.2.2.2.2.2.1
theorem dX7_operate_175 : decode cX7_operate 175 = .ok (.lload 8, 2) := gX7_operate_72.2.2.2.2.2.2.2.1
theorem dX7_operate_177 : decode cX7_operate 177 = .ok (.lmul, 1) := gX7_operate_72.2.2.2.2.2.2.2.2.1
theorem dX7_operate_178 : decode cX7_operate 178 = .ok (.invokevirtual 119, 3) := gX7_operate_72.2.2.2.2.2.2.2.2.2.1
theorem dX7_operate_181 : decode cX7_operate 181 = .ok (.goto 83, 3) := gX7_operate_72.2.2.2.2.2.2.2.2.2.2.1
theorem dX7_operate_184 : decode cX7_operate 184 = .ok (.iload_n 1, 1) := gX7_operate_72.2.2.2.2.2.2.2.2.2.2.2
theorem gX7_operate_84 : (decode cX7_operate 185 = .ok (.bipush 60, 2)) ∧ (decode cX7_operate 187 = .ok (.if_icmp .ne 25, 3)) ∧ (decode cX7_operate 190 = .ok (.lload 4, 2)) ∧ (decode cX7_operate 192 = .ok (.lload 10, 2)) ∧ (decode cX7_operate 194 = .ok (.lmul, 1)) ∧ (decode cX7_operate 195 = .ok (.lload 8, 2)) ∧ (decode cX7_operate 197 = .ok (.lload 6, 2)) ∧ (decode cX7_operate 199 = .ok (.lmul, 1)) ∧ (decode cX7_operate 200 = .ok (.lcmp, 1)) ∧ (decode cX7_operate 201 = .ok (.ifCond .gt 7, 3)) ∧ (decode cX7_operate 204 = .ok (.iconst 1, 1)) ∧ (decode cX7_operate 205 = .ok (.goto 26, 3)) := by decide +kernel
theorem dX7_operate_185 : decode cX7_operate 185 = .ok (.bipush 60, 2) := gX7_operate_84.1
theorem dX7_operate_187 : decode cX7_operate 187 = .ok (.if_icmp .ne 25, 3) := gX7_operate_84.2.1
theorem dX7_operate_190 : decode cX7_operate 190 = .ok (.lload 4, 2) := gX7_operate_84.2.2.1
theorem dX7_operate_192 : decode cX7_operate 192 = .ok (.lload 10, 2) := gX7_operate_84.2.2.2.1
theorem dX7_operate_194 : decode cX7_operate 194 = .ok (.lmul, 1) := gX7_operate_84.2.2.2.2.1
theorem dX7_operate_195 : decode cX7_operate 195 = .ok (.lload 8, 2) := gX7_operate_84.2.2.2.2.2.1
theorem dX7_operate_197 : decode cX7_operate 197 = .ok (.lload 6, 2) := gX7_operate_84.2.2.2.2.2.2.1
theorem dX7_operate_199 : decode cX7_operate 199 = .ok (.lmul, 1) := gX7_operate_84.2.2.2.2.2.2.2.1
theorem dX7_operate_200 : decode cX7_operate 200 = .ok (.lcmp, 1) := gX7_operate_84.2.2.2.2.2.2.2.2.1
theorem dX7_operate_201 : decode cX7_operate 201 = .ok (.ifCond .gt 7, 3) := gX7_operate_84.2.2.2.2.2.2.2.2.2.1
theorem dX7_operate_204 : decode cX7_operate 204 = .ok (.iconst 1, 1) := gX7_operate_84.2.2.2.2.2.2.2.2.2.2.1
theorem dX7_operate_205 : decode cX7_operate 205 = .ok (.goto 26, 3) := gX7_operate_84.2.2.2.2.2.2.2.2.2.2.2
theorem gX7_operate_96 : (decode cX7_operate 208 = .ok (.iconst 0, 1)) ∧ (decode cX7_operate 209 = .ok (.goto 22, 3)) ∧ (decode cX7_operate 212 = .ok (.lload 4, 2)) ∧ (decode cX7_operate 214 = .ok (.lload 10, 2)) ∧ (decode cX7_operate 216 = .ok (.lmul, 1)) ∧ (decode cX7_operate 217 = .ok (.lload 8, 2)) ∧ (decode cX7_operate 219 = .ok (.lload 6, 2)) ∧ (decode cX7_operate 221 = .ok (.lmul, 1)) ∧ (decode cX7_operate 222 = .ok (.lcmp, 1)) ∧ (decode cX7_operate 223 = .ok (.ifCond .lt 7, 3)) ∧ (decode cX7_operate 226 = .ok (.iconst 1, 1)) ∧ (decode cX7_operate 227 = .ok (.goto 4, 3)) := by decide +kernel
theorem dX7_operate_208 : decode cX7_operate 208 = .ok (.iconst 0, 1) := gX7_operate_96.1
theorem dX7_operate_209 : decode cX7_operate 209 = .ok (.goto 22, 3) := gX7_operate_96.2.1
theorem dX7_operate_212 : decode cX7_operate 212 = .ok (.lload 4, 2) := gX7_operate_96.2.2.1
theorem dX7_operate_214 : decode cX7_operate 214 = .ok (.lload 10, 2) := gX7_operate_96.2.2.2.1
theorem dX7_operate_216 : decode cX7_operate 216 = .ok (.lmul, 1) := gX7_operate_96.2.2.2.2.1
theorem dX7_operate_217 : decode cX7_operate 217 = .ok (.lload 8, 2) := gX7_operate_96.2.2.2.2.2.1
theorem dX7_operate_219 : decode cX7_operate 219 = .ok (.lload 6, 2) := gX7_operate_96.2.2.2.2.2.2.1
theorem dX7_operate_221 : decode cX7_operate 221 = .ok (.lmul, 1) := gX7_operate_96.2.2.2.2.2.2.2.1
theorem dX7_operate_222 : decode cX7_operate 222 = .ok (.lcmp, 1) := gX7_operate_96.2.2.2.2.2.2.2.2.1
theorem dX7_operate_223 : decode cX7_operate 223 = .ok (.ifCond .lt 7, 3) := gX7_operate_96.2.2.2.2.2.2.2.2.2.1
theorem dX7_operate_226 : decode cX7_operate 226 = .ok (.iconst 1, 1) := gX7_operate_96.2.2.2.2.2.2.2.2.2.2.1
theorem dX7_operate_227 : decode cX7_operate 227 = .ok (.goto 4, 3) := gX7_operate_96.2.2.2.2.2.2.2.2.2.2.2
theorem gX7_operate_108 : (decode cX7_operate 230 = .ok (.iconst 0, 1)) ∧ (decode cX7_operate 231 = .ok (.istore 12, 2)) ∧ (decode cX7_operate 233 = .ok (.aload_n 0, 1)) ∧ (decode cX7_operate 234 = .ok (.getfield 12, 3)) ∧ (decode cX7_operate 237 = .ok (.iload 12, 2)) ∧ (decode cX7_operate 239 = .ok (.ifCond .eq 8, 3)) ∧ (decode cX7_operate 242 = .ok (.lload 4, 2)) ∧ (decode cX7_operate 244 = .ok (.goto 5, 3)) ∧ (decode cX7_operate 247 = .ok (.lload 8, 2)) ∧ (decode cX7_operate 249 = .ok (.iload 12, 2)) ∧ (decode cX7_operate 251 = .ok (.ifCond .eq 8, 3)) ∧ (decode cX7_operate 254 = .ok (.lload 6, 2)) := by decide +kernel
theorem dX7_operate_230 : decode cX7_operate 230 = .ok (.iconst 0, 1) := gX7_operate_108.1
theorem dX7_operate_231 : decode cX7_operate 231 = .ok (.istore 12, 2) := gX7_operate_108.2.1
theorem dX7_operate_233 : decode cX7_operate 233 = .ok (.aload_n 0, 1) := gX7_operate_108.2.2.1
theorem dX7_operate_234 : decode cX7_operate 234 = .ok (.getfield 12, 3) := gX7_operate_108.2.2.2.1
theorem dX7_operate_237 : decode cX7_operate 237 = .ok (.iload 12, 2) := gX7_operate_108.2.2.2.2.1
theorem dX7_operate_239 : decode cX7_operate 239 = .ok (.ifCond .eq 8, 3) := gX7_operate_108.2.2.2.2.2.1
theorem dX7_operate_242 : decode cX7_operate 242 = .ok (.lload 4, 2) := gX7_operate_108.2.2.2.2.2.2.1
theorem dX7_operate_244 : decode cX7_operate 244 = .ok (.goto 5, 3) := gX7_operate_108.2.2.2.2.2.2.2.1
theorem dX7_operate_247 : decode cX7_operate 247 = .ok (.lload 8, 2) := gX7_operate_108.2.2.2.2.2.2.2.2.1
theorem dX7_operate_249 : decode cX7_operate 249 = .ok (.iload 12, 2) := gX7_operate_108.2.2.2.2.2.2.2.2.2.1
theorem dX7_operate_251 : decode cX7_operate 251 = .ok (.ifCond .eq 8, 3) := gX7_operate_108.2.2.2.2.2.2.2.2.2.2.1
theorem dX7_operate_254 : decode cX7_operate 254 = .ok (.lload 6, 2) := gX7_operate_108.2.2.2.2.2.2.2.2.2.2.2
theorem gX7_operate_120 : (decode cX7_operate 256 = .ok (.goto 5, 3)) ∧ (decode cX7_operate 259 = .ok (.lload 10, 2)) ∧ (decode cX7_operate 261 = .ok (.invokevirtual 119, 3)) ∧ (decode cX7_operate 264 = .ok (.aload_n 0, 1)) ∧ (decode cX7_operate 265 = .ok (.getfield 45, 3)) ∧ (decode cX7_operate 268 = .ok (.iload_n 3, 1)) ∧ (decode cX7_operate 269 = .ok (.aload_n 0, 1)) ∧ (decode cX7_operate 270 = .ok (.getfield 12, 3)) ∧ (decode cX7_operate 273 = .ok (.getfield 78, 3)) ∧ (decode cX7_operate 276 = .ok (.lastore, 1)) ∧ (decode cX7_operate 277 = .ok (.aload_n 0, 1)) ∧ (decode cX7_operate 278 = .ok (.getfield 48, 3)) := by decide +kernel
theorem dX7_operate_256 : decode cX7_operate 256 = .ok (.goto 5, 3) := gX7_operate_120.1
theorem dX7_operate_259 : decode cX7_operate 259 = .ok (.lload 10, 2) := gX7_operate_120.2.1
theorem dX7_operate_261 : decode cX7_operate 261 = .ok (.invokevirtual 119, 3) := gX7_operate_120.2.2.1
theorem dX7_operate_264 : decode cX7_operate 264 = .ok (.aload_n 0, 1) := gX7_operate_120.2.2.2.1
theorem dX7_operate_265 : decode cX7_operate 265 = .ok (.getfield 45, 3) := gX7_operate_120.2.2.2.2.1
theorem dX7_operate_268 : decode cX7_operate 268 = .ok (.iload_n 3, 1) := gX7_operate_120.2.2.2.2.2.1
theorem dX7_operate_269 : decode cX7_operate 269 = .ok (.aload_n 0, 1) := gX7_operate_120.2.2.2.2.2.2.1
theorem dX7_operate_270 : decode cX7_operate 270 = .ok (.getfield 12, 3) := gX7_operate_120.2.2.2.2.2.2.2.1
theorem dX7_operate_273 : decode cX7_operate 273 = .ok (.getfield 78, 3) := gX7_operate_120.2.2.2.2.2.2.2.2.1
theorem dX7_operate_276 : decode cX7_operate 276 = .ok (.lastore, 1) := gX7_operate_120.2.2.2.2.2.2.2.2.2.1
theorem dX7_operate_277 : decode cX7_operate 277 = .ok (.aload_n 0, 1) := gX7_operate_120.2.2.2.2.2.2.2.2.2.2.1
theorem dX7_operate_278 : decode cX7_operate 278 = .ok (.getfield 48, 3) := gX7_operate_120.2.2.2.2.2.2.2.2.2.2.2
theorem gX7_operate_132 : (decode cX7_operate 281 = .ok (.iload_n 3, 1)) ∧ (decode cX7_operate 282 = .ok (.aload_n 0, 1)) ∧ (decode cX7_operate 283 = .ok (.getfield 12, 3)) ∧ (decode cX7_operate 286 = .ok (.getfield 82, 3)) ∧ (decode cX7_operate 289 = .ok (.lastore, 1)) ∧ (decode cX7_operate 290 = .ok (.aload_n 0, 1)) ∧ (decode cX7_operate 291 = .ok (.iload_n 2, 1)) ∧ (decode cX7_operate 292 = .ok (.putfield 143, 3)) ∧ (decode cX7_operate 295 = .ok (.return_, 1)) := by decide +kernel
theorem dX7_operate_281 : decode cX7_operate 281 = .ok (.iload_n 3, 1) := gX7_operate_132.1
theorem dX7_operate_282 : decode cX7_operate 282 = .ok (.aload_n 0, 1) := gX7_operate_132.2.1
theorem dX7_operate_283 : decode cX7_operate 283 = .ok (.getfield 12, 3) := gX7_operate_132.2.2.1
theorem dX7_operate_286 : decode cX7_operate 286 = .ok (.getfield 82, 3) := gX7_operate_132.2.2.2.1
theorem dX7_operate_289 : decode cX7_operate 289 = .ok (.lastore, 1) := gX7_operate_132.2.2.2.2.1
theorem dX7_operate_290 : decode cX7_operate 290 = .ok (.aload_n 0, 1) := gX7_operate_132.2.2.2.2.2.1
theorem dX7_operate_291 : decode cX7_operate 291 = .ok (.iload_n 2, 1) := gX7_operate_132.2.2.2.2.2.2.1
theorem dX7_operate_292 : decode cX7_operate 292 = .ok (.putfield 143, 3) := gX7_operate_132.2.2.2.2.2.2.2.1
theorem dX7_operate_295 : decode cX7_operate 295 = .ok (.return_, 1) := gX7_operate_132.2.2.2.2.2.2.2.2
theorem gX7_rank_0 : (decode cX7_rank 0 = .ok (.aload_n 0, 1)) ∧ (decode cX7_rank 1 = .ok (.iconst 0, 1)) ∧ (decode cX7_rank 2 = .ok (.putfield 161, 3)) ∧ (decode cX7_rank 5 = .ok (.iconst 0, 1)) ∧ (decode cX7_rank 6 = .ok (.istore_n 2, 1)) ∧ (decode cX7_rank 7 = .ok (.iload_n 2, 1)) ∧ (decode cX7_rank 8 = .ok (.bipush 8, 2)) ∧ (decode cX7_rank 10 = .ok (.if_icmp .ge 38, 3)) ∧ (decode cX7_rank 13 = .ok (.aload_n 0, 1)) ∧ (decode cX7_rank 14 = .ok (.getfield 18, 3)) ∧ (decode cX7_rank 17 = .ok (.iload_n 2, 1)) ∧ (decode cX7_rank 18 = .ok (.baload, 1)) := by decide +kernel
theorem dX7_rank_0 : decode cX7_rank 0 = .ok (.aload_n 0, 1) := gX7_rank_0.1
theorem dX7_rank_1 : decode cX7_rank 1 = .ok (.iconst 0, 1) := gX7_rank_0.2.1
theorem dX7_rank_2 : decode cX7_rank 2 = .ok (.putfield 161, 3) := gX7_rank_0.2.2.1
theorem dX7_rank_5 : decode cX7_rank 5 = .ok (.iconst 0, 1) := gX7_rank_0.2.2.2.1
theorem dX7_rank_6 : decode cX7_rank 6 = .ok (.istore_n 2, 1) := gX7_rank_0.2.2.2.2.1
theorem dX7_rank_7 : decode cX7_rank 7 = .ok (.iload_n 2, 1) := gX7_rank_0.2.2.2.2.2.1
theorem dX7_rank_8 : decode cX7_rank 8 = .ok (.bipush 8, 2) := gX7_rank_0.2.2.2.2.2.2.1
theorem dX7_rank_10 : decode cX7_rank 10 = .ok (.if_icmp .ge 38, 3) := gX7_rank_0.2.2.2.2.2.2.2.1
theorem dX7_rank_13 : decode cX7_rank 13 = .ok (.aload_n 0, 1) := gX7_rank_0.2.2.2.2.2.2.2.2.1
theorem dX7_rank_14 : decode cX7_rank 14 = .ok (.getfield 18, 3) := gX7_rank_0.2.2.2.2.2.2.2.2.2.1
theorem dX7_rank_17 : decode cX7_rank 17 = .ok (.iload_n 2, 1) := gX7_rank_0.2.2.2.2.2.2.2.2.2.2.1
theorem dX7_rank_18 : decode cX7_rank 18 = .ok (.baload, 1) := gX7_rank_0.2.2.2.2.2.2.2.2.2.2.2
theorem gX7_rank_12 : (decode cX7_rank 19 = .ok (.ifCond .eq 23, 3)) ∧ (decode cX7_rank 22 = .ok (.aload_n 0, 1)) ∧ (decode cX7_rank 23 = .ok (.aload_n 1, 1)) ∧ (decode cX7_rank 24 = .ok (.iload_n 2, 1)) ∧ (decode cX7_rank 25 = .ok (.invokevirtual 129, 3)) ∧ (decode cX7_rank 28 = .ok (.aload_n 0, 1)) ∧ (decode cX7_rank 29 = .ok (.getfield 39, 3)) ∧ (decode cX7_rank 32 = .ok (.iload_n 2, 1)) ∧ (decode cX7_rank 33 = .ok (.baload, 1)) ∧ (decode cX7_rank 34 = .ok (.ifCond .ne 8, 3)) ∧ (decode cX7_rank 37 = .ok (.aload_n 0, 1)) ∧ (decode cX7_rank 38 = .ok (.iload_n 2, 1)) := by decide +kernel
theorem dX7_rank_19 : decode cX7_rank 19 = .ok (.ifCond .eq 23, 3) := gX7_rank_12.1
theorem dX7_rank_22 : decode cX7_rank 22 = .ok (.aload_n 0, 1) := gX7_rank_12.2.1
theorem dX7_rank_23 : decode cX7_rank 23 = .ok (.aload_n 1, 1) := gX7_rank_12.2.2.1
theorem dX7_rank_24 : decode cX7_rank 24 = .ok (.iload_n 2, 1) := gX7_rank_12.2.2.2.1
theorem dX7_rank_25 : decode cX7_rank 25 = .ok (.invokevirtual 129, 3) := gX7_rank_12.2.2.2.2.1
theorem dX7_rank_28 : decode cX7_rank 28 = .ok (.aload_n 0, 1) := gX7_rank_12.2.2.2.2.2.1
theorem dX7_rank_29 : decode cX7_rank 29 = .ok (.getfield 39, 3) := gX7_rank_12.2.2.2.2.2.2.1
theorem dX7_rank_32 : decode cX7_rank 32 = .ok (.iload_n 2, 1) := gX7_rank_12.2.2.2.2.2.2.2.1
theorem dX7_rank_33 : decode cX7_rank 33 = .ok (.baload, 1) := gX7_rank_12.2.2.2.2.2.2.2.2.1
theorem dX7_rank_34 : decode cX7_rank 34 = .ok (.ifCond .ne 8, 3) := gX7_rank_12.2.2.2.2.2.2.2.2.2.1
theorem dX7_rank_37 : decode cX7_rank 37 = .ok (.aload_n 0, 1) := gX7_rank_12.2.2.2.2.2.2.2.2.2.2.1
theorem dX7_rank_38 : decode cX7_rank 38 = .ok (.iload_n 2, 1) := gX7_rank_12.2.2.2.2.2.2.2.2.2.2.2
theorem gX7_rank_24 : (decode cX7_rank 39 = .ok (.invokevirtual 164, 3)) ∧ (decode cX7_rank 42 = .ok (.iinc 2 1, 3)) ∧ (decode cX7_rank 45 = .ok (.goto (-38), 3)) ∧ (decode cX7_rank 48 = .ok (.return_, 1)) := by decide +kernel
theorem dX7_rank_39 : decode cX7_rank 39 = .ok (.invokevirtual 164, 3) := gX7_rank_24.1
theorem dX7_rank_42 : decode cX7_rank 42 = .ok (.iinc 2 1, 3) := gX7_rank_24.2.1
theorem dX7_rank_45 : decode cX7_rank 45 = .ok (.goto (-38), 3) := gX7_rank_24.2.2.1
theorem dX7_rank_48 : decode cX7_rank 48 = .ok (.return_, 1) := gX7_rank_24.2.2.2
theorem gX7_insert_0 : (decode cX7_insert 0 = .ok (.aload_n 0, 1)) ∧ (decode cX7_insert 1 = .ok (.getfield 161, 3)) ∧ (decode cX7_insert 4 = .ok (.istore_n 2, 1)) ∧ (decode cX7_insert 5 = .ok (.aload_n 0, 1)) ∧ (decode cX7_insert 6 = .ok (.dup, 1)) ∧ (decode cX7_insert 7 = .ok (.getfield 161, 3)) ∧ (decode cX7_insert 10 = .ok (.iconst 1, 1)) ∧ (decode cX7_insert 11 = .ok (.iadd, 1)) ∧ (decode cX7_insert 12 = .ok (.putfield 161, 3)) ∧ (decode cX7_insert 15 = .ok (.iload_n 2, 1)) ∧ (decode cX7_insert 16 = .ok (.ifCond .le 39, 3)) ∧ (decode cX7_insert 19 = .ok (.aload_n 0, 1)) := by decide +kernel
theorem dX7_insert_0 : decode cX7_insert 0 = .ok (.aload_n 0, 1) := gX7_insert_0.1
theorem dX7_insert_1 : decode cX7_insert 1 = .ok (.getfield 161, 3) := gX7_insert_0.2.1
theorem dX7_insert_4 : decode cX7_insert 4 = .ok (.istore_n 2, 1) := gX7_insert_0.2.2.1
theorem dX7_insert_5 : decode cX7_insert 5 = .ok (.aload_n 0, 1) := gX7_insert_0.2.2.2.1
theorem dX7_insert_6 : decode cX7_insert 6 = .ok (.dup, 1) := gX7_insert_0.2.2.2.2.1
theorem dX7_insert_7 : decode cX7_insert 7 = .ok (.getfield 161, 3) := gX7_insert_0.2.2.2.2.2.1
theorem dX7_insert_10 : decode cX7_insert 10 = .ok (.iconst 1, 1) := gX7_insert_0.2.2.2.2.2.2.1
theorem dX7_insert_11 : decode cX7_insert 11 = .ok (.iadd, 1) := gX7_insert_0.2.2.2.2.2.2.2.1
theorem dX7_insert_12 : decode cX7_insert 12 = .ok (.putfield 161, 3) := gX7_insert_0.2.2.2.2.2.2.2.2.1
theorem dX7_insert_15 : decode cX7_insert 15 = .ok (.iload_n 2, 1) := gX7_insert_0.2.2.2.2.2.2.2.2.2.1
theorem dX7_insert_16 : decode cX7_insert 16 = .ok (.ifCond .le 39, 3) := gX7_insert_0.2.2.2.2.2.2.2.2.2.2.1
theorem dX7_insert_19 : decode cX7_insert 19 = .ok (.aload_n 0, 1) := gX7_insert_0.2.2.2.2.2.2.2.2.2.2.2
theorem gX7_insert_12 : (decode cX7_insert 20 = .ok (.iload_n 1, 1)) ∧ (decode cX7_insert 21 = .ok (.aload_n 0, 1)) ∧ (decode cX7_insert 22 = .ok (.getfield 42, 3)) ∧ (decode cX7_insert 25 = .ok (.iload_n 2, 1)) ∧ (decode cX7_insert 26 = .ok (.iconst 1, 1)) ∧ (decode cX7_insert 27 = .ok (.isub, 1)) ∧ (decode cX7_insert 28 = .ok (.iaload, 1)) ∧ (decode cX7_insert 29 = .ok (.invokevirtual 167, 3)) ∧ (decode cX7_insert 32 = .ok (.ifCond .eq 23, 3)) ∧ (decode cX7_insert 35 = .ok (.aload_n 0, 1)) ∧ (decode cX7_insert 36 = .ok (.getfield 42, 3)) ∧ (decode cX7_insert 39 = .ok (.iload_n 2, 1)) := by decide +kernel
theorem dX7_insert_20 : decode cX7_insert 20 = .ok (.iload_n 1, 1) := gX7_insert_12.1
theorem dX7_insert_21 : decode cX7_insert 21 = .ok (.aload_n 0, 1) := gX7_insert_12.2.1
theorem dX7_insert_22 : decode cX7_insert 22 = .ok (.getfield 42, 3) := gX7_insert_12.2.2.1
theorem dX7_insert_25 : decode cX7_insert 25 = .ok (.iload_n 2, 1) := gX7_insert_12.2.2.2.1
theorem dX7_insert_26 : decode cX7_insert 26 = .ok (.iconst 1, 1) := gX7_insert_12.2.2.2.2.1
theorem dX7_insert_27 : decode cX7_insert 27 = .ok (.isub, 1) := gX7_insert_12.2.2.2.2.2.1
theorem dX7_insert_28 : decode cX7_insert 28 = .ok (.iaload, 1) := gX7_insert_12.2.2.2.2.2.2.1
theorem dX7_insert_29 : decode cX7_insert 29 = .ok (.invokevirtual 167, 3) := gX7_insert_12.2.2.2.2.2.2.2.1
theorem dX7_insert_32 : decode cX7_insert 32 = .ok (.ifCond .eq 23, 3) := gX7_insert_12.2.2.2.2.2.2.2.2.1
theorem dX7_insert_35 : decode cX7_insert 35 = .ok (.aload_n 0, 1) := gX7_insert_12.2.2.2.2.2.2.2.2.2.1
theorem dX7_insert_36 : decode cX7_insert 36 = .ok (.getfield 42, 3) := gX7_insert_12.2.2.2.2.2.2.2.2.2.2.1
theorem dX7_insert_39 : decode cX7_insert 39 = .ok (.iload_n 2, 1) := gX7_insert_12.2.2.2.2.2.2.2.2.2.2.2
theorem gX7_insert_24 : (decode cX7_insert 40 = .ok (.aload_n 0, 1)) ∧ (decode cX7_insert 41 = .ok (.getfield 42, 3)) ∧ (decode cX7_insert 44 = .ok (.iload_n 2, 1)) ∧ (decode cX7_insert 45 = .ok (.iconst 1, 1)) ∧ (decode cX7_insert 46 = .ok (.isub, 1)) ∧ (decode cX7_insert 47 = .ok (.iaload, 1)) ∧ (decode cX7_insert 48 = .ok (.iastore, 1)) ∧ (decode cX7_insert 49 = .ok (.iinc 2 (-1), 3)) ∧ (decode cX7_insert 52 = .ok (.goto (-37), 3)) ∧ (decode cX7_insert 55 = .ok (.aload_n 0, 1)) ∧ (decode cX7_insert 56 = .ok (.getfield 42, 3)) ∧ (decode cX7_insert 59 = .ok (.iload_n 2, 1)) := by decide +kernel
theorem dX7_insert_40 : decode cX7_insert 40 = .ok (.aload_n 0, 1) := gX7_insert_24.1
theorem dX7_insert_41 : decode cX7_insert 41 = .ok (.getfield 42, 3) := gX7_insert_24.2.1
theorem dX7_insert_44 : decode cX7_insert 44 = .ok (.iload_n 2, 1) := gX7_insert_24.2.2.1
theorem dX7_insert_45 : decode cX7_insert 45 = .ok (.iconst 1, 1) := gX7_insert_24.2.2.2.1
theorem dX7_insert_46 : decode cX7_insert 46 = .ok (.isub, 1) := gX7_insert_24.2.2.2.2.1
theorem dX7_insert_47 : decode cX7_insert 47 = .ok (.iaload, 1) := gX7_insert_24.2.2.2.2.2.1
theorem dX7_insert_48 : decode cX7_insert 48 = .ok (.iastore, 1) := gX7_insert_24.2.2.2.2.2.2.1
theorem dX7_insert_49 : decode cX7_insert 49 = .ok (.iinc 2 (-1), 3) := gX7_insert_24.2.2.2.2.2.2.2.1
theorem dX7_insert_52 : decode cX7_insert 52 = .ok (.goto (-37), 3) := gX7_insert_24.2.2.2.2.2.2.2.2.1
theorem dX7_insert_55 : decode cX7_insert 55 = .ok (.aload_n 0, 1) := gX7_insert_24.2.2.2.2.2.2.2.2.2.1
theorem dX7_insert_56 : decode cX7_insert 56 = .ok (.getfield 42, 3) := gX7_insert_24.2.2.2.2.2.2.2.2.2.2.1
theorem dX7_insert_59 : decode cX7_insert 59 = .ok (.iload_n 2, 1) := gX7_insert_24.2.2.2.2.2.2.2.2.2.2.2
theorem gX7_insert_36 : (decode cX7_insert 60 = .ok (.iload_n 1, 1)) ∧ (decode cX7_insert 61 = .ok (.iastore, 1)) ∧ (decode cX7_insert 62 = .ok (.return_, 1)) := by decide +kernel
theorem dX7_insert_60 : decode cX7_insert 60 = .ok (.iload_n 1, 1) := gX7_insert_36.1
theorem dX7_insert_61 : decode cX7_insert 61 = .ok (.iastore, 1) := gX7_insert_36.2.1
theorem dX7_insert_62 : decode cX7_insert 62 = .ok (.return_, 1) := gX7_insert_36.2.2
theorem gX7_isAhead_0 : (decode cX7_isAhead 0 = .ok (.aload_n 0, 1)) ∧ (decode cX7_isAhead 1 = .ok (.getfield 33, 3)) ∧ (decode cX7_isAhead 4 = .ok (.iload_n 1, 1)) ∧ (decode cX7_isAhead 5 = .ok (.laload, 1)) ∧ (decode cX7_isAhead 6 = .ok (.aload_n 0, 1)) ∧ (decode cX7_isAhead 7 = .ok (.getfield 36, 3)) ∧ (decode cX7_isAhead 10 = .ok (.iload_n 2, 1)) ∧ (decode cX7_isAhead 11 = .ok (.laload, 1)) ∧ (decode cX7_isAhead 12 = .ok (.lmul, 1)) ∧ (decode cX7_isAhead 13 = .ok (.aload_n 0, 1)) ∧ (decode cX7_isAhead 14 = .ok (.getfield 33, 3)) ∧ (decode cX7_isAhead 17 = .ok (.iload_n 2, 1)) := by decide +kernel
theorem dX7_isAhead_0 : decode cX7_isAhead 0 = .ok (.aload_n 0, 1) := gX7_isAhead_0.1
theorem dX7_isAhead_1 : decode cX7_isAhead 1 = .ok (.getfield 33, 3) := gX7_isAhead_0.2.1
theorem dX7_isAhead_4 : decode cX7_isAhead 4 = .ok (.iload_n 1, 1) := gX7_isAhead_0.2.2.1
theorem dX7_isAhead_5 : decode cX7_isAhead 5 = .ok (.laload, 1) := gX7_isAhead_0.2.2.2.1
theorem dX7_isAhead_6 : decode cX7_isAhead 6 = .ok (.aload_n 0, 1) := gX7_isAhead_0.2.2.2.2.1
theorem dX7_isAhead_7 : decode cX7_isAhead 7 = .ok (.getfield 36, 3) := gX7_isAhead_0.2.2.2.2.2.1
theorem dX7_isAhead_10 : decode cX7_isAhead 10 = .ok (.iload_n 2, 1) := gX7_isAhead_0.2.2.2.2.2.2.1
theorem dX7_isAhead_11 : decode cX7_isAhead 11 = .ok (.laload, 1) := gX7_isAhead_0.2.2.2.2.2.2.2.1
theorem dX7_isAhead_12 : decode cX7_isAhead 12 = .ok (.lmul, 1) := gX7_isAhead_0.2.2.2.2.2.2.2.2.1
theorem dX7_isAhead_13 : decode cX7_isAhead 13 = .ok (.aload_n 0, 1) := gX7_isAhead_0.2.2.2.2.2.2.2.2.2.1
theorem dX7_isAhead_14 : decode cX7_isAhead 14 = .ok (.getfield 33, 3) := gX7_isAhead_0.2.2.2.2.2.2.2.2.2.2.1
theorem dX7_isAhead_17 : decode cX7_isAhead 17 = .ok (.iload_n 2, 1) := gX7_isAhead_0.2.2.2.2.2.2.2.2.2.2.2
theorem gX7_isAhead_12 : (decode cX7_isAhead 18 = .ok (.laload, 1)) ∧ (decode cX7_isAhead 19 = .ok (.aload_n 0, 1)) ∧ (decode cX7_isAhead 20 = .ok (.getfield 36, 3)) ∧ (decode cX7_isAhead 23 = .ok (.iload_n 1, 1)) ∧ (decode cX7_isAhead 24 = .ok (.laload, 1)) ∧ (decode cX7_isAhead 25 = .ok (.lmul, 1)) ∧ (decode cX7_isAhead 26 = .ok (.invokestatic 171, 3)) ∧ (decode cX7_isAhead 29 = .ok (.istore_n 3, 1)) ∧ (decode cX7_isAhead 30 = .ok (.iload_n 3, 1)) ∧ (decode cX7_isAhead 31 = .ok (.ifCond .eq 13, 3)) ∧ (decode cX7_isAhead 34 = .ok (.iload_n 3, 1)) ∧ (decode cX7_isAhead 35 = .ok (.ifCond .le 7, 3)) := by decide +kernel
theorem dX7_isAhead_18 : decode cX7_isAhead 18 = .ok (.laload, 1) := gX7_isAhead_12.1
theorem dX7_isAhead_19 : decode cX7_isAhead 19 = .ok (.aload_n 0, 1) := gX7_isAhead_12.2.1
theorem dX7_isAhead_20 : decode cX7_isAhead 20 = .ok (.getfield 36, 3) := gX7_isAhead_12.2.2.1
theorem dX7_isAhead_23 : decode cX7_isAhead 23 = .ok (.iload_n 1, 1) := gX7_isAhead_12.2.2.2.1
theorem dX7_isAhead_24 : decode cX7_isAhead 24 = .ok (.laload, 1) := gX7_isAhead_12.2.2.2.2.1
theorem dX7_isAhead_25 : decode cX7_isAhead 25 = .ok (.lmul, 1) := gX7_isAhead_12.2.2.2.2.2.1
theorem dX7_isAhead_26 : decode cX7_isAhead 26 = .ok (.invokestatic 171, 3) := gX7_isAhead_12.2.2.2.2.2.2.1
theorem dX7_isAhead_29 : decode cX7_isAhead 29 = .ok (.istore_n 3, 1) := gX7_isAhead_12.2.2.2.2.2.2.2.1
theorem dX7_isAhead_30 : decode cX7_isAhead 30 = .ok (.iload_n 3, 1) := gX7_isAhead_12.2.2.2.2.2.2.2.2.1
theorem dX7_isAhead_31 : decode cX7_isAhead 31 = .ok (.ifCond .eq 13, 3) := gX7_isAhead_12.2.2.2.2.2.2.2.2.2.1
theorem dX7_isAhead_34 : decode cX7_isAhead 34 = .ok (.iload_n 3, 1) := gX7_isAhead_12.2.2.2.2.2.2.2.2.2.2.1
theorem dX7_isAhead_35 : decode cX7_isAhead 35 = .ok (.ifCond .le 7, 3) := gX7_isAhead_12.2.2.2.2.2.2.2.2.2.2.2
theorem gX7_isAhead_24 : (decode cX7_isAhead 38 = .ok (.iconst 1, 1)) ∧ (decode cX7_isAhead 39 = .ok (.goto 4, 3)) ∧ (decode cX7_isAhead 42 = .ok (.iconst 0, 1)) ∧ (decode cX7_isAhead 43 = .ok (.ireturn, 1)) ∧ (decode cX7_isAhead 44 = .ok (.aload_n 0, 1)) ∧ (decode cX7_isAhead 45 = .ok (.getfield 26, 3)) ∧ (decode cX7_isAhead 48 = .ok (.iload_n 1, 1)) ∧ (decode cX7_isAhead 49 = .ok (.laload, 1)) ∧ (decode cX7_isAhead 50 = .ok (.aload_n 0, 1)) ∧ (decode cX7_isAhead 51 = .ok (.getfield 30, 3)) ∧ (decode cX7_isAhead 54 = .ok (.iload_n 2, 1)) ∧ (decode cX7_isAhead 55 = .ok (.laload, 1)) := by decide +kernel
theorem dX7_isAhead_38 : decode cX7_isAhead 38 = .ok (.iconst 1, 1) := gX7_isAhead_24.1
theorem dX7_isAhead_39 : decode cX7_isAhead 39 = .ok (.goto 4, 3) := gX7_isAhead_24.2.1
theorem dX7_isAhead_42 : decode cX7_isAhead 42 = .ok (.iconst 0, 1) := gX7_isAhead_24.2.2.1
theorem dX7_isAhead_43 : decode cX7_isAhead 43 = .ok (.ireturn, 1) := gX7_isAhead_24.2.2.2.1
theorem dX7_isAhead_44 : decode cX7_isAhead 44 = .ok (.aload_n 0, 1) := gX7_isAhead_24.2.2.2.2.1
theorem dX7_isAhead_45 : decode cX7_isAhead 45 = .ok (.getfield 26, 3) := gX7_isAhead_24.2.2.2.2.2.1
theorem dX7_isAhead_48 : decode cX7_isAhead 48 = .ok (.iload_n 1, 1) := gX7_isAhead_24.2.2.2.2.2.2.1
theorem dX7_isAhead_49 : decode cX7_isAhead 49 = .ok (.laload, 1) := gX7_isAhead_24.2.2.2.2.2.2.2.1
theorem dX7_isAhead_50 : decode cX7_isAhead 50 = .ok (.aload_n 0, 1) := gX7_isAhead_24.2.2.2.2.2.2.2.2.1
theorem dX7_isAhead_51 : decode cX7_isAhead 51 = .ok (.getfield 30, 3) := gX7_isAhead_24.2.2.2.2.2.2.2.2.2.1
theorem dX7_isAhead_54 : decode cX7_isAhead 54 = .ok (.iload_n 2, 1) := gX7_isAhead_24.2.2.2.2.2.2.2.2.2.2.1
theorem dX7_isAhead_55 : decode cX7_isAhead 55 = .ok (.laload, 1) := gX7_isAhead_24.2.2.2.2.2.2.2.2.2.2.2
theorem gX7_isAhead_36 : (decode cX7_isAhead 56 = .ok (.lmul, 1)) ∧ (decode cX7_isAhead 57 = .ok (.aload_n 0, 1)) ∧ (decode cX7_isAhead 58 = .ok (.getfield 26, 3)) ∧ (decode cX7_isAhead 61 = .ok (.iload_n 2, 1)) ∧ (decode cX7_isAhead 62 = .ok (.laload, 1)) ∧ (decode cX7_isAhead 63 = .ok (.aload_n 0, 1)) ∧ (decode cX7_isAhead 64 = .ok (.getfield 30, 3)) ∧ (decode cX7_isAhead 67 = .ok (.iload_n 1, 1)) ∧ (decode cX7_isAhead 68 = .ok (.laload, 1)) ∧ (decode cX7_isAhead 69 = .ok (.lmul, 1)) ∧ (decode cX7_isAhead 70 = .ok (.invokestatic 171, 3)) ∧ (decode cX7_isAhead 73 = .ok (.istore 4, 2)) := by decide +kernel
theorem dX7_isAhead_56 : decode cX7_isAhead 56 = .ok (.lmul, 1) := gX7_isAhead_36.1
theorem dX7_isAhead_57 : decode cX7_isAhead 57 = .ok (.aload_n 0, 1) := gX7_isAhead_36.2.1
theorem dX7_isAhead_58 : decode cX7_isAhead 58 = .ok (.getfield 26, 3) := gX7_isAhead_36.2.2.1
theorem dX7_isAhead_61 : decode cX7_isAhead 61 = .ok (.iload_n 2, 1) := gX7_isAhead_36.2.2.2.1
theorem dX7_isAhead_62 : decode cX7_isAhead 62 = .ok (.laload, 1) := gX7_isAhead_36.2.2.2.2.1
theorem dX7_isAhead_63 : decode cX7_isAhead 63 = .ok (.aload_n 0, 1) := gX7_isAhead_36.2.2.2.2.2.1
theorem dX7_isAhead_64 : decode cX7_isAhead 64 = .ok (.getfield 30, 3) := gX7_isAhead_36.2.2.2.2.2.2.1
theorem dX7_isAhead_67 : decode cX7_isAhead 67 = .ok (.iload_n 1, 1) := gX7_isAhead_36.2.2.2.2.2.2.2.1
theorem dX7_isAhead_68 : decode cX7_isAhead 68 = .ok (.laload, 1) := gX7_isAhead_36.2.2.2.2.2.2.2.2.1
theorem dX7_isAhead_69 : decode cX7_isAhead 69 = .ok (.lmul, 1) := gX7_isAhead_36.2.2.2.2.2.2.2.2.2.1
theorem dX7_isAhead_70 : decode cX7_isAhead 70 = .ok (.invokestatic 171, 3) := gX7_isAhead_36.2.2.2.2.2.2.2.2.2.2.1
theorem dX7_isAhead_73 : decode cX7_isAhead 73 = .ok (.istore 4, 2) := gX7_isAhead_36.2.2.2.2.2.2.2.2.2.2.2
theorem gX7_isAhead_48 : (decode cX7_isAhead 75 = .ok (.iload 4, 2)) ∧ (decode cX7_isAhead 77 = .ok (.ifCond .eq 14, 3)) ∧ (decode cX7_isAhead 80 = .ok (.iload 4, 2)) ∧ (decode cX7_isAhead 82 = .ok (.ifCond .le 7, 3)) ∧ (decode cX7_isAhead 85 = .ok (.iconst 1, 1)) ∧ (decode cX7_isAhead 86 = .ok (.goto 4, 3)) ∧ (decode cX7_isAhead 89 = .ok (.iconst 0, 1)) ∧ (decode cX7_isAhead 90 = .ok (.ireturn, 1)) ∧ (decode cX7_isAhead 91 = .ok (.aload_n 0, 1)) ∧ (decode cX7_isAhead 92 = .ok (.getfield 22, 3)) ∧ (decode cX7_isAhead 95 = .ok (.iload_n 1, 1)) ∧ (decode cX7_isAhead 96 = .ok (.iaload, 1)) := by decide +kernel
theorem dX7_isAhead_75 : decode cX7_isAhead 75 = .ok (.iload 4, 2) := gX7_isAhead_48.1
theorem dX7_isAhead_77 : decode cX7_isAhead 77 = .ok (.ifCond .eq 14, 3) := gX7_isAhead_48.2.1
theorem dX7_isAhead_80 : decode cX7_isAhead 80 = .ok (.iload 4, 2) := gX7_isAhead_48.2.2.1
theorem dX7_isAhead_82 : decode cX7_isAhead 82 = .ok (.ifCond .le 7, 3) := gX7_isAhead_48.2.2.2.1
theorem dX7_isAhead_85 : decode cX7_isAhead 85 = .ok (.iconst 1, 1) := gX7_isAhead_48.2.2.2.2.1
theorem dX7_isAhead_86 : decode cX7_isAhead 86 = .ok (.goto 4, 3) := gX7_isAhead_48.2.2.2.2.2.1
theorem dX7_isAhead_89 : decode cX7_isAhead 89 = .ok (.iconst 0, 1) := gX7_isAhead_48.2.2.2.2.2.2.1
theorem dX7_isAhead_90 : decode cX7_isAhead 90 = .ok (.ireturn, 1) := gX7_isAhead_48.2.2.2.2.2.2.2.1
theorem dX7_isAhead_91 : decode cX7_isAhead 91 = .ok (.aload_n 0, 1) := gX7_isAhead_48.2.2.2.2.2.2.2.2.1
theorem dX7_isAhead_92 : decode cX7_isAhead 92 = .ok (.getfield 22, 3) := gX7_isAhead_48.2.2.2.2.2.2.2.2.2.1
theorem dX7_isAhead_95 : decode cX7_isAhead 95 = .ok (.iload_n 1, 1) := gX7_isAhead_48.2.2.2.2.2.2.2.2.2.2.1
theorem dX7_isAhead_96 : decode cX7_isAhead 96 = .ok (.iaload, 1) := gX7_isAhead_48.2.2.2.2.2.2.2.2.2.2.2
theorem gX7_isAhead_60 : (decode cX7_isAhead 97 = .ok (.aload_n 0, 1)) ∧ (decode cX7_isAhead 98 = .ok (.getfield 22, 3)) ∧ (decode cX7_isAhead 101 = .ok (.iload_n 2, 1)) ∧ (decode cX7_isAhead 102 = .ok (.iaload, 1)) ∧ (decode cX7_isAhead 103 = .ok (.if_icmp .eq 26, 3)) ∧ (decode cX7_isAhead 106 = .ok (.aload_n 0, 1)) ∧ (decode cX7_isAhead 107 = .ok (.getfield 22, 3)) ∧ (decode cX7_isAhead 110 = .ok (.iload_n 1, 1)) ∧ (decode cX7_isAhead 111 = .ok (.iaload, 1)) ∧ (decode cX7_isAhead 112 = .ok (.aload_n 0, 1)) ∧ (decode cX7_isAhead 113 = .ok (.getfield 22, 3)) ∧ (decode cX7_isAhead 116 = .ok (.iload_n 2, 1)) := by decide +kernel
theorem dX7_isAhead_97 : decode cX7_isAhead 97 = .ok (.aload_n 0, 1) := gX7_isAhead_60.1
theorem dX7_isAhead_98 : decode cX7_isAhead 98 = .ok (.getfield 22, 3) := gX7_isAhead_60.2.1
theorem dX7_isAhead_101 : decode cX7_isAhead 101 = .ok (.iload_n 2, 1) := gX7_isAhead_60.2.2.1
theorem dX7_isAhead_102 : decode cX7_isAhead 102 = .ok (.iaload, 1) := gX7_isAhead_60.2.2.2.1
theorem dX7_isAhead_103 : decode cX7_isAhead 103 = .ok (.if_icmp .eq 26, 3) := gX7_isAhead_60.2.2.2.2.1
theorem dX7_isAhead_106 : decode cX7_isAhead 106 = .ok (.aload_n 0, 1) := gX7_isAhead_60.2.2.2.2.2.1
theorem dX7_isAhead_107 : decode cX7_isAhead 107 = .ok (.getfield 22, 3) := gX7_isAhead_60.2.2.2.2.2.2.1
theorem dX7_isAhead_110 : decode cX7_isAhead 110 = .ok (.iload_n 1, 1) := gX7_isAhead_60.2.2.2.2.2.2.2.1
theorem dX7_isAhead_111 : decode cX7_isAhead 111 = .ok (.iaload, 1) := gX7_isAhead_60.2.2.2.2.2.2.2.2.1
theorem dX7_isAhead_112 : decode cX7_isAhead 112 = .ok (.aload_n 0, 1) := gX7_isAhead_60.2.2.2.2.2.2.2.2.2.1
theorem dX7_isAhead_113 : decode cX7_isAhead 113 = .ok (.getfield 22, 3) := gX7_isAhead_60.2.2.2.2.2.2.2.2.2.2.1
theorem dX7_isAhead_116 : decode cX7_isAhead 116 = .ok (.iload_n 2, 1) := gX7_isAhead_60.2.2.2.2.2.2.2.2.2.2.2
theorem gX7_isAhead_72 : (decode cX7_isAhead 117 = .ok (.iaload, 1)) ∧ (decode cX7_isAhead 118 = .ok (.if_icmp .ge 7, 3)) ∧ (decode cX7_isAhead 121 = .ok (.iconst 1, 1)) ∧ (decode cX7_isAhead 122 = .ok (.goto 17, 3)) ∧ (decode cX7_isAhead 125 = .ok (.iconst 0, 1)) ∧ (decode cX7_isAhead 126 = .ok (.goto 13, 3)) ∧ (decode cX7_isAhead 129 = .ok (.iload_n 1, 1)) ∧ (decode cX7_isAhead 130 = .ok (.iload_n 2, 1)) ∧ (decode cX7_isAhead 131 = .ok (.if_icmp .ge 7, 3)) ∧ (decode cX7_isAhead 134 = .ok (.iconst 1, 1)) ∧ (decode cX7_isAhead 135 = .ok (.goto 4, 3)) ∧ (decode cX7_isAhead 138 = .ok (.iconst 0, 1)) := by decide +kernel
theorem dX7_isAhead_117 : decode cX7_isAhead 117 = .ok (.iaload, 1) := gX7_isAhead_72.1
theorem dX7_isAhead_118 : decode cX7_isAhead 118 = .ok (.if_icmp .ge 7, 3) := gX7_isAhead_72.2.1
theorem dX7_isAhead_121 : decode cX7_isAhead 121 = .ok (.iconst 1, 1) := gX7_isAhead_72.2.2.1
theorem dX7_isAhead_122 : decode cX7_isAhead 122 = .ok (.goto 17, 3) := gX7_isAhead_72.2.2.2.1
theorem dX7_isAhead_125 : decode cX7_isAhead 125 = .ok (.iconst 0, 1) := gX7_isAhead_72.2.2.2.2.1
theorem dX7_isAhead_126 : decode cX7_isAhead 126 = .ok (.goto 13, 3) := gX7_isAhead_72.2.2.2.2.2.1
theorem dX7_isAhead_129 : decode cX7_isAhead 129 = .ok (.iload_n 1, 1) := gX7_isAhead_72.2.2.2.2.2.2.1
theorem dX7_isAhead_130 : decode cX7_isAhead 130 = .ok (.iload_n 2, 1) := gX7_isAhead_72.2.2.2.2.2.2.2.1
theorem dX7_isAhead_131 : decode cX7_isAhead 131 = .ok (.if_icmp .ge 7, 3) := gX7_isAhead_72.2.2.2.2.2.2.2.2.1
theorem dX7_isAhead_134 : decode cX7_isAhead 134 = .ok (.iconst 1, 1) := gX7_isAhead_72.2.2.2.2.2.2.2.2.2.1
theorem dX7_isAhead_135 : decode cX7_isAhead 135 = .ok (.goto 4, 3) := gX7_isAhead_72.2.2.2.2.2.2.2.2.2.2.1
theorem dX7_isAhead_138 : decode cX7_isAhead 138 = .ok (.iconst 0, 1) := gX7_isAhead_72.2.2.2.2.2.2.2.2.2.2.2
theorem gX7_isAhead_84 : (decode cX7_isAhead 139 = .ok (.ireturn, 1)) := by decide +kernel
theorem dX7_isAhead_139 : decode cX7_isAhead 139 = .ok (.ireturn, 1) := gX7_isAhead_84
theorem gX8_init_0 : (decode cX8_init 0 = .ok (.aload_n 0, 1)) ∧ (decode cX8_init 1 = .ok (.invokespecial 5, 3)) ∧ (decode cX8_init 4 = .ok (.aload_n 0, 1)) ∧ (decode cX8_init 5 = .ok (.bipush 8, 2)) ∧ (decode cX8_init 7 = .ok (.newarray .int, 2)) ∧ (decode cX8_init 9 = .ok (.putfield 11, 3)) ∧ (decode cX8_init 12 = .ok (.aload_n 0, 1)) ∧ (decode cX8_init 13 = .ok (.bipush 6, 2)) ∧ (decode cX8_init 15 = .ok (.newarray .int, 2)) ∧ (decode cX8_init 17 = .ok (.putfield 17, 3)) ∧ (decode cX8_init 20 = .ok (.aload_n 0, 1)) ∧ (decode cX8_init 21 = .ok (.bipush 56, 2)) := by decide +kernel
theorem dX8_init_0 : decode cX8_init 0 = .ok (.aload_n 0, 1) := gX8_init_0.1
theorem dX8_init_1 : decode cX8_init 1 = .ok (.invokespecial 5, 3) := gX8_init_0.2.1
theorem dX8_init_4 : decode cX8_init 4 = .ok (.aload_n 0, 1) := gX8_init_0.2.2.1
theorem dX8_init_5 : decode cX8_init 5 = .ok (.bipush 8, 2) := gX8_init_0.2.2.2.1
theorem dX8_init_7 : decode cX8_init 7 = .ok (.newarray .int, 2) := gX8_init_0.2.2.2.2.1
theorem dX8_init_9 : decode cX8_init 9 = .ok (.putfield 11, 3) := gX8_init_0.2.2.2.2.2.1
theorem dX8_init_12 : decode cX8_init 12 = .ok (.aload_n 0, 1) := gX8_init_0.2.2.2.2.2.2.1
theorem dX8_init_13 : decode cX8_init 13 = .ok (.bipush 6, 2) := gX8_init_0.2.2.2.2.2.2.2.1
theorem dX8_init_15 : decode cX8_init 15 = .ok (.newarray .int, 2) := gX8_init_0.2.2.2.2.2.2.2.2.1
theorem dX8_init_17 : decode cX8_init 17 = .ok (.putfield 17, 3) := gX8_init_0.2.2.2.2.2.2.2.2.2.1
theorem dX8_init_20 : decode cX8_init 20 = .ok (.aload_n 0, 1) := gX8_init_0.2.2.2.2.2.2.2.2.2.2.1
theorem dX8_init_21 : decode cX8_init 21 = .ok (.bipush 56, 2) := gX8_init_0.2.2.2.2.2.2.2.2.2.2.2
theorem gX8_init_12 : (decode cX8_init 23 = .ok (.newarray .int, 2)) ∧ (decode cX8_init 25 = .ok (.putfield 20, 3)) ∧ (decode cX8_init 28 = .ok (.aload_n 0, 1)) ∧ (decode cX8_init 29 = .ok (.bipush 48, 2)) ∧ (decode cX8_init 31 = .ok (.newarray .int, 2)) ∧ (decode cX8_init 33 = .ok (.putfield 23, 3)) ∧ (decode cX8_init 36 = .ok (.aload_n 0, 1)) ∧ (decode cX8_init 37 = .ok (.bipush 48, 2)) ∧ (decode cX8_init 39 = .ok (.newarray .int, 2)) ∧ (decode cX8_init 41 = .ok (.putfield 26, 3)) ∧ (decode cX8_init 44 = .ok (.aload_n 0, 1)) ∧ (decode cX8_init 45 = .ok (.bipush 64, 2)) := by decide +kernel
theorem dX8_init_23 : decode cX8_init 23 = .ok (.newarray .int, 2) := gX8_init_12.1
theorem dX8_init_25 : decode cX8_init 25 = .ok (.putfield 20, 3) := gX8_init_12.2.1
theorem dX8_init_28 : decode cX8_init 28 = .ok (.aload_n 0, 1) := gX8_init_12.2.2.1
theorem dX8_init_29 : decode cX8_init 29 = .ok (.bipush 48, 2) := gX8_init_12.2.2.2.1
theorem dX8_init_31 : decode cX8_init 31 = .ok (.newarray .int, 2) := gX8_init_12.2.2.2.2.1
theorem dX8_init_33 : decode cX8_init 33 = .ok (.putfield 23, 3) := gX8_init_12.2.2.2.2.2.1
theorem dX8_init_36 : decode cX8_init 36 = .ok (.aload_n 0, 1) := gX8_init_12.2.2.2.2.2.2.1
theorem dX8_init_37 : decode cX8_init 37 = .ok (.bipush 48, 2) := gX8_init_12.2.2.2.2.2.2.2.1
theorem dX8_init_39 : decode cX8_init 39 = .ok (.newarray .int, 2) := gX8_init_12.2.2.2.2.2.2.2.2.1
theorem dX8_init_41 : decode cX8_init 41 = .ok (.putfield 26, 3) := gX8_init_12.2.2.2.2.2.2.2.2.2.1
theorem dX8_init_44 : decode cX8_init 44 = .ok (.aload_n 0, 1) := gX8_init_12.2.2.2.2.2.2.2.2.2.2.1
theorem dX8_init_45 : decode cX8_init 45 = .ok (.bipush 64, 2) := gX8_init_12.2.2.2.2.2.2.2.2.2.2.2
theorem gX8_init_24 : (decode cX8_init 47 = .ok (.newarray .long, 2)) ∧ (decode cX8_init 49 = .ok (.putfield 29, 3)) ∧ (decode cX8_init 52 = .ok (.aload_n 0, 1)) ∧ (decode cX8_init 53 = .ok (.bipush 64, 2)) ∧ (decode cX8_init 55 = .ok (.newarray .long, 2)) ∧ (decode cX8_init 57 = .ok (.putfield 33, 3)) ∧ (decode cX8_init 60 = .ok (.aload_n 0, 1)) ∧ (decode cX8_init 61 = .ok (.getfield 11, 3)) ∧ (decode cX8_init 64 = .ok (.bipush 6, 2)) ∧ (decode cX8_init 66 = .ok (.invokestatic 36, 3)) ∧ (decode cX8_init 69 = .ok (.return_, 1)) := by decide +kernel
theorem dX8_init_47 : decode cX8_init 47 = .ok (.newarray .long, 2) := gX8_init_24.1
theorem dX8_init_49 : decode cX8_init 49 = .ok (.putfield 29, 3) := gX8_init_24.2.1
theorem dX8_init_52 : decode cX8_init 52 = .ok (.aload_n 0, 1) := gX8_init_24.2.2.1
theorem dX8_init_53 : decode cX8_init 53 = .ok (.bipush 64, 2) := gX8_init_24.2.2.2.1
theorem dX8_init_55 : decode cX8_init 55 = .ok (.newarray .long, 2) := gX8_init_24.2.2.2.2.1
theorem dX8_init_57 : decode cX8_init 57 = .ok (.putfield 33, 3) := gX8_init_24.2.2.2.2.2.1
theorem dX8_init_60 : decode cX8_init 60 = .ok (.aload_n 0, 1) := gX8_init_24.2.2.2.2.2.2.1
theorem dX8_init_61 : decode cX8_init 61 = .ok (.getfield 11, 3) := gX8_init_24.2.2.2.2.2.2.2.1
theorem dX8_init_64 : decode cX8_init 64 = .ok (.bipush 6, 2) := gX8_init_24.2.2.2.2.2.2.2.2.1
theorem dX8_init_66 : decode cX8_init 66 = .ok (.invokestatic 36, 3) := gX8_init_24.2.2.2.2.2.2.2.2.2.1
theorem dX8_init_69 : decode cX8_init 69 = .ok (.return_, 1) := gX8_init_24.2.2.2.2.2.2.2.2.2.2
theorem gX8_putRebate_0 : (decode cX8_putRebate 0 = .ok (.iload_n 1, 1)) ∧ (decode cX8_putRebate 1 = .ok (.bipush 7, 2)) ∧ (decode cX8_putRebate 3 = .ok (.imul, 1)) ∧ (decode cX8_putRebate 4 = .ok (.iload_n 2, 1)) ∧ (decode cX8_putRebate 5 = .ok (.iadd, 1)) ∧ (decode cX8_putRebate 6 = .ok (.istore 4, 2)) ∧ (decode cX8_putRebate 8 = .ok (.aload_n 0, 1)) ∧ (decode cX8_putRebate 9 = .ok (.getfield 20, 3)) ∧ (decode cX8_putRebate 12 = .ok (.iload 4, 2)) ∧ (decode cX8_putRebate 14 = .ok (.iaload, 1)) ∧ (decode cX8_putRebate 15 = .ok (.istore 5, 2)) ∧ (decode cX8_putRebate 17 = .ok (.aload_n 0, 1)) := by decide +kernel
theorem dX8_putRebate_0 : decode cX8_putRebate 0 = .ok (.iload_n 1, 1) := gX8_putRebate_0.1
theorem dX8_putRebate_1 : decode cX8_putRebate 1 = .ok (.bipush 7, 2) := gX8_putRebate_0.2.1
theorem dX8_putRebate_3 : decode cX8_putRebate 3 = .ok (.imul, 1) := gX8_putRebate_0.2.2.1
theorem dX8_putRebate_4 : decode cX8_putRebate 4 = .ok (.iload_n 2, 1) := gX8_putRebate_0.2.2.2.1
theorem dX8_putRebate_5 : decode cX8_putRebate 5 = .ok (.iadd, 1) := gX8_putRebate_0.2.2.2.2.1
theorem dX8_putRebate_6 : decode cX8_putRebate 6 = .ok (.istore 4, 2) := gX8_putRebate_0.2.2.2.2.2.1
theorem dX8_putRebate_8 : decode cX8_putRebate 8 = .ok (.aload_n 0, 1) := gX8_putRebate_0.2.2.2.2.2.2.1
theorem dX8_putRebate_9 : decode cX8_putRebate 9 = .ok (.getfield 20, 3) := gX8_putRebate_0.2.2.2.2.2.2.2.1
theorem dX8_putRebate_12 : decode cX8_putRebate 12 = .ok (.iload 4, 2) := gX8_putRebate_0.2.2.2.2.2.2.2.2.1
theorem dX8_putRebate_14 : decode cX8_putRebate 14 = .ok (.iaload, 1) := gX8_putRebate_0.2.2.2.2.2.2.2.2.2.1
theorem dX8_putRebate_15 : decode cX8_putRebate 15 = .ok (.istore 5, 2) := gX8_putRebate_0.2.2.2.2.2.2.2.2.2.2.1
theorem dX8_putRebate_17 : decode cX8_putRebate 17 = .ok (.aload_n 0, 1) := gX8_putRebate_0.2.2.2.2.2.2.2.2.2.2.2
theorem gX8_putRebate_12 : (decode cX8_putRebate 18 = .ok (.getfield 20, 3)) ∧ (decode cX8_putRebate 21 = .ok (.iload 4, 2)) ∧ (decode cX8_putRebate 23 = .ok (.iload_n 3, 1)) ∧ (decode cX8_putRebate 24 = .ok (.iastore, 1)) ∧ (decode cX8_putRebate 25 = .ok (.iload 5, 2)) ∧ (decode cX8_putRebate 27 = .ok (.ireturn, 1)) := by decide +kernel
theorem dX8_putRebate_18 : decode cX8_putRebate 18 = .ok (.getfield 20, 3) := gX8_putRebate_12.1
theorem dX8_putRebate_21 : decode cX8_putRebate 21 = .ok (.iload 4, 2) := gX8_putRebate_12.2.1
theorem dX8_putRebate_23 : decode cX8_putRebate 23 = .ok (.iload_n 3, 1) := gX8_putRebate_12.2.2.1
theorem dX8_putRebate_24 : decode cX8_putRebate 24 = .ok (.iastore, 1) := gX8_putRebate_12.2.2.2.1
theorem dX8_putRebate_25 : decode cX8_putRebate 25 = .ok (.iload 5, 2) := gX8_putRebate_12.2.2.2.2.1
theorem dX8_putRebate_27 : decode cX8_putRebate 27 = .ok (.ireturn, 1) := gX8_putRebate_12.2.2.2.2.2
theorem gX8_clear_0 : (decode cX8_clear 0 = .ok (.aload_n 0, 1)) ∧ (decode cX8_clear 1 = .ok (.getfield 23, 3)) ∧ (decode cX8_clear 4 = .ok (.iconst (-1), 1)) ∧ (decode cX8_clear 5 = .ok (.invokestatic 36, 3)) ∧ (decode cX8_clear 8 = .ok (.return_, 1)) := by decide +kernel
theorem dX8_clear_0 : decode cX8_clear 0 = .ok (.aload_n 0, 1) := gX8_clear_0.1
theorem dX8_clear_1 : decode cX8_clear 1 = .ok (.getfield 23, 3) := gX8_clear_0.2.1
theorem dX8_clear_4 : decode cX8_clear 4 = .ok (.iconst (-1), 1) := gX8_clear_0.2.2.1
theorem dX8_clear_5 : decode cX8_clear 5 = .ok (.invokestatic 36, 3) := gX8_clear_0.2.2.2.1
theorem dX8_clear_8 : decode cX8_clear 8 = .ok (.return_, 1) := gX8_clear_0.2.2.2.2
theorem gX8_offer_0 : (decode cX8_offer 0 = .ok (.aload_n 0, 1)) ∧ (decode cX8_offer 1 = .ok (.getfield 23, 3)) ∧ (decode cX8_offer 4 = .ok (.iload_n 2, 1)) ∧ (decode cX8_offer 5 = .ok (.iload_n 1, 1)) ∧ (decode cX8_offer 6 = .ok (.invokestatic 42, 3)) ∧ (decode cX8_offer 9 = .ok (.iload_n 3, 1)) ∧ (decode cX8_offer 10 = .ok (.iastore, 1)) ∧ (decode cX8_offer 11 = .ok (.aload_n 0, 1)) ∧ (decode cX8_offer 12 = .ok (.getfield 26, 3)) ∧ (decode cX8_offer 15 = .ok (.iload_n 2, 1)) ∧ (decode cX8_offer 16 = .ok (.iload_n 1, 1)) ∧ (decode cX8_offer 17 = .ok (.invokestatic 42, 3)) := by decide +kernel
theorem dX8_offer_0 : decode cX8_offer 0 = .ok (.aload_n 0, 1) := gX8_offer_0.1
theorem dX8_offer_1 : decode cX8_offer 1 = .ok (.getfield 23, 3) := gX8_offer_0.2.1
theorem dX8_offer_4 : decode cX8_offer 4 = .ok (.iload_n 2, 1) := gX8_offer_0.2.2.1
theorem dX8_offer_5 : decode cX8_offer 5 = .ok (.iload_n 1, 1) := gX8_offer_0.2.2.2.1
theorem dX8_offer_6 : decode cX8_offer 6 = .ok (.invokestatic 42, 3) := gX8_offer_0.2.2.2.2.1
theorem dX8_offer_9 : decode cX8_offer 9 = .ok (.iload_n 3, 1) := gX8_offer_0.2.2.2.2.2.1
theorem dX8_offer_10 : decode cX8_offer 10 = .ok (.iastore, 1) := gX8_offer_0.2.2.2.2.2.2.1
theorem dX8_offer_11 : decode cX8_offer 11 = .ok (.aload_n 0, 1) := gX8_offer_0.2.2.2.2.2.2.2.1
theorem dX8_offer_12 : decode cX8_offer 12 = .ok (.getfield 26, 3) := gX8_offer_0.2.2.2.2.2.2.2.2.1
theorem dX8_offer_15 : decode cX8_offer 15 = .ok (.iload_n 2, 1) := gX8_offer_0.2.2.2.2.2.2.2.2.2.1
theorem dX8_offer_16 : decode cX8_offer 16 = .ok (.iload_n 1, 1) := gX8_offer_0.2.2.2.2.2.2.2.2.2.2.1
theorem dX8_offer_17 : decode cX8_offer 17 = .ok (.invokestatic 42, 3) := gX8_offer_0.2.2.2.2.2.2.2.2.2.2.2
theorem gX8_offer_12 : (decode cX8_offer 20 = .ok (.iload 4, 2)) ∧ (decode cX8_offer 22 = .ok (.iastore, 1)) ∧ (decode cX8_offer 23 = .ok (.return_, 1)) := by decide +kernel
theorem dX8_offer_20 : decode cX8_offer 20 = .ok (.iload 4, 2) := gX8_offer_12.1
theorem dX8_offer_22 : decode cX8_offer 22 = .ok (.iastore, 1) := gX8_offer_12.2.1
theorem dX8_offer_23 : decode cX8_offer 23 = .ok (.return_, 1) := gX8_offer_12.2.2
theorem gX8_search_0 : (decode cX8_search 0 = .ok (.aload_n 0, 1)) ∧ (decode cX8_search 1 = .ok (.getfield 29, 3)) ∧ (decode cX8_search 4 = .ok (.ldc2_w 46, 3)) ∧ (decode cX8_search 7 = .ok (.invokestatic 48, 3)) ∧ (decode cX8_search 10 = .ok (.aload_n 0, 1)) ∧ (decode cX8_search 11 = .ok (.getfield 29, 3)) ∧ (decode cX8_search 14 = .ok (.iconst 0, 1)) ∧ (decode cX8_search 15 = .ok (.lconst 0, 1)) ∧ (decode cX8_search 16 = .ok (.lastore, 1)) ∧ (decode cX8_search 17 = .ok (.iconst 0, 1)) ∧ (decode cX8_search 18 = .ok (.istore_n 2, 1)) ∧ (decode cX8_search 19 = .ok (.iload_n 2, 1)) := by decide +kernel
theorem dX8_search_0 : decode cX8_search 0 = .ok (.aload_n 0, 1) := gX8_search_0.1
theorem dX8_search_1 : decode cX8_search 1 = .ok (.getfield 29, 3) := gX8_search_0.2.1
theorem dX8_search_4 : decode cX8_search 4 = .ok (.ldc2_w 46, 3) := gX8_search_0.2.2.1
theorem dX8_search_7 : decode cX8_search 7 = .ok (.invokestatic 48, 3) := gX8_search_0.2.2.2.1
theorem dX8_search_10 : decode cX8_search 10 = .ok (.aload_n 0, 1) := gX8_search_0.2.2.2.2.1
theorem dX8_search_11 : decode cX8_search 11 = .ok (.getfield 29, 3) := gX8_search_0.2.2.2.2.2.1
theorem dX8_search_14 : decode cX8_search 14 = .ok (.iconst 0, 1) := gX8_search_0.2.2.2.2.2.2.1
theorem dX8_search_15 : decode cX8_search 15 = .ok (.lconst 0, 1) := gX8_search_0.2.2.2.2.2.2.2.1
theorem dX8_search_16 : decode cX8_search 16 = .ok (.lastore, 1) := gX8_search_0.2.2.2.2.2.2.2.2.1
theorem dX8_search_17 : decode cX8_search 17 = .ok (.iconst 0, 1) := gX8_search_0.2.2.2.2.2.2.2.2.2.1
theorem dX8_search_18 : decode cX8_search 18 = .ok (.istore_n 2, 1) := gX8_search_0.2.2.2.2.2.2.2.2.2.2.1
theorem dX8_search_19 : decode cX8_search 19 = .ok (.iload_n 2, 1) := gX8_search_0.2.2.2.2.2.2.2.2.2.2.2
theorem gX8_search_12 : (decode cX8_search 20 = .ok (.bipush 8, 2)) ∧ (decode cX8_search 22 = .ok (.if_icmp .ge 39, 3)) ∧ (decode cX8_search 25 = .ok (.iconst 1, 1)) ∧ (decode cX8_search 26 = .ok (.istore_n 3, 1)) ∧ (decode cX8_search 27 = .ok (.iload_n 3, 1)) ∧ (decode cX8_search 28 = .ok (.bipush 64, 2)) ∧ (decode cX8_search 30 = .ok (.if_icmp .ge 21, 3)) ∧ (decode cX8_search 33 = .ok (.aload_n 0, 1)) ∧ (decode cX8_search 34 = .ok (.getfield 33, 3)) ∧ (decode cX8_search 37 = .ok (.iload_n 3, 1)) ∧ (decode cX8_search 38 = .ok (.aload_n 0, 1)) ∧ (decode cX8_search 39 = .ok (.iload_n 2, 1)) := by decide +kernel
theorem dX8_search_20 : decode cX8_search 20 = .ok (.bipush 8, 2) := gX8_search_12.1
theorem dX8_search_22 : decode cX8_search 22 = .ok (.if_icmp .ge 39, 3) := gX8_search_12.2.1
theorem dX8_search_25 : decode cX8_search 25 = .ok (.iconst 1, 1) := gX8_search_12.2.2.1
theorem dX8_search_26 : decode cX8_search 26 = .ok (.istore_n 3, 1) := gX8_search_12.2.2.2.1
theorem dX8_search_27 : decode cX8_search 27 = .ok (.iload_n 3, 1) := gX8_search_12.2.2.2.2.1
theorem dX8_search_28 : decode cX8_search 28 = .ok (.bipush 64, 2) := gX8_search_12.2.2.2.2.2.1
theorem dX8_search_30 : decode cX8_search 30 = .ok (.if_icmp .ge 21, 3) := gX8_search_12.2.2.2.2.2.2.1
theorem dX8_search_33 : decode cX8_search 33 = .ok (.aload_n 0, 1) := gX8_search_12.2.2.2.2.2.2.2.1
theorem dX8_search_34 : decode cX8_search 34 = .ok (.getfield 33, 3) := gX8_search_12.2.2.2.2.2.2.2.2.1
theorem dX8_search_37 : decode cX8_search 37 = .ok (.iload_n 3, 1) := gX8_search_12.2.2.2.2.2.2.2.2.2.1
theorem dX8_search_38 : decode cX8_search 38 = .ok (.aload_n 0, 1) := gX8_search_12.2.2.2.2.2.2.2.2.2.2.1
theorem dX8_search_39 : decode cX8_search 39 = .ok (.iload_n 2, 1) := gX8_search_12.2.2.2.2.2.2.2.2.2.2.2
theorem gX8_search_24 : (decode cX8_search 40 = .ok (.iload_n 3, 1)) ∧ (decode cX8_search 41 = .ok (.invokevirtual 51, 3)) ∧ (decode cX8_search 44 = .ok (.lastore, 1)) ∧ (decode cX8_search 45 = .ok (.iinc 3 1, 3)) ∧ (decode cX8_search 48 = .ok (.goto (-21), 3)) ∧ (decode cX8_search 51 = .ok (.aload_n 0, 1)) ∧ (decode cX8_search 52 = .ok (.invokevirtual 55, 3)) ∧ (decode cX8_search 55 = .ok (.iinc 2 1, 3)) ∧ (decode cX8_search 58 = .ok (.goto (-39), 3)) ∧ (decode cX8_search 61 = .ok (.ldc2_w 46, 3)) ∧ (decode cX8_search 64 = .ok (.lstore_n 2, 1)) ∧ (decode cX8_search 65 = .ok (.iconst 0, 1)) := by decide +kernel
theorem dX8_search_40 : decode cX8_search 40 = .ok (.iload_n 3, 1) := gX8_search_24.1
theorem dX8_search_41 : decode cX8_search 41 = .ok (.invokevirtual 51, 3) := gX8_search_24.2.1
theorem dX8_search_44 : decode cX8_search 44 = .ok (.lastore, 1) := gX8_search_24.2.2.1
theorem dX8_search_45 : decode cX8_search 45 = .ok (.iinc 3 1, 3) := gX8_search_24.2.2.2.1
theorem dX8_search_48 : decode cX8_search 48 = .ok (.goto (-21), 3) := gX8_search_24.2.2.2.2.1
theorem dX8_search_51 : decode cX8_search 51 = .ok (.aload_n 0, 1) := gX8_search_24.2.2.2.2.2.1
theorem dX8_search_52 : decode cX8_search 52 = .ok (.invokevirtual 55, 3) := gX8_search_24.2.2.2.2.2.2.1
theorem dX8_search_55 : decode cX8_search 55 = .ok (.iinc 2 1, 3) := gX8_search_24.2.2.2.2.2.2.2.1
theorem dX8_search_58 : decode cX8_search 58 = .ok (.goto (-39), 3) := gX8_search_24.2.2.2.2.2.2.2.2.1
theorem dX8_search_61 : decode cX8_search 61 = .ok (.ldc2_w 46, 3) := gX8_search_24.2.2.2.2.2.2.2.2.2.1
theorem dX8_search_64 : decode cX8_search 64 = .ok (.lstore_n 2, 1) := gX8_search_24.2.2.2.2.2.2.2.2.2.2.1
theorem dX8_search_65 : decode cX8_search 65 = .ok (.iconst 0, 1) := gX8_search_24.2.2.2.2.2.2.2.2.2.2.2
theorem gX8_search_36 : (decode cX8_search 66 = .ok (.istore 4, 2)) ∧ (decode cX8_search 68 = .ok (.iload 4, 2)) ∧ (decode cX8_search 70 = .ok (.bipush 64, 2)) ∧ (decode cX8_search 72 = .ok (.if_icmp .ge 42, 3)) ∧ (decode cX8_search 75 = .ok (.aload_n 0, 1)) ∧ (decode cX8_search 76 = .ok (.getfield 29, 3)) ∧ (decode cX8_search 79 = .ok (.iload 4, 2)) ∧ (decode cX8_search 81 = .ok (.laload, 1)) ∧ (decode cX8_search 82 = .ok (.ldc2_w 46, 3)) ∧ (decode cX8_search 85 = .ok (.lcmp, 1)) ∧ (decode cX8_search 86 = .ok (.ifCond .eq 22, 3)) ∧ (decode cX8_search 89 = .ok (.lload_n 2, 1)) := by decide +kernel
theorem dX8_search_66 : decode cX8_search 66 = .ok (.istore 4, 2) := gX8_search_36.1
theorem dX8_search_68 : decode cX8_search 68 = .ok (.iload 4, 2) := gX8_search_36.2.1
theorem dX8_search_70 : decode cX8_search 70 = .ok (.bipush 64, 2) := gX8_search_36.2.2.1
theorem dX8_search_72 : decode cX8_search 72 = .ok (.if_icmp .ge 42, 3) := gX8_search_36.2.2.2.1
theorem dX8_search_75 : decode cX8_search 75 = .ok (.aload_n 0, 1) := gX8_search_36.2.2.2.2.1
theorem dX8_search_76 : decode cX8_search 76 = .ok (.getfield 29, 3) := gX8_search_36.2.2.2.2.2.1
theorem dX8_search_79 : decode cX8_search 79 = .ok (.iload 4, 2) := gX8_search_36.2.2.2.2.2.2.1
theorem dX8_search_81 : decode cX8_search 81 = .ok (.laload, 1) := gX8_search_36.2.2.2.2.2.2.2.1
theorem dX8_search_82 : decode cX8_search 82 = .ok (.ldc2_w 46, 3) := gX8_search_36.2.2.2.2.2.2.2.2.1
theorem dX8_search_85 : decode cX8_search 85 = .ok (.lcmp, 1) := gX8_search_36.2.2.2.2.2.2.2.2.2.1
theorem dX8_search_86 : decode cX8_search 86 = .ok (.ifCond .eq 22, 3) := gX8_search_36.2.2.2.2.2.2.2.2.2.2.1
theorem dX8_search_89 : decode cX8_search 89 = .ok (.lload_n 2, 1) := gX8_search_36.2.2.2.2.2.2.2.2.2.2.2
theorem gX8_search_48 : (decode cX8_search 90 = .ok (.aload_n 0, 1)) ∧ (decode cX8_search 91 = .ok (.getfield 29, 3)) ∧ (decode cX8_search 94 = .ok (.iload 4, 2)) ∧ (decode cX8_search 96 = .ok (.laload, 1)) ∧ (decode cX8_search 97 = .ok (.iload 4, 2)) ∧ (decode cX8_search 99 = .ok (.iload_n 1, 1)) ∧ (decode cX8_search 100 = .ok (.invokestatic 58, 3)) ∧ (decode cX8_search 103 = .ok (.ladd, 1)) ∧ (decode cX8_search 104 = .ok (.invokestatic 61, 3)) ∧ (decode cX8_search 107 = .ok (.lstore_n 2, 1)) ∧ (decode cX8_search 108 = .ok (.iinc 4 1, 3)) ∧ (decode cX8_search 111 = .ok (.goto (-43), 3)) := by decide +kernel
theorem dX8_search_90 : decode cX8_search 90 = .ok (.aload_n 0, 1) := gX8_search_48.1
theorem dX8_search_91 : decode cX8_search 91 = .ok (.getfield 29, 3) := gX8_search_48.2.1
theorem dX8_search_94 : decode cX8_search 94 = .ok (.iload 4, 2) := gX8_search_48.2.2.1
theorem dX8_search_96 : decode cX8_search 96 = .ok (.laload, 1) := gX8_search_48.2.2.2.1
theorem dX8_search_97 : decode cX8_search 97 = .ok (.iload 4, 2) := gX8_search_48.2.2.2.2.1
theorem dX8_search_99 : decode cX8_search 99 = .ok (.iload_n 1, 1) := gX8_search_48.2.2.2.2.2.1
theorem dX8_search_100 : decode cX8_search 100 = .ok (.invokestatic 58, 3) := gX8_search_48.2.2.2.2.2.2.1
theorem dX8_search_103 : decode cX8_search 103 = .ok (.ladd, 1) := gX8_search_48.2.2.2.2.2.2.2.1
theorem dX8_search_104 : decode cX8_search 104 = .ok (.invokestatic 61, 3) := gX8_search_48.2.2.2.2.2.2.2.2.1
theorem dX8_search_107 : decode cX8_search 107 = .ok (.lstore_n 2, 1) := gX8_search_48.2.2.2.2.2.2.2.2.2.1
theorem dX8_search_108 : decode cX8_search 108 = .ok (.iinc 4 1, 3) := gX8_search_48.2.2.2.2.2.2.2.2.2.2.1
theorem dX8_search_111 : decode cX8_search 111 = .ok (.goto (-43), 3) := gX8_search_48.2.2.2.2.2.2.2.2.2.2.2
theorem gX8_search_60 : (decode cX8_search 114 = .ok (.aload_n 0, 1)) ∧ (decode cX8_search 115 = .ok (.lload_n 2, 1)) ∧ (decode cX8_search 116 = .ok (.iload_n 1, 1)) ∧ (decode cX8_search 117 = .ok (.invokevirtual 67, 3)) ∧ (decode cX8_search 120 = .ok (.return_, 1)) := by decide +kernel
theorem dX8_search_114 : decode cX8_search 114 = .ok (.aload_n 0, 1) := gX8_search_60.1
theorem dX8_search_115 : decode cX8_search 115 = .ok (.lload_n 2, 1) := gX8_search_60.2.1
theorem dX8_search_116 : decode cX8_search 116 = .ok (.iload_n 1, 1) := gX8_search_60.2.2.1
theorem dX8_search_117 : decode cX8_search 117 = .ok (.invokevirtual 67, 3) := gX8_search_60.2.2.2.1
theorem dX8_search_120 : decode cX8_search 120 = .ok (.return_, 1) := gX8_search_60.2.2.2.2
theorem gX8_costOf_0 : (decode cX8_costOf 0 = .ok (.iload_n 2, 1)) ∧ (decode cX8_costOf 1 = .ok (.invokestatic 71, 3)) ∧ (decode cX8_costOf 4 = .ok (.istore_n 3, 1)) ∧ (decode cX8_costOf 5 = .ok (.iload_n 3, 1)) ∧ (decode cX8_costOf 6 = .ok (.aload_n 0, 1)) ∧ (decode cX8_costOf 7 = .ok (.getfield 11, 3)) ∧ (decode cX8_costOf 10 = .ok (.iload_n 1, 1)) ∧ (decode cX8_costOf 11 = .ok (.iaload, 1)) ∧ (decode cX8_costOf 12 = .ok (.if_icmp .le 7, 3)) ∧ (decode cX8_costOf 15 = .ok (.ldc2_w 46, 3)) ∧ (decode cX8_costOf 18 = .ok (.lreturn, 1)) ∧ (decode cX8_costOf 19 = .ok (.lconst 0, 1)) := by decide +kernel
theorem dX8_costOf_0 : decode cX8_costOf 0 = .ok (.iload_n 2, 1) := gX8_costOf_0.1
theorem dX8_costOf_1 : decode cX8_costOf 1 = .ok (.invokestatic 71, 3) := gX8_costOf_0.2.1
theorem dX8_costOf_4 : decode cX8_costOf 4 = .ok (.istore_n 3, 1) := gX8_costOf_0.2.2.1
theorem dX8_costOf_5 : decode cX8_costOf 5 = .ok (.iload_n 3, 1) := gX8_costOf_0.2.2.2.1
theorem dX8_costOf_6 : decode cX8_costOf 6 = .ok (.aload_n 0, 1) := gX8_costOf_0.2.2.2.2.1
theorem dX8_costOf_7 : decode cX8_costOf 7 = .ok (.getfield 11, 3) := gX8_costOf_0.2.2.2.2.2.1
theorem dX8_costOf_10 : decode cX8_costOf 10 = .ok (.iload_n 1, 1) := gX8_costOf_0.2.2.2.2.2.2.1
theorem dX8_costOf_11 : decode cX8_costOf 11 = .ok (.iaload, 1) := gX8_costOf_0.2.2.2.2.2.2.2.1
theorem dX8_costOf_12 : decode cX8_costOf 12 = .ok (.if_icmp .le 7, 3) := gX8_costOf_0.2.2.2.2.2.2.2.2.1
theorem dX8_costOf_15 : decode cX8_costOf 15 = .ok (.ldc2_w 46, 3) := gX8_costOf_0.2.2.2.2.2.2.2.2.2.1
theorem dX8_costOf_18 : decode cX8_costOf 18 = .ok (.lreturn, 1) := gX8_costOf_0.2.2.2.2.2.2.2.2.2.2.1
theorem dX8_costOf_19 : decode cX8_costOf 19 = .ok (.lconst 0, 1) := gX8_costOf_0.2.2.2.2.2.2.2.2.2.2.2
theorem gX8_costOf_12 : (decode cX8_costOf 20 = .ok (.lstore 4, 2)) ∧ (decode cX8_costOf 22 = .ok (.lconst 0, 1)) ∧ (decode cX8_costOf 23 = .ok (.lstore 6, 2)) ∧ (decode cX8_costOf 25 = .ok (.iconst 0, 1)) ∧ (decode cX8_costOf 26 = .ok (.istore 8, 2)) ∧ (decode cX8_costOf 28 = .ok (.iload 8, 2)) ∧ (decode cX8_costOf 30 = .ok (.bipush 6, 2)) ∧ (decode cX8_costOf 32 = .ok (.if_icmp .ge 81, 3)) ∧ (decode cX8_costOf 35 = .ok (.iload_n 2, 1)) ∧ (decode cX8_costOf 36 = .ok (.iload 8, 2)) ∧ (decode cX8_costOf 38 = .ok (.ishr, 1)) ∧ (decode cX8_costOf 39 = .ok (.iconst 1, 1)) := by decide +kernel
theorem dX8_costOf_20 : decode cX8_costOf 20 = .ok (.lstore 4, 2) := gX8_costOf_12.1
theorem dX8_costOf_22 : decode cX8_costOf 22 = .ok (.lconst 0, 1) := gX8_costOf_12.2.1
theorem dX8_costOf_23 : decode cX8_costOf 23 = .ok (.lstore 6, 2) := gX8_costOf_12.2.2.1
theorem dX8_costOf_25 : decode cX8_costOf 25 = .ok (.iconst 0, 1) := gX8_costOf_12.2.2.2.1
theorem dX8_costOf_26 : decode cX8_costOf 26 = .ok (.istore 8, 2) := gX8_costOf_12.2.2.2.2.1
theorem dX8_costOf_28 : decode cX8_costOf 28 = .ok (.iload 8, 2) := gX8_costOf_12.2.2.2.2.2.1
theorem dX8_costOf_30 : decode cX8_costOf 30 = .ok (.bipush 6, 2) := gX8_costOf_12.2.2.2.2.2.2.1
theorem dX8_costOf_32 : decode cX8_costOf 32 = .ok (.if_icmp .ge 81, 3) := gX8_costOf_12.2.2.2.2.2.2.2.1
theorem dX8_costOf_35 : decode cX8_costOf 35 = .ok (.iload_n 2, 1) := gX8_costOf_12.2.2.2.2.2.2.2.2.1
theorem dX8_costOf_36 : decode cX8_costOf 36 = .ok (.iload 8, 2) := gX8_costOf_12.2.2.2.2.2.2.2.2.2.1
theorem dX8_costOf_38 : decode cX8_costOf 38 = .ok (.ishr, 1) := gX8_costOf_12.2.2.2.2.2.2.2.2.2.2.1
theorem dX8_costOf_39 : decode cX8_costOf 39 = .ok (.iconst 1, 1) := gX8_costOf_12.2.2.2.2.2.2.2.2.2.2.2
theorem gX8_costOf_24 : (decode cX8_costOf 40 = .ok (.iand, 1)) ∧ (decode cX8_costOf 41 = .ok (.iconst 1, 1)) ∧ (decode cX8_costOf 42 = .ok (.if_icmp .ne 65, 3)) ∧ (decode cX8_costOf 45 = .ok (.iload_n 1, 1)) ∧ (decode cX8_costOf 46 = .ok (.iload 8, 2)) ∧ (decode cX8_costOf 48 = .ok (.invokestatic 42, 3)) ∧ (decode cX8_costOf 51 = .ok (.istore 9, 2)) ∧ (decode cX8_costOf 53 = .ok (.aload_n 0, 1)) ∧ (decode cX8_costOf 54 = .ok (.getfield 23, 3)) ∧ (decode cX8_costOf 57 = .ok (.iload 9, 2)) ∧ (decode cX8_costOf 59 = .ok (.iaload, 1)) ∧ (decode cX8_costOf 60 = .ok (.iconst (-1), 1)) := by decide +kernel
theorem dX8_costOf_40 : decode cX8_costOf 40 = .ok (.iand, 1) := gX8_costOf_24.1
theorem dX8_costOf_41 : decode cX8_costOf 41 = .ok (.iconst 1, 1) := gX8_costOf_24.2.1
theorem dX8_costOf_42 : decode cX8_costOf 42 = .ok (.if_icmp .ne 65, 3) := gX8_costOf_24.2.2.1
theorem dX8_costOf_45 : decode cX8_costOf 45 = .ok (.iload_n 1, 1) := gX8_costOf_24.2.2.2.1
theorem dX8_costOf_46 : decode cX8_costOf 46 = .ok (.iload 8, 2) := gX8_costOf_24.2.2.2.2.1
theorem dX8_costOf_48 : decode cX8_costOf 48 = .ok (.invokestatic 42, 3) := gX8_costOf_24.2.2.2.2.2.1
theorem dX8_costOf_51 : decode cX8_costOf 51 = .ok (.istore 9, 2) := gX8_costOf_24.2.2.2.2.2.2.1
theorem dX8_costOf_53 : decode cX8_costOf 53 = .ok (.aload_n 0, 1) := gX8_costOf_24.2.2.2.2.2.2.2.1
theorem dX8_costOf_54 : decode cX8_costOf 54 = .ok (.getfield 23, 3) := gX8_costOf_24.2.2.2.2.2.2.2.2.1
theorem dX8_costOf_57 : decode cX8_costOf 57 = .ok (.iload 9, 2) := gX8_costOf_24.2.2.2.2.2.2.2.2.2.1
theorem dX8_costOf_59 : decode cX8_costOf 59 = .ok (.iaload, 1) := gX8_costOf_24.2.2.2.2.2.2.2.2.2.2.1
theorem dX8_costOf_60 : decode cX8_costOf 60 = .ok (.iconst (-1), 1) := gX8_costOf_24.2.2.2.2.2.2.2.2.2.2.2
theorem gX8_costOf_36 : (decode cX8_costOf 61 = .ok (.if_icmp .ne 7, 3)) ∧ (decode cX8_costOf 64 = .ok (.ldc2_w 46, 3)) ∧ (decode cX8_costOf 67 = .ok (.lreturn, 1)) ∧ (decode cX8_costOf 68 = .ok (.lload 4, 2)) ∧ (decode cX8_costOf 70 = .ok (.aload_n 0, 1)) ∧ (decode cX8_costOf 71 = .ok (.getfield 26, 3)) ∧ (decode cX8_costOf 74 = .ok (.iload 9, 2)) ∧ (decode cX8_costOf 76 = .ok (.iaload, 1)) ∧ (decode cX8_costOf 77 = .ok (.i2l, 1)) ∧ (decode cX8_costOf 78 = .ok (.ladd, 1)) ∧ (decode cX8_costOf 79 = .ok (.lstore 4, 2)) ∧ (decode cX8_costOf 81 = .ok (.lload 6, 2)) := by decide +kernel
theorem dX8_costOf_61 : decode cX8_costOf 61 = .ok (.if_icmp .ne 7, 3) := gX8_costOf_36.1
theorem dX8_costOf_64 : decode cX8_costOf 64 = .ok (.ldc2_w 46, 3) := gX8_costOf_36.2.1
theorem dX8_costOf_67 : decode cX8_costOf 67 = .ok (.lreturn, 1) := gX8_costOf_36.2.2.1
theorem dX8_costOf_68 : decode cX8_costOf 68 = .ok (.lload 4, 2) := gX8_costOf_36.2.2.2.1
theorem dX8_costOf_70 : decode cX8_costOf 70 = .ok (.aload_n 0, 1) := gX8_costOf_36.2.2.2.2.1
theorem dX8_costOf_71 : decode cX8_costOf 71 = .ok (.getfield 26, 3) := gX8_costOf_36.2.2.2.2.2.1
theorem dX8_costOf_74 : decode cX8_costOf 74 = .ok (.iload 9, 2) := gX8_costOf_36.2.2.2.2.2.2.1
theorem dX8_costOf_76 : decode cX8_costOf 76 = .ok (.iaload, 1) := gX8_costOf_36.2.2.2.2.2.2.2.1
theorem dX8_costOf_77 : decode cX8_costOf 77 = .ok (.i2l, 1) := gX8_costOf_36.2.2.2.2.2.2.2.2.1
theorem dX8_costOf_78 : decode cX8_costOf 78 = .ok (.ladd, 1) := gX8_costOf_36.2.2.2.2.2.2.2.2.2.1
theorem dX8_costOf_79 : decode cX8_costOf 79 = .ok (.lstore 4, 2) := gX8_costOf_36.2.2.2.2.2.2.2.2.2.2.1
theorem dX8_costOf_81 : decode cX8_costOf 81 = .ok (.lload 6, 2) := gX8_costOf_36.2.2.2.2.2.2.2.2.2.2.2
theorem gX8_costOf_48 : (decode cX8_costOf 83 = .ok (.aload_n 0, 1)) ∧ (decode cX8_costOf 84 = .ok (.getfield 23, 3)) ∧ (decode cX8_costOf 87 = .ok (.iload 9, 2)) ∧ (decode cX8_costOf 89 = .ok (.iaload, 1)) ∧ (decode cX8_costOf 90 = .ok (.i2l, 1)) ∧ (decode cX8_costOf 91 = .ok (.bipush 20, 2)) ∧ (decode cX8_costOf 93 = .ok (.lshl, 1)) ∧ (decode cX8_costOf 94 = .ok (.iload_n 1, 1)) ∧ (decode cX8_costOf 95 = .ok (.getstatic 77, 3)) ∧ (decode cX8_costOf 98 = .ok (.iload 8, 2)) ∧ (decode cX8_costOf 100 = .ok (.iaload, 1)) ∧ (decode cX8_costOf 101 = .ok (.imul, 1)) := by decide +kernel
theorem dX8_costOf_83 : decode cX8_costOf 83 = .ok (.aload_n 0, 1) := gX8_costOf_48.1
theorem dX8_costOf_84 : decode cX8_costOf 84 = .ok (.getfield 23, 3) := gX8_costOf_48.2.1
theorem dX8_costOf_87 : decode cX8_costOf 87 = .ok (.iload 9, 2) := gX8_costOf_48.2.2.1
theorem dX8_costOf_89 : decode cX8_costOf 89 = .ok (.iaload, 1) := gX8_costOf_48.2.2.2.1
theorem dX8_costOf_90 : decode cX8_costOf 90 = .ok (.i2l, 1) := gX8_costOf_48.2.2.2.2.1
theorem dX8_costOf_91 : decode cX8_costOf 91 = .ok (.bipush 20, 2) := gX8_costOf_48.2.2.2.2.2.1
theorem dX8_costOf_93 : decode cX8_costOf 93 = .ok (.lshl, 1) := gX8_costOf_48.2.2.2.2.2.2.1
theorem dX8_costOf_94 : decode cX8_costOf 94 = .ok (.iload_n 1, 1) := gX8_costOf_48.2.2.2.2.2.2.2.1
theorem dX8_costOf_95 : decode cX8_costOf 95 = .ok (.getstatic 77, 3) := gX8_costOf_48.2.2.2.2.2.2.2.2.1
theorem dX8_costOf_98 : decode cX8_costOf 98 = .ok (.iload 8, 2) := gX8_costOf_48.2.2.2.2.2.2.2.2.2.1
theorem dX8_costOf_100 : decode cX8_costOf 100 = .ok (.iaload, 1) := gX8_costOf_48.2.2.2.2.2.2.2.2.2.2.1
theorem dX8_costOf_101 : decode cX8_costOf 101 = .ok (.imul, 1) := gX8_costOf_48.2.2.2.2.2.2.2.2.2.2.2
theorem gX8_costOf_60 : (decode cX8_costOf 102 = .ok (.i2l, 1)) ∧ (decode cX8_costOf 103 = .ok (.ladd, 1)) ∧ (decode cX8_costOf 104 = .ok (.ladd, 1)) ∧ (decode cX8_costOf 105 = .ok (.lstore 6, 2)) ∧ (decode cX8_costOf 107 = .ok (.iinc 8 1, 3)) ∧ (decode cX8_costOf 110 = .ok (.goto (-82), 3)) ∧ (decode cX8_costOf 113 = .ok (.lload 4, 2)) ∧ (decode cX8_costOf 115 = .ok (.bipush 100, 2)) ∧ (decode cX8_costOf 117 = .ok (.aload_n 0, 1)) ∧ (decode cX8_costOf 118 = .ok (.getfield 20, 3)) ∧ (decode cX8_costOf 121 = .ok (.iload_n 1, 1)) ∧ (decode cX8_costOf 122 = .ok (.bipush 7, 2)) := by decide +kernel
theorem dX8_costOf_102 : decode cX8_costOf 102 = .ok (.i2l, 1) := gX8_costOf_60.1
theorem dX8_costOf_103 : decode cX8_costOf 103 = .ok (.ladd, 1) := gX8_costOf_60.2.1
theorem dX8_costOf_104 : decode cX8_costOf 104 = .ok (.ladd, 1) := gX8_costOf_60.2.2.1
theorem dX8_costOf_105 : decode cX8_costOf 105 = .ok (.lstore 6, 2) := gX8_costOf_60.2.2.2.1
theorem dX8_costOf_107 : decode cX8_costOf 107 = .ok (.iinc 8 1, 3) := gX8_costOf_60.2.2.2.2.1
theorem dX8_costOf_110 : decode cX8_costOf 110 = .ok (.goto (-82), 3) := gX8_costOf_60.2.2.2.2.2.1
theorem dX8_costOf_113 : decode cX8_costOf 113 = .ok (.lload 4, 2) := gX8_costOf_60.2.2.2.2.2.2.1
theorem dX8_costOf_115 : decode cX8_costOf 115 = .ok (.bipush 100, 2) := gX8_costOf_60.2.2.2.2.2.2.2.1
theorem dX8_costOf_117 : decode cX8_costOf 117 = .ok (.aload_n 0, 1) := gX8_costOf_60.2.2.2.2.2.2.2.2.1
theorem dX8_costOf_118 : decode cX8_costOf 118 = .ok (.getfield 20, 3) := gX8_costOf_60.2.2.2.2.2.2.2.2.2.1
theorem dX8_costOf_121 : decode cX8_costOf 121 = .ok (.iload_n 1, 1) := gX8_costOf_60.2.2.2.2.2.2.2.2.2.2.1
theorem dX8_costOf_122 : decode cX8_costOf 122 = .ok (.bipush 7, 2) := gX8_costOf_60.2.2.2.2.2.2.2.2.2.2.2
theorem gX8_costOf_72 : (decode cX8_costOf 124 = .ok (.imul, 1)) ∧ (decode cX8_costOf 125 = .ok (.iload_n 3, 1)) ∧ (decode cX8_costOf 126 = .ok (.iadd, 1)) ∧ (decode cX8_costOf 127 = .ok (.iaload, 1)) ∧ (decode cX8_costOf 128 = .ok (.isub, 1)) ∧ (decode cX8_costOf 129 = .ok (.i2l, 1)) ∧ (decode cX8_costOf 130 = .ok (.lmul, 1)) ∧ (decode cX8_costOf 131 = .ok (.lstore 8, 2)) ∧ (decode cX8_costOf 133 = .ok (.lload 6, 2)) ∧ (decode cX8_costOf 135 = .ok (.lload 8, 2)) ∧ (decode cX8_costOf 137 = .ok (.ldc2_w 80, 3)) ∧ (decode cX8_costOf 140 = .ok (.ladd, 1)) := by decide +kernel
theorem dX8_costOf_124 : decode cX8_costOf 124 = .ok (.imul, 1) := gX8_costOf_72.1
theorem dX8_costOf_125 : decode cX8_costOf 125 = .ok (.iload_n 3, 1) := gX8_costOf_72.2.1
theorem dX8_costOf_126 : decode cX8_costOf 126 = .ok (.iadd, 1) := gX8_costOf_72.2.2.1
theorem dX8_costOf_127 : decode cX8_costOf 127 = .ok (.iaload, 1) := gX8_costOf_72.2.2.2.1
theorem dX8_costOf_128 : decode cX8_costOf 128 = .ok (.isub, 1) := gX8_costOf_72.2.2.2.2.1
theorem dX8_costOf_129 : decode cX8_costOf 129 = .ok (.i2l, 1) := gX8_costOf_72.2.2.2.2.2.1
theorem dX8_costOf_130 : decode cX8_costOf 130 = .ok (.lmul, 1) := gX8_costOf_72.2.2.2.2.2.2.1
theorem dX8_costOf_131 : decode cX8_costOf 131 = .ok (.lstore 8, 2) := gX8_costOf_72.2.2.2.2.2.2.2.1
theorem dX8_costOf_133 : decode cX8_costOf 133 = .ok (.lload 6, 2) := gX8_costOf_72.2.2.2.2.2.2.2.2.1
theorem dX8_costOf_135 : decode cX8_costOf 135 = .ok (.lload 8, 2) := gX8_costOf_72.2.2.2.2.2.2.2.2.2.1
theorem dX8_costOf_137 : decode cX8_costOf 137 = .ok (.ldc2_w 80, 3) := gX8_costOf_72.2.2.2.2.2.2.2.2.2.2.1
theorem dX8_costOf_140 : decode cX8_costOf 140 = .ok (.ladd, 1) := gX8_costOf_72.2.2.2.2.2.2.2.2.2.2.2
theorem gX8_costOf_84 : (decode cX8_costOf 141 = .ok (.ldc2_w 82, 3)) ∧ (decode cX8_costOf 144 = .ok (.ldiv, 1)) ∧ (decode cX8_costOf 145 = .ok (.bipush 26, 2)) ∧ (decode cX8_costOf 147 = .ok (.lshl, 1)) ∧ (decode cX8_costOf 148 = .ok (.ladd, 1)) ∧ (decode cX8_costOf 149 = .ok (.lreturn, 1)) := by decide +kernel
theorem dX8_costOf_141 : decode cX8_costOf 141 = .ok (.ldc2_w 82, 3) := gX8_costOf_84.1
theorem dX8_costOf_144 : decode cX8_costOf 144 = .ok (.ldiv, 1) := gX8_costOf_84.2.1
theorem dX8_costOf_145 : decode cX8_costOf 145 = .ok (.bipush 26, 2) := gX8_costOf_84.2.2.1
theorem dX8_costOf_147 : decode cX8_costOf 147 = .ok (.lshl, 1) := gX8_costOf_84.2.2.2.1
theorem dX8_costOf_148 : decode cX8_costOf 148 = .ok (.ladd, 1) := gX8_costOf_84.2.2.2.2.1
theorem dX8_costOf_149 : decode cX8_costOf 149 = .ok (.lreturn, 1) := gX8_costOf_84.2.2.2.2.2
theorem gX8_costOfRest_0 : (decode cX8_costOfRest 0 = .ok (.lconst 0, 1)) ∧ (decode cX8_costOfRest 1 = .ok (.lstore_n 2, 1)) ∧ (decode cX8_costOfRest 2 = .ok (.iconst 0, 1)) ∧ (decode cX8_costOfRest 3 = .ok (.istore 4, 2)) ∧ (decode cX8_costOfRest 5 = .ok (.iload 4, 2)) ∧ (decode cX8_costOfRest 7 = .ok (.bipush 6, 2)) ∧ (decode cX8_costOfRest 9 = .ok (.if_icmp .ge 41, 3)) ∧ (decode cX8_costOfRest 12 = .ok (.iload 4, 2)) ∧ (decode cX8_costOfRest 14 = .ok (.iload_n 1, 1)) ∧ (decode cX8_costOfRest 15 = .ok (.if_icmp .ge 35, 3)) ∧ (decode cX8_costOfRest 18 = .ok (.iload_n 0, 1)) ∧ (decode cX8_costOfRest 19 = .ok (.iload 4, 2)) := by decide +kernel
theorem dX8_costOfRest_0 : decode cX8_costOfRest 0 = .ok (.lconst 0, 1) := gX8_costOfRest_0.1
theorem dX8_costOfRest_1 : decode cX8_costOfRest 1 = .ok (.lstore_n 2, 1) := gX8_costOfRest_0.2.1
theorem dX8_costOfRest_2 : decode cX8_costOfRest 2 = .ok (.iconst 0, 1) := gX8_costOfRest_0.2.2.1
theorem dX8_costOfRest_3 : decode cX8_costOfRest 3 = .ok (.istore 4, 2) := gX8_costOfRest_0.2.2.2.1
theorem dX8_costOfRest_5 : decode cX8_costOfRest 5 = .ok (.iload 4, 2) := gX8_costOfRest_0.2.2.2.2.1
theorem dX8_costOfRest_7 : decode cX8_costOfRest 7 = .ok (.bipush 6, 2) := gX8_costOfRest_0.2.2.2.2.2.1
theorem dX8_costOfRest_9 : decode cX8_costOfRest 9 = .ok (.if_icmp .ge 41, 3) := gX8_costOfRest_0.2.2.2.2.2.2.1
theorem dX8_costOfRest_12 : decode cX8_costOfRest 12 = .ok (.iload 4, 2) := gX8_costOfRest_0.2.2.2.2.2.2.2.1
theorem dX8_costOfRest_14 : decode cX8_costOfRest 14 = .ok (.iload_n 1, 1) := gX8_costOfRest_0.2.2.2.2.2.2.2.2.1
theorem dX8_costOfRest_15 : decode cX8_costOfRest 15 = .ok (.if_icmp .ge 35, 3) := gX8_costOfRest_0.2.2.2.2.2.2.2.2.2.1
theorem dX8_costOfRest_18 : decode cX8_costOfRest 18 = .ok (.iload_n 0, 1) := gX8_costOfRest_0.2.2.2.2.2.2.2.2.2.2.1
theorem dX8_costOfRest_19 : decode cX8_costOfRest 19 = .ok (.iload 4, 2) := gX8_costOfRest_0.2.2.2.2.2.2.2.2.2.2.2
theorem gX8_costOfRest_12 : (decode cX8_costOfRest 21 = .ok (.ishr, 1)) ∧ (decode cX8_costOfRest 22 = .ok (.iconst 1, 1)) ∧ (decode cX8_costOfRest 23 = .ok (.iand, 1)) ∧ (decode cX8_costOfRest 24 = .ok (.ifCond .ne 20, 3)) ∧ (decode cX8_costOfRest 27 = .ok (.lload_n 2, 1)) ∧ (decode cX8_costOfRest 28 = .ok (.ldc2_w 84, 3)) ∧ (decode cX8_costOfRest 31 = .ok (.bipush 8, 2)) ∧ (decode cX8_costOfRest 33 = .ok (.getstatic 77, 3)) ∧ (decode cX8_costOfRest 36 = .ok (.iload 4, 2)) ∧ (decode cX8_costOfRest 38 = .ok (.iaload, 1)) ∧ (decode cX8_costOfRest 39 = .ok (.imul, 1)) ∧ (decode cX8_costOfRest 40 = .ok (.i2l, 1)) := by decide +kernel
theorem dX8_costOfRest_21 : decode cX8_costOfRest 21 = .ok (.ishr, 1) := gX8_costOfRest_12.1
theorem dX8_costOfRest_22 : decode cX8_costOfRest 22 = .ok (.iconst 1, 1) := gX8_costOfRest_12.2.1
theorem dX8_costOfRest_23 : decode cX8_costOfRest 23 = .ok (.iand, 1) := gX8_costOfRest_12.2.2.1
theorem dX8_costOfRest_24 : decode cX8_costOfRest 24 = .ok (.ifCond .ne 20, 3) := gX8_costOfRest_12.2.2.2.1
theorem dX8_costOfRest_27 : decode cX8_costOfRest 27 = .ok (.lload_n 2, 1) := gX8_costOfRest_12.2.2.2.2.1
theorem dX8_costOfRest_28 : decode cX8_costOfRest 28 = .ok (.ldc2_w 84, 3) := gX8_costOfRest_12.2.2.2.2.2.1
theorem dX8_costOfRest_31 : decode cX8_costOfRest 31 = .ok (.bipush 8, 2) := gX8_costOfRest_12.2.2.2.2.2.2.1
theorem dX8_costOfRest_33 : decode cX8_costOfRest 33 = .ok (.getstatic 77, 3) := gX8_costOfRest_12.2.2.2.2.2.2.2.1
theorem dX8_costOfRest_36 : decode cX8_costOfRest 36 = .ok (.iload 4, 2) := gX8_costOfRest_12.2.2.2.2.2.2.2.2.1
theorem dX8_costOfRest_38 : decode cX8_costOfRest 38 = .ok (.iaload, 1) := gX8_costOfRest_12.2.2.2.2.2.2.2.2.2.1
theorem dX8_costOfRest_39 : decode cX8_costOfRest 39 = .ok (.imul, 1) := gX8_costOfRest_12.2.2.2.2.2.2.2.2.2.2.1
theorem dX8_costOfRest_40 : decode cX8_costOfRest 40 = .ok (.i2l, 1) := gX8_costOfRest_12.2.2.2.2.2.2.2.2.2.2.2
theorem gX8_costOfRest_24 : (decode cX8_costOfRest 41 = .ok (.ladd, 1)) ∧ (decode cX8_costOfRest 42 = .ok (.ladd, 1)) ∧ (decode cX8_costOfRest 43 = .ok (.lstore_n 2, 1)) ∧ (decode cX8_costOfRest 44 = .ok (.iinc 4 1, 3)) ∧ (decode cX8_costOfRest 47 = .ok (.goto (-42), 3)) ∧ (decode cX8_costOfRest 50 = .ok (.lload_n 2, 1)) ∧ (decode cX8_costOfRest 51 = .ok (.lreturn, 1)) := by decide +kernel
theorem dX8_costOfRest_41 : decode cX8_costOfRest 41 = .ok (.ladd, 1) := gX8_costOfRest_24.1
theorem dX8_costOfRest_42 : decode cX8_costOfRest 42 = .ok (.ladd, 1) := gX8_costOfRest_24.2.1
theorem dX8_costOfRest_43 : decode cX8_costOfRest 43 = .ok (.lstore_n 2, 1) := gX8_costOfRest_24.2.2.1
theorem dX8_costOfRest_44 : decode cX8_costOfRest 44 = .ok (.iinc 4 1, 3) := gX8_costOfRest_24.2.2.2.1
theorem dX8_costOfRest_47 : decode cX8_costOfRest 47 = .ok (.goto (-42), 3) := gX8_costOfRest_24.2.2.2.2.1
theorem dX8_costOfRest_50 : decode cX8_costOfRest 50 = .ok (.lload_n 2, 1) := gX8_costOfRest_24.2.2.2.2.2.1
theorem dX8_costOfRest_51 : decode cX8_costOfRest 51 = .ok (.lreturn, 1) := gX8_costOfRest_24.2.2.2.2.2.2
theorem gX8_addBidder_0 : (decode cX8_addBidder 0 = .ok (.bipush 63, 2)) ∧ (decode cX8_addBidder 2 = .ok (.istore_n 1, 1)) ∧ (decode cX8_addBidder 3 = .ok (.iload_n 1, 1)) ∧ (decode cX8_addBidder 4 = .ok (.ifCond .le 77, 3)) ∧ (decode cX8_addBidder 7 = .ok (.iload_n 1, 1)) ∧ (decode cX8_addBidder 8 = .ok (.istore_n 2, 1)) ∧ (decode cX8_addBidder 9 = .ok (.iload_n 2, 1)) ∧ (decode cX8_addBidder 10 = .ok (.ifCond .le 65, 3)) ∧ (decode cX8_addBidder 13 = .ok (.aload_n 0, 1)) ∧ (decode cX8_addBidder 14 = .ok (.getfield 29, 3)) ∧ (decode cX8_addBidder 17 = .ok (.iload_n 1, 1)) ∧ (decode cX8_addBidder 18 = .ok (.iload_n 2, 1)) := by decide +kernel
theorem dX8_addBidder_0 : decode cX8_addBidder 0 = .ok (.bipush 63, 2) := gX8_addBidder_0.1
theorem dX8_addBidder_2 : decode cX8_addBidder 2 = .ok (.istore_n 1, 1) := gX8_addBidder_0.2.1
theorem dX8_addBidder_3 : decode cX8_addBidder 3 = .ok (.iload_n 1, 1) := gX8_addBidder_0.2.2.1
theorem dX8_addBidder_4 : decode cX8_addBidder 4 = .ok (.ifCond .le 77, 3) := gX8_addBidder_0.2.2.2.1
theorem dX8_addBidder_7 : decode cX8_addBidder 7 = .ok (.iload_n 1, 1) := gX8_addBidder_0.2.2.2.2.1
theorem dX8_addBidder_8 : decode cX8_addBidder 8 = .ok (.istore_n 2, 1) := gX8_addBidder_0.2.2.2.2.2.1
theorem dX8_addBidder_9 : decode cX8_addBidder 9 = .ok (.iload_n 2, 1) := gX8_addBidder_0.2.2.2.2.2.2.1
theorem dX8_addBidder_10 : decode cX8_addBidder 10 = .ok (.ifCond .le 65, 3) := gX8_addBidder_0.2.2.2.2.2.2.2.1
theorem dX8_addBidder_13 : decode cX8_addBidder 13 = .ok (.aload_n 0, 1) := gX8_addBidder_0.2.2.2.2.2.2.2.2.1
theorem dX8_addBidder_14 : decode cX8_addBidder 14 = .ok (.getfield 29, 3) := gX8_addBidder_0.2.2.2.2.2.2.2.2.2.1
theorem dX8_addBidder_17 : decode cX8_addBidder 17 = .ok (.iload_n 1, 1) := gX8_addBidder_0.2.2.2.2.2.2.2.2.2.2.1
theorem dX8_addBidder_18 : decode cX8_addBidder 18 = .ok (.iload_n 2, 1) := gX8_addBidder_0.2.2.2.2.2.2.2.2.2.2.2
theorem gX8_addBidder_12 : (decode cX8_addBidder 19 = .ok (.isub, 1)) ∧ (decode cX8_addBidder 20 = .ok (.laload, 1)) ∧ (decode cX8_addBidder 21 = .ok (.lstore_n 3, 1)) ∧ (decode cX8_addBidder 22 = .ok (.aload_n 0, 1)) ∧ (decode cX8_addBidder 23 = .ok (.getfield 33, 3)) ∧ (decode cX8_addBidder 26 = .ok (.iload_n 2, 1)) ∧ (decode cX8_addBidder 27 = .ok (.laload, 1)) ∧ (decode cX8_addBidder 28 = .ok (.ldc2_w 46, 3)) ∧ (decode cX8_addBidder 31 = .ok (.lcmp, 1)) ∧ (decode cX8_addBidder 32 = .ok (.ifCond .eq 34, 3)) ∧ (decode cX8_addBidder 35 = .ok (.lload_n 3, 1)) ∧ (decode cX8_addBidder 36 = .ok (.ldc2_w 46, 3)) := by decide +kernel
theorem dX8_addBidder_19 : decode cX8_addBidder 19 = .ok (.isub, 1) := gX8_addBidder_12.1
theorem dX8_addBidder_20 : decode cX8_addBidder 20 = .ok (.laload, 1) := gX8_addBidder_12.2.1
theorem dX8_addBidder_21 : decode cX8_addBidder 21 = .ok (.lstore_n 3, 1) := gX8_addBidder_12.2.2.1
theorem dX8_addBidder_22 : decode cX8_addBidder 22 = .ok (.aload_n 0, 1) := gX8_addBidder_12.2.2.2.1
theorem dX8_addBidder_23 : decode cX8_addBidder 23 = .ok (.getfield 33, 3) := gX8_addBidder_12.2.2.2.2.1
theorem dX8_addBidder_26 : decode cX8_addBidder 26 = .ok (.iload_n 2, 1) := gX8_addBidder_12.2.2.2.2.2.1
theorem dX8_addBidder_27 : decode cX8_addBidder 27 = .ok (.laload, 1) := gX8_addBidder_12.2.2.2.2.2.2.1
theorem dX8_addBidder_28 : decode cX8_addBidder 28 = .ok (.ldc2_w 46, 3) := gX8_addBidder_12.2.2.2.2.2.2.2.1
theorem dX8_addBidder_31 : decode cX8_addBidder 31 = .ok (.lcmp, 1) := gX8_addBidder_12.2.2.2.2.2.2.2.2.1
theorem dX8_addBidder_32 : decode cX8_addBidder 32 = .ok (.ifCond .eq 34, 3) := gX8_addBidder_12.2.2.2.2.2.2.2.2.2.1
theorem dX8_addBidder_35 : decode cX8_addBidder 35 = .ok (.lload_n 3, 1) := gX8_addBidder_12.2.2.2.2.2.2.2.2.2.2.1
theorem dX8_addBidder_36 : decode cX8_addBidder 36 = .ok (.ldc2_w 46, 3) := gX8_addBidder_12.2.2.2.2.2.2.2.2.2.2.2
theorem gX8_addBidder_24 : (decode cX8_addBidder 39 = .ok (.lcmp, 1)) ∧ (decode cX8_addBidder 40 = .ok (.ifCond .eq 26, 3)) ∧ (decode cX8_addBidder 43 = .ok (.aload_n 0, 1)) ∧ (decode cX8_addBidder 44 = .ok (.getfield 29, 3)) ∧ (decode cX8_addBidder 47 = .ok (.iload_n 1, 1)) ∧ (decode cX8_addBidder 48 = .ok (.aload_n 0, 1)) ∧ (decode cX8_addBidder 49 = .ok (.getfield 29, 3)) ∧ (decode cX8_addBidder 52 = .ok (.iload_n 1, 1)) ∧ (decode cX8_addBidder 53 = .ok (.laload, 1)) ∧ (decode cX8_addBidder 54 = .ok (.lload_n 3, 1)) ∧ (decode cX8_addBidder 55 = .ok (.aload_n 0, 1)) ∧ (decode cX8_addBidder 56 = .ok (.getfield 33, 3)) := by decide +kernel
theorem dX8_addBidder_39 : decode cX8_addBidder 39 = .ok (.lcmp, 1) := gX8_addBidder_24.1
theorem dX8_addBidder_40 : decode cX8_addBidder 40 = .ok (.ifCond .eq 26, 3) := gX8_addBidder_24.2.1
theorem dX8_addBidder_43 : decode cX8_addBidder 43 = .ok (.aload_n 0, 1) := gX8_addBidder_24.2.2.1
theorem dX8_addBidder_44 : decode cX8_addBidder 44 = .ok (.getfield 29, 3) := gX8_addBidder_24.2.2.2.1
theorem dX8_addBidder_47 : decode cX8_addBidder 47 = .ok (.iload_n 1, 1) := gX8_addBidder_24.2.2.2.2.1
theorem dX8_addBidder_48 : decode cX8_addBidder 48 = .ok (.aload_n 0, 1) := gX8_addBidder_24.2.2.2.2.2.1
theorem dX8_addBidder_49 : decode cX8_addBidder 49 = .ok (.getfield 29, 3) := gX8_addBidder_24.2.2.2.2.2.2.1
theorem dX8_addBidder_52 : decode cX8_addBidder 52 = .ok (.iload_n 1, 1) := gX8_addBidder_24.2.2.2.2.2.2.2.1
theorem dX8_addBidder_53 : decode cX8_addBidder 53 = .ok (.laload, 1) := gX8_addBidder_24.2.2.2.2.2.2.2.2.1
theorem dX8_addBidder_54 : decode cX8_addBidder 54 = .ok (.lload_n 3, 1) := gX8_addBidder_24.2.2.2.2.2.2.2.2.2.1
theorem dX8_addBidder_55 : decode cX8_addBidder 55 = .ok (.aload_n 0, 1) := gX8_addBidder_24.2.2.2.2.2.2.2.2.2.2.1
theorem dX8_addBidder_56 : decode cX8_addBidder 56 = .ok (.getfield 33, 3) := gX8_addBidder_24.2.2.2.2.2.2.2.2.2.2.2
theorem gX8_addBidder_36 : (decode cX8_addBidder 59 = .ok (.iload_n 2, 1)) ∧ (decode cX8_addBidder 60 = .ok (.laload, 1)) ∧ (decode cX8_addBidder 61 = .ok (.ladd, 1)) ∧ (decode cX8_addBidder 62 = .ok (.invokestatic 61, 3)) ∧ (decode cX8_addBidder 65 = .ok (.lastore, 1)) ∧ (decode cX8_addBidder 66 = .ok (.iload_n 2, 1)) ∧ (decode cX8_addBidder 67 = .ok (.iconst 1, 1)) ∧ (decode cX8_addBidder 68 = .ok (.isub, 1)) ∧ (decode cX8_addBidder 69 = .ok (.iload_n 1, 1)) ∧ (decode cX8_addBidder 70 = .ok (.iand, 1)) ∧ (decode cX8_addBidder 71 = .ok (.istore_n 2, 1)) ∧ (decode cX8_addBidder 72 = .ok (.goto (-63), 3)) := by decide +kernel
theorem dX8_addBidder_59 : decode cX8_addBidder 59 = .ok (.iload_n 2, 1) := gX8_addBidder_36.1
theorem dX8_addBidder_60 : decode cX8_addBidder 60 = .ok (.laload, 1) := gX8_addBidder_36.2.1
theorem dX8_addBidder_61 : decode cX8_addBidder 61 = .ok (.ladd, 1) := gX8_addBidder_36.2.2.1
theorem dX8_addBidder_62 : decode cX8_addBidder 62 = .ok (.invokestatic 61, 3) := gX8_addBidder_36.2.2.2.1
theorem dX8_addBidder_65 : decode cX8_addBidder 65 = .ok (.lastore, 1) := gX8_addBidder_36.2.2.2.2.1
theorem dX8_addBidder_66 : decode cX8_addBidder 66 = .ok (.iload_n 2, 1) := gX8_addBidder_36.2.2.2.2.2.1
theorem dX8_addBidder_67 : decode cX8_addBidder 67 = .ok (.iconst 1, 1) := gX8_addBidder_36.2.2.2.2.2.2.1
theorem dX8_addBidder_68 : decode cX8_addBidder 68 = .ok (.isub, 1) := gX8_addBidder_36.2.2.2.2.2.2.2.1
theorem dX8_addBidder_69 : decode cX8_addBidder 69 = .ok (.iload_n 1, 1) := gX8_addBidder_36.2.2.2.2.2.2.2.2.1
theorem dX8_addBidder_70 : decode cX8_addBidder 70 = .ok (.iand, 1) := gX8_addBidder_36.2.2.2.2.2.2.2.2.2.1
theorem dX8_addBidder_71 : decode cX8_addBidder 71 = .ok (.istore_n 2, 1) := gX8_addBidder_36.2.2.2.2.2.2.2.2.2.2.1
theorem dX8_addBidder_72 : decode cX8_addBidder 72 = .ok (.goto (-63), 3) := gX8_addBidder_36.2.2.2.2.2.2.2.2.2.2.2
theorem gX8_addBidder_48 : (decode cX8_addBidder 75 = .ok (.iinc 1 (-1), 3)) ∧ (decode cX8_addBidder 78 = .ok (.goto (-75), 3)) ∧ (decode cX8_addBidder 81 = .ok (.return_, 1)) := by decide +kernel
theorem dX8_addBidder_75 : decode cX8_addBidder 75 = .ok (.iinc 1 (-1), 3) := gX8_addBidder_48.1
theorem dX8_addBidder_78 : decode cX8_addBidder 78 = .ok (.goto (-75), 3) := gX8_addBidder_48.2.1
theorem dX8_addBidder_81 : decode cX8_addBidder 81 = .ok (.return_, 1) := gX8_addBidder_48.2.2
theorem gX8_keep_0 : (decode cX8_keep 0 = .ok (.aload_n 0, 1)) ∧ (decode cX8_keep 1 = .ok (.iload_n 3, 1)) ∧ (decode cX8_keep 2 = .ok (.lload_n 1, 1)) ∧ (decode cX8_keep 3 = .ok (.bipush 56, 2)) ∧ (decode cX8_keep 5 = .ok (.lshr, 1)) ∧ (decode cX8_keep 6 = .ok (.l2i, 1)) ∧ (decode cX8_keep 7 = .ok (.isub, 1)) ∧ (decode cX8_keep 8 = .ok (.putfield 86, 3)) ∧ (decode cX8_keep 11 = .ok (.aload_n 0, 1)) ∧ (decode cX8_keep 12 = .ok (.lload_n 1, 1)) ∧ (decode cX8_keep 13 = .ok (.bipush 26, 2)) ∧ (decode cX8_keep 15 = .ok (.lshr, 1)) := by decide +kernel
theorem dX8_keep_0 : decode cX8_keep 0 = .ok (.aload_n 0, 1) := gX8_keep_0.1
theorem dX8_keep_1 : decode cX8_keep 1 = .ok (.iload_n 3, 1) := gX8_keep_0.2.1
theorem dX8_keep_2 : decode cX8_keep 2 = .ok (.lload_n 1, 1) := gX8_keep_0.2.2.1
theorem dX8_keep_3 : decode cX8_keep 3 = .ok (.bipush 56, 2) := gX8_keep_0.2.2.2.1
theorem dX8_keep_5 : decode cX8_keep 5 = .ok (.lshr, 1) := gX8_keep_0.2.2.2.2.1
theorem dX8_keep_6 : decode cX8_keep 6 = .ok (.l2i, 1) := gX8_keep_0.2.2.2.2.2.1
theorem dX8_keep_7 : decode cX8_keep 7 = .ok (.isub, 1) := gX8_keep_0.2.2.2.2.2.2.1
theorem dX8_keep_8 : decode cX8_keep 8 = .ok (.putfield 86, 3) := gX8_keep_0.2.2.2.2.2.2.2.1
theorem dX8_keep_11 : decode cX8_keep 11 = .ok (.aload_n 0, 1) := gX8_keep_0.2.2.2.2.2.2.2.2.1
theorem dX8_keep_12 : decode cX8_keep 12 = .ok (.lload_n 1, 1) := gX8_keep_0.2.2.2.2.2.2.2.2.2.1
theorem dX8_keep_13 : decode cX8_keep 13 = .ok (.bipush 26, 2) := gX8_keep_0.2.2.2.2.2.2.2.2.2.2.1
theorem dX8_keep_15 : decode cX8_keep 15 = .ok (.lshr, 1) := gX8_keep_0.2.2.2.2.2.2.2.2.2.2.2
theorem gX8_keep_12 : (decode cX8_keep 16 = .ok (.ldc2_w 90, 3)) ∧ (decode cX8_keep 19 = .ok (.land, 1)) ∧ (decode cX8_keep 20 = .ok (.l2i, 1)) ∧ (decode cX8_keep 21 = .ok (.putfield 92, 3)) ∧ (decode cX8_keep 24 = .ok (.lload_n 1, 1)) ∧ (decode cX8_keep 25 = .ok (.ldc2_w 95, 3)) ∧ (decode cX8_keep 28 = .ok (.land, 1)) ∧ (decode cX8_keep 29 = .ok (.l2i, 1)) ∧ (decode cX8_keep 30 = .ok (.istore 4, 2)) ∧ (decode cX8_keep 32 = .ok (.iconst 5, 1)) ∧ (decode cX8_keep 33 = .ok (.istore 5, 2)) ∧ (decode cX8_keep 35 = .ok (.iload 5, 2)) := by decide +kernel
theorem dX8_keep_16 : decode cX8_keep 16 = .ok (.ldc2_w 90, 3) := gX8_keep_12.1
theorem dX8_keep_19 : decode cX8_keep 19 = .ok (.land, 1) := gX8_keep_12.2.1
theorem dX8_keep_20 : decode cX8_keep 20 = .ok (.l2i, 1) := gX8_keep_12.2.2.1
theorem dX8_keep_21 : decode cX8_keep 21 = .ok (.putfield 92, 3) := gX8_keep_12.2.2.2.1
theorem dX8_keep_24 : decode cX8_keep 24 = .ok (.lload_n 1, 1) := gX8_keep_12.2.2.2.2.1
theorem dX8_keep_25 : decode cX8_keep 25 = .ok (.ldc2_w 95, 3) := gX8_keep_12.2.2.2.2.2.1
theorem dX8_keep_28 : decode cX8_keep 28 = .ok (.land, 1) := gX8_keep_12.2.2.2.2.2.2.1
theorem dX8_keep_29 : decode cX8_keep 29 = .ok (.l2i, 1) := gX8_keep_12.2.2.2.2.2.2.2.1
theorem dX8_keep_30 : decode cX8_keep 30 = .ok (.istore 4, 2) := gX8_keep_12.2.2.2.2.2.2.2.2.1
theorem dX8_keep_32 : decode cX8_keep 32 = .ok (.iconst 5, 1) := gX8_keep_12.2.2.2.2.2.2.2.2.2.1
theorem dX8_keep_33 : decode cX8_keep 33 = .ok (.istore 5, 2) := gX8_keep_12.2.2.2.2.2.2.2.2.2.2.1
theorem dX8_keep_35 : decode cX8_keep 35 = .ok (.iload 5, 2) := gX8_keep_12.2.2.2.2.2.2.2.2.2.2.2
theorem gX8_keep_24 : (decode cX8_keep 37 = .ok (.ifCond .lt 50, 3)) ∧ (decode cX8_keep 40 = .ok (.iload 4, 2)) ∧ (decode cX8_keep 42 = .ok (.bipush 9, 2)) ∧ (decode cX8_keep 44 = .ok (.irem, 1)) ∧ (decode cX8_keep 45 = .ok (.istore 6, 2)) ∧ (decode cX8_keep 47 = .ok (.iload 4, 2)) ∧ (decode cX8_keep 49 = .ok (.bipush 9, 2)) ∧ (decode cX8_keep 51 = .ok (.idiv, 1)) ∧ (decode cX8_keep 52 = .ok (.istore 4, 2)) ∧ (decode cX8_keep 54 = .ok (.aload_n 0, 1)) ∧ (decode cX8_keep 55 = .ok (.getfield 17, 3)) ∧ (decode cX8_keep 58 = .ok (.iload 5, 2)) := by decide +kernel
theorem dX8_keep_37 : decode cX8_keep 37 = .ok (.ifCond .lt 50, 3) := gX8_keep_24.1
theorem dX8_keep_40 : decode cX8_keep 40 = .ok (.iload 4, 2) := gX8_keep_24.2.1
theorem dX8_keep_42 : decode cX8_keep 42 = .ok (.bipush 9, 2) := gX8_keep_24.2.2.1
theorem dX8_keep_44 : decode cX8_keep 44 = .ok (.irem, 1) := gX8_keep_24.2.2.2.1
theorem dX8_keep_45 : decode cX8_keep 45 = .ok (.istore 6, 2) := gX8_keep_24.2.2.2.2.1
theorem dX8_keep_47 : decode cX8_keep 47 = .ok (.iload 4, 2) := gX8_keep_24.2.2.2.2.2.1
theorem dX8_keep_49 : decode cX8_keep 49 = .ok (.bipush 9, 2) := gX8_keep_24.2.2.2.2.2.2.1
theorem dX8_keep_51 : decode cX8_keep 51 = .ok (.idiv, 1) := gX8_keep_24.2.2.2.2.2.2.2.1
theorem dX8_keep_52 : decode cX8_keep 52 = .ok (.istore 4, 2) := gX8_keep_24.2.2.2.2.2.2.2.2.1
theorem dX8_keep_54 : decode cX8_keep 54 = .ok (.aload_n 0, 1) := gX8_keep_24.2.2.2.2.2.2.2.2.2.1
theorem dX8_keep_55 : decode cX8_keep 55 = .ok (.getfield 17, 3) := gX8_keep_24.2.2.2.2.2.2.2.2.2.2.1
theorem dX8_keep_58 : decode cX8_keep 58 = .ok (.iload 5, 2) := gX8_keep_24.2.2.2.2.2.2.2.2.2.2.2
theorem gX8_keep_36 : (decode cX8_keep 60 = .ok (.iload 5, 2)) ∧ (decode cX8_keep 62 = .ok (.iload_n 3, 1)) ∧ (decode cX8_keep 63 = .ok (.if_icmp .ge 10, 3)) ∧ (decode cX8_keep 66 = .ok (.iload 6, 2)) ∧ (decode cX8_keep 68 = .ok (.bipush 8, 2)) ∧ (decode cX8_keep 70 = .ok (.if_icmp .ne 8, 3)) ∧ (decode cX8_keep 73 = .ok (.bipush (-9), 2)) ∧ (decode cX8_keep 75 = .ok (.goto 5, 3)) ∧ (decode cX8_keep 78 = .ok (.iload 6, 2)) ∧ (decode cX8_keep 80 = .ok (.iastore, 1)) ∧ (decode cX8_keep 81 = .ok (.iinc 5 (-1), 3)) ∧ (decode cX8_keep 84 = .ok (.goto (-49), 3)) := by decide +kernel
theorem dX8_keep_60 : decode cX8_keep 60 = .ok (.iload 5, 2) := gX8_keep_36.1
theorem dX8_keep_62 : decode cX8_keep 62 = .ok (.iload_n 3, 1) := gX8_keep_36.2.1
theorem dX8_keep_63 : decode cX8_keep 63 = .ok (.if_icmp .ge 10, 3) := gX8_keep_36.2.2.1
theorem dX8_keep_66 : decode cX8_keep 66 = .ok (.iload 6, 2) := gX8_keep_36.2.2.2.1
theorem dX8_keep_68 : decode cX8_keep 68 = .ok (.bipush 8, 2) := gX8_keep_36.2.2.2.2.1
theorem dX8_keep_70 : decode cX8_keep 70 = .ok (.if_icmp .ne 8, 3) := gX8_keep_36.2.2.2.2.2.1
theorem dX8_keep_73 : decode cX8_keep 73 = .ok (.bipush (-9), 2) := gX8_keep_36.2.2.2.2.2.2.1
theorem dX8_keep_75 : decode cX8_keep 75 = .ok (.goto 5, 3) := gX8_keep_36.2.2.2.2.2.2.2.1
theorem dX8_keep_78 : decode cX8_keep 78 = .ok (.iload 6, 2) := gX8_keep_36.2.2.2.2.2.2.2.2.1
theorem dX8_keep_80 : decode cX8_keep 80 = .ok (.iastore, 1) := gX8_keep_36.2.2.2.2.2.2.2.2.2.1
theorem dX8_keep_81 : decode cX8_keep 81 = .ok (.iinc 5 (-1), 3) := gX8_keep_36.2.2.2.2.2.2.2.2.2.2.1
theorem dX8_keep_84 : decode cX8_keep 84 = .ok (.goto (-49), 3) := gX8_keep_36.2.2.2.2.2.2.2.2.2.2.2
theorem gX8_keep_48 : (decode cX8_keep 87 = .ok (.return_, 1)) := by decide +kernel
theorem dX8_keep_87 : decode cX8_keep 87 = .ok (.return_, 1) := gX8_keep_48
theorem gJ6_numberOfTrailingZeros_0f7a4_0 : (decode cJ6_numberOfTrailingZeros_0f7a4 0 = .ok (.iload_n 0, 1)) ∧ (decode cJ6_numberOfTrailingZeros_0f7a4 1 = .ok (.iconst (-1), 1)) ∧ (decode cJ6_numberOfTrailingZeros_0f7a4 2 = .ok (.ixor, 1)) ∧ (decode cJ6_numberOfTrailingZeros_0f7a4 3 = .ok (.iload_n 0, 1)) ∧ (decode cJ6_numberOfTrailingZeros_0f7a4 4 = .ok (.iconst 1, 1)) ∧ (decode cJ6_numberOfTrailingZeros_0f7a4 5 = .ok (.isub, 1)) ∧ (decode cJ6_numberOfTrailingZeros_0f7a4 6 = .ok (.iand, 1)) ∧ (decode cJ6_numberOfTrailingZeros_0f7a4 7 = .ok (.istore_n 0, 1)) ∧ (decode cJ6_numberOfTrailingZeros_0f7a4 8 = .ok (.iload_n 0, 1)) ∧ (decode cJ6_numberOfTrailingZeros_0f7a4 9 = .ok (.ifCond .gt 8, 3)) ∧ (decode cJ6_numberOfTrailingZeros_0f7a4 12 = .ok (.iload_n 0, 1)) ∧ (decode cJ6_numberOfTrailingZeros_0f7a4 13 = .ok (.bipush 32, 2)) := by decide +kernel
theorem dJ6_numberOfTrailingZeros_0f7a4_0 : decode cJ6_numberOfTrailingZeros_0f7a4 0 = .ok (.iload_n 0, 1) := gJ6_numberOfTrailingZeros_0f7a4_0.1
theorem dJ6_numberOfTrailingZeros_0f7a4_1 : decode cJ6_numberOfTrailingZeros_0f7a4 1 = .ok (.iconst (-1), 1) := gJ6_numberOfTrailingZeros_0f7a4_0.2.1
theorem dJ6_numberOfTrailingZeros_0f7a4_2 : decode cJ6_numberOfTrailingZeros_0f7a4 2 = .ok (.ixor, 1) := gJ6_numberOfTrailingZeros_0f7a4_0.2.2.1
theorem dJ6_numberOfTrailingZeros_0f7a4_3 : decode cJ6_numberOfTrailingZeros_0f7a4 3 = .ok (.iload_n 0, 1) := gJ6_numberOfTrailingZeros_0f7a4_0.2.2.2.1
theorem dJ6_numberOfTrailingZeros_0f7a4_4 : decode cJ6_numberOfTrailingZeros_0f7a4 4 = .ok (.iconst 1, 1) := gJ6_numberOfTrailingZeros_0f7a4_0.2.2.2.2.1
theorem dJ6_numberOfTrailingZeros_0f7a4_5 : decode cJ6_numberOfTrailingZeros_0f7a4 5 = .ok (.isub, 1) := gJ6_numberOfTrailingZeros_0f7a4_0.2.2.2.2.2.1
theorem dJ6_numberOfTrailingZeros_0f7a4_6 : decode cJ6_numberOfTrailingZeros_0f7a4 6 = .ok (.iand, 1) := gJ6_numberOfTrailingZeros_0f7a4_0.2.2.2.2.2.2.1
theorem dJ6_numberOfTrailingZeros_0f7a4_7 : decode cJ6_numberOfTrailingZeros_0f7a4 7 = .ok (.istore_n 0, 1) := gJ6_numberOfTrailingZeros_0f7a4_0.2.2.2.2.2.2.2.1
theorem dJ6_numberOfTrailingZeros_0f7a4_8 : decode cJ6_numberOfTrailingZeros_0f7a4 8 = .ok (.iload_n 0, 1) := gJ6_numberOfTrailingZeros_0f7a4_0.2.2.2.2.2.2.2.2.1
theorem dJ6_numberOfTrailingZeros_0f7a4_9 : decode cJ6_numberOfTrailingZeros_0f7a4 9 = .ok (.ifCond .gt 8, 3) := gJ6_numberOfTrailingZeros_0f7a4_0.2.2.2.2.2.2.2.2.2.1
theorem dJ6_numberOfTrailingZeros_0f7a4_12 : decode cJ6_numberOfTrailingZeros_0f7a4 12 = .ok (.iload_n 0, 1) := gJ6_numberOfTrailingZeros_0f7a4_0.2.2.2.2.2.2.2.2.2.2.1
theorem dJ6_numberOfTrailingZeros_0f7a4_13 : decode cJ6_numberOfTrailingZeros_0f7a4 13 = .ok (.bipush 32, 2) := gJ6_numberOfTrailingZeros_0f7a4_0.2.2.2.2.2.2.2.2.2.2.2
theorem gJ6_numberOfTrailingZeros_0f7a4_12 : (decode cJ6_numberOfTrailingZeros_0f7a4 15 = .ok (.iand, 1)) ∧ (decode cJ6_numberOfTrailingZeros_0f7a4 16 = .ok (.ireturn, 1)) ∧ (decode cJ6_numberOfTrailingZeros_0f7a4 17 = .ok (.iconst 1, 1)) ∧ (decode cJ6_numberOfTrailingZeros_0f7a4 18 = .ok (.istore_n 1, 1)) ∧ (decode cJ6_numberOfTrailingZeros_0f7a4 19 = .ok (.iload_n 0, 1)) ∧ (decode cJ6_numberOfTrailingZeros_0f7a4 20 = .ok (.ldc_w 264, 3)) ∧ (decode cJ6_numberOfTrailingZeros_0f7a4 23 = .ok (.if_icmp .le 11, 3)) ∧ (decode cJ6_numberOfTrailingZeros_0f7a4 26 = .ok (.iinc 1 16, 3)) ∧ (decode cJ6_numberOfTrailingZeros_0f7a4 29 = .ok (.iload_n 0, 1)) ∧ (decode cJ6_numberOfTrailingZeros_0f7a4 30 = .ok (.bipush 16, 2)) ∧ (decode cJ6_numberOfTrailingZeros_0f7a4 32 = .ok (.iushr, 1)) ∧ (decode cJ6_numberOfTrailingZeros_0f7a4 33 = .ok (.istore_n 0, 1)) := by decide +kernel
theorem dJ6_numberOfTrailingZeros_0f7a4_15 : decode cJ6_numberOfTrailingZeros_0f7a4 15 = .ok (.iand, 1) := gJ6_numberOfTrailingZeros_0f7a4_12.1
theorem dJ6_numberOfTrailingZeros_0f7a4_16 : decode cJ6_numberOfTrailingZeros_0f7a4 16 = .ok (.ireturn, 1) := gJ6_numberOfTrailingZeros_0f7a4_12.2.1
theorem dJ6_numberOfTrailingZeros_0f7a4_17 : decode cJ6_numberOfTrailingZeros_0f7a4 17 = .ok (.iconst 1, 1) := gJ6_numberOfTrailingZeros_0f7a4_12.2.2.1
theorem dJ6_numberOfTrailingZeros_0f7a4_18 : decode cJ6_numberOfTrailingZeros_0f7a4 18 = .ok (.istore_n 1, 1) := gJ6_numberOfTrailingZeros_0f7a4_12.2.2.2.1
theorem dJ6_numberOfTrailingZeros_0f7a4_19 : decode cJ6_numberOfTrailingZeros_0f7a4 19 = .ok (.iload_n 0, 1) := gJ6_numberOfTrailingZeros_0f7a4_12.2.2.2.2.1
theorem dJ6_numberOfTrailingZeros_0f7a4_20 : decode cJ6_numberOfTrailingZeros_0f7a4 20 = .ok (.ldc_w 264, 3) := gJ6_numberOfTrailingZeros_0f7a4_12.2.2.2.2.2.1
theorem dJ6_numberOfTrailingZeros_0f7a4_23 : decode cJ6_numberOfTrailingZeros_0f7a4 23 = .ok (.if_icmp .le 11, 3) := gJ6_numberOfTrailingZeros_0f7a4_12.2.2.2.2.2.2.1
theorem dJ6_numberOfTrailingZeros_0f7a4_26 : decode cJ6_numberOfTrailingZeros_0f7a4 26 = .ok (.iinc 1 16, 3) := gJ6_numberOfTrailingZeros_0f7a4_12.2.2.2.2.2.2.2.1
theorem dJ6_numberOfTrailingZeros_0f7a4_29 : decode cJ6_numberOfTrailingZeros_0f7a4 29 = .ok (.iload_n 0, 1) := gJ6_numberOfTrailingZeros_0f7a4_12.2.2.2.2.2.2.2.2.1
theorem dJ6_numberOfTrailingZeros_0f7a4_30 : decode cJ6_numberOfTrailingZeros_0f7a4 30 = .ok (.bipush 16, 2) := gJ6_numberOfTrailingZeros_0f7a4_12.2.2.2.2.2.2.2.2.2.1
theorem dJ6_numberOfTrailingZeros_0f7a4_32 : decode cJ6_numberOfTrailingZeros_0f7a4 32 = .ok (.iushr, 1) := gJ6_numberOfTrailingZeros_0f7a4_12.2.2.2.2.2.2.2.2.2.2.1
theorem dJ6_numberOfTrailingZeros_0f7a4_33 : decode cJ6_numberOfTrailingZeros_0f7a4 33 = .ok (.istore_n 0, 1) := gJ6_numberOfTrailingZeros_0f7a4_12.2.2.2.2.2.2.2.2.2.2.2
theorem gJ6_numberOfTrailingZeros_0f7a4_24 : (decode cJ6_numberOfTrailingZeros_0f7a4 34 = .ok (.iload_n 0, 1)) ∧ (decode cJ6_numberOfTrailingZeros_0f7a4 35 = .ok (.sipush 256, 3)) ∧ (decode cJ6_numberOfTrailingZeros_0f7a4 38 = .ok (.if_icmp .le 11, 3)) ∧ (decode cJ6_numberOfTrailingZeros_0f7a4 41 = .ok (.iinc 1 8, 3)) ∧ (decode cJ6_numberOfTrailingZeros_0f7a4 44 = .ok (.iload_n 0, 1)) ∧ (decode cJ6_numberOfTrailingZeros_0f7a4 45 = .ok (.bipush 8, 2)) ∧ (decode cJ6_numberOfTrailingZeros_0f7a4 47 = .ok (.iushr, 1)) ∧ (decode cJ6_numberOfTrailingZeros_0f7a4 48 = .ok (.istore_n 0, 1)) ∧ (decode cJ6_numberOfTrailingZeros_0f7a4 49 = .ok (.iload_n 0, 1)) ∧ (decode cJ6_numberOfTrailingZeros_0f7a4 50 = .ok (.bipush 16, 2)) ∧ (decode cJ6_numberOfTrailingZeros_0f7a4 52 = .ok (.if_icmp .le 10, 3)) ∧ (decode cJ6_numberOfTrailingZeros_0f7a4 55 = .ok (.iinc 1 4, 3)) := by decide +kernel
theorem dJ6_numberOfTrailingZeros_0f7a4_34 : decode cJ6_numberOfTrailingZeros_0f7a4 34 = .ok (.iload_n 0, 1) := gJ6_numberOfTrailingZeros_0f7a4_24.1
theorem dJ6_numberOfTrailingZeros_0f7a4_35 : decode cJ6_numberOfTrailingZeros_0f7a4 35 = .ok (.sipush 256, 3) := gJ6_numberOfTrailingZeros_0f7a4_24.2.1
theorem dJ6_numberOfTrailingZeros_0f7a4_38 : decode cJ6_numberOfTrailingZeros_0f7a4 38 = .ok (.if_icmp .le 11, 3) := gJ6_numberOfTrailingZeros_0f7a4_24.2.2.1
theorem dJ6_numberOfTrailingZeros_0f7a4_41 : decode cJ6_numberOfTrailingZeros_0f7a4 41 = .ok (.iinc 1 8, 3) := gJ6_numberOfTrailingZeros_0f7a4_24.2.2.2.1
theorem dJ6_numberOfTrailingZeros_0f7a4_44 : decode cJ6_numberOfTrailingZeros_0f7a4 44 = .ok (.iload_n 0, 1) := gJ6_numberOfTrailingZeros_0f7a4_24.2.2.2.2.1
theorem dJ6_numberOfTrailingZeros_0f7a4_45 : decode cJ6_numberOfTrailingZeros_0f7a4 45 = .ok (.bipush 8, 2) := gJ6_numberOfTrailingZeros_0f7a4_24.2.2.2.2.2.1
theorem dJ6_numberOfTrailingZeros_0f7a4_47 : decode cJ6_numberOfTrailingZeros_0f7a4 47 = .ok (.iushr, 1) := gJ6_numberOfTrailingZeros_0f7a4_24.2.2.2.2.2.2.1
theorem dJ6_numberOfTrailingZeros_0f7a4_48 : decode cJ6_numberOfTrailingZeros_0f7a4 48 = .ok (.istore_n 0, 1) := gJ6_numberOfTrailingZeros_0f7a4_24.2.2.2.2.2.2.2.1
theorem dJ6_numberOfTrailingZeros_0f7a4_49 : decode cJ6_numberOfTrailingZeros_0f7a4 49 = .ok (.iload_n 0, 1) := gJ6_numberOfTrailingZeros_0f7a4_24.2.2.2.2.2.2.2.2.1
theorem dJ6_numberOfTrailingZeros_0f7a4_50 : decode cJ6_numberOfTrailingZeros_0f7a4 50 = .ok (.bipush 16, 2) := gJ6_numberOfTrailingZeros_0f7a4_24.2.2.2.2.2.2.2.2.2.1
theorem dJ6_numberOfTrailingZeros_0f7a4_52 : decode cJ6_numberOfTrailingZeros_0f7a4 52 = .ok (.if_icmp .le 10, 3) := gJ6_numberOfTrailingZeros_0f7a4_24.2.2.2.2.2.2.2.2.2.2.1
theorem dJ6_numberOfTrailingZeros_0f7a4_55 : decode cJ6_numberOfTrailingZeros_0f7a4 55 = .ok (.iinc 1 4, 3) := gJ6_numberOfTrailingZeros_0f7a4_24.2.2.2.2.2.2.2.2.2.2.2
theorem gJ6_numberOfTrailingZeros_0f7a4_36 : (decode cJ6_numberOfTrailingZeros_0f7a4 58 = .ok (.iload_n 0, 1)) ∧ (decode cJ6_numberOfTrailingZeros_0f7a4 59 = .ok (.iconst 4, 1)) ∧ (decode cJ6_numberOfTrailingZeros_0f7a4 60 = .ok (.iushr, 1)) ∧ (decode cJ6_numberOfTrailingZeros_0f7a4 61 = .ok (.istore_n 0, 1)) ∧ (decode cJ6_numberOfTrailingZeros_0f7a4 62 = .ok (.iload_n 0, 1)) ∧ (decode cJ6_numberOfTrailingZeros_0f7a4 63 = .ok (.iconst 4, 1)) ∧ (decode cJ6_numberOfTrailingZeros_0f7a4 64 = .ok (.if_icmp .le 10, 3)) ∧ (decode cJ6_numberOfTrailingZeros_0f7a4 67 = .ok (.iinc 1 2, 3)) ∧ (decode cJ6_numberOfTrailingZeros_0f7a4 70 = .ok (.iload_n 0, 1)) ∧ (decode cJ6_numberOfTrailingZeros_0f7a4 71 = .ok (.iconst 2, 1)) ∧ (decode cJ6_numberOfTrailingZeros_0f7a4 72 = .ok (.iushr, 1)) ∧ (decode cJ6_numberOfTrailingZeros_0f7a4 73 = .ok (.istore_n 0, 1)) := by decide +kernel
theorem dJ6_numberOfTrailingZeros_0f7a4_58 : decode cJ6_numberOfTrailingZeros_0f7a4 58 = .ok (.iload_n 0, 1) := gJ6_numberOfTrailingZeros_0f7a4_36.1
theorem dJ6_numberOfTrailingZeros_0f7a4_59 : decode cJ6_numberOfTrailingZeros_0f7a4 59 = .ok (.iconst 4, 1) := gJ6_numberOfTrailingZeros_0f7a4_36.2.1
theorem dJ6_numberOfTrailingZeros_0f7a4_60 : decode cJ6_numberOfTrailingZeros_0f7a4 60 = .ok (.iushr, 1) := gJ6_numberOfTrailingZeros_0f7a4_36.2.2.1
theorem dJ6_numberOfTrailingZeros_0f7a4_61 : decode cJ6_numberOfTrailingZeros_0f7a4 61 = .ok (.istore_n 0, 1) := gJ6_numberOfTrailingZeros_0f7a4_36.2.2.2.1
theorem dJ6_numberOfTrailingZeros_0f7a4_62 : decode cJ6_numberOfTrailingZeros_0f7a4 62 = .ok (.iload_n 0, 1) := gJ6_numberOfTrailingZeros_0f7a4_36.2.2.2.2.1
theorem dJ6_numberOfTrailingZeros_0f7a4_63 : decode cJ6_numberOfTrailingZeros_0f7a4 63 = .ok (.iconst 4, 1) := gJ6_numberOfTrailingZeros_0f7a4_36.2.2.2.2.2.1
theorem dJ6_numberOfTrailingZeros_0f7a4_64 : decode cJ6_numberOfTrailingZeros_0f7a4 64 = .ok (.if_icmp .le 10, 3) := gJ6_numberOfTrailingZeros_0f7a4_36.2.2.2.2.2.2.1
theorem dJ6_numberOfTrailingZeros_0f7a4_67 : decode cJ6_numberOfTrailingZeros_0f7a4 67 = .ok (.iinc 1 2, 3) := gJ6_numberOfTrailingZeros_0f7a4_36.2.2.2.2.2.2.2.1
theorem dJ6_numberOfTrailingZeros_0f7a4_70 : decode cJ6_numberOfTrailingZeros_0f7a4 70 = .ok (.iload_n 0, 1) := gJ6_numberOfTrailingZeros_0f7a4_36.2.2.2.2.2.2.2.2.1
theorem dJ6_numberOfTrailingZeros_0f7a4_71 : decode cJ6_numberOfTrailingZeros_0f7a4 71 = .ok (.iconst 2, 1) := gJ6_numberOfTrailingZeros_0f7a4_36.2.2.2.2.2.2.2.2.2.1
theorem dJ6_numberOfTrailingZeros_0f7a4_72 : decode cJ6_numberOfTrailingZeros_0f7a4 72 = .ok (.iushr, 1) := gJ6_numberOfTrailingZeros_0f7a4_36.2.2.2.2.2.2.2.2.2.2.1
theorem dJ6_numberOfTrailingZeros_0f7a4_73 : decode cJ6_numberOfTrailingZeros_0f7a4 73 = .ok (.istore_n 0, 1) := gJ6_numberOfTrailingZeros_0f7a4_36.2.2.2.2.2.2.2.2.2.2.2
theorem gJ6_numberOfTrailingZeros_0f7a4_48 : (decode cJ6_numberOfTrailingZeros_0f7a4 74 = .ok (.iload_n 1, 1)) ∧ (decode cJ6_numberOfTrailingZeros_0f7a4 75 = .ok (.iload_n 0, 1)) ∧ (decode cJ6_numberOfTrailingZeros_0f7a4 76 = .ok (.iconst 1, 1)) ∧ (decode cJ6_numberOfTrailingZeros_0f7a4 77 = .ok (.iushr, 1)) ∧ (decode cJ6_numberOfTrailingZeros_0f7a4 78 = .ok (.iadd, 1)) ∧ (decode cJ6_numberOfTrailingZeros_0f7a4 79 = .ok (.ireturn, 1)) := by decide +kernel
theorem dJ6_numberOfTrailingZeros_0f7a4_74 : decode cJ6_numberOfTrailingZeros_0f7a4 74 = .ok (.iload_n 1, 1) := gJ6_numberOfTrailingZeros_0f7a4_48.1
theorem dJ6_numberOfTrailingZeros_0f7a4_75 : decode cJ6_numberOfTrailingZeros_0f7a4 75 = .ok (.iload_n 0, 1) := gJ6_numberOfTrailingZeros_0f7a4_48.2.1
theorem dJ6_numberOfTrailingZeros_0f7a4_76 : decode cJ6_numberOfTrailingZeros_0f7a4 76 = .ok (.iconst 1, 1) := gJ6_numberOfTrailingZeros_0f7a4_48.2.2.1
theorem dJ6_numberOfTrailingZeros_0f7a4_77 : decode cJ6_numberOfTrailingZeros_0f7a4 77 = .ok (.iushr, 1) := gJ6_numberOfTrailingZeros_0f7a4_48.2.2.2.1
theorem dJ6_numberOfTrailingZeros_0f7a4_78 : decode cJ6_numberOfTrailingZeros_0f7a4 78 = .ok (.iadd, 1) := gJ6_numberOfTrailingZeros_0f7a4_48.2.2.2.2.1
theorem dJ6_numberOfTrailingZeros_0f7a4_79 : decode cJ6_numberOfTrailingZeros_0f7a4 79 = .ok (.ireturn, 1) := gJ6_numberOfTrailingZeros_0f7a4_48.2.2.2.2.2
theorem gJ6_bitCount_0f7a4_0 : (decode cJ6_bitCount_0f7a4 0 = .ok (.iload_n 0, 1)) ∧ (decode cJ6_bitCount_0f7a4 1 = .ok (.iload_n 0, 1)) ∧ (decode cJ6_bitCount_0f7a4 2 = .ok (.iconst 1, 1)) ∧ (decode cJ6_bitCount_0f7a4 3 = .ok (.iushr, 1)) ∧ (decode cJ6_bitCount_0f7a4 4 = .ok (.ldc_w 265, 3)) ∧ (decode cJ6_bitCount_0f7a4 7 = .ok (.iand, 1)) ∧ (decode cJ6_bitCount_0f7a4 8 = .ok (.isub, 1)) ∧ (decode cJ6_bitCount_0f7a4 9 = .ok (.istore_n 0, 1)) ∧ (decode cJ6_bitCount_0f7a4 10 = .ok (.iload_n 0, 1)) ∧ (decode cJ6_bitCount_0f7a4 11 = .ok (.ldc_w 266, 3)) ∧ (decode cJ6_bitCount_0f7a4 14 = .ok (.iand, 1)) ∧ (decode cJ6_bitCount_0f7a4 15 = .ok (.iload_n 0, 1)) := by decide +kernel
theorem dJ6_bitCount_0f7a4_0 : decode cJ6_bitCount_0f7a4 0 = .ok (.iload_n 0, 1) := gJ6_bitCount_0f7a4_0.1
theorem dJ6_bitCount_0f7a4_1 : decode cJ6_bitCount_0f7a4 1 = .ok (.iload_n 0, 1) := gJ6_bitCount_0f7a4_0.2.1
theorem dJ6_bitCount_0f7a4_2 : decode cJ6_bitCount_0f7a4 2 = .ok (.iconst 1, 1) := gJ6_bitCount_0f7a4_0.2.2.1
theorem dJ6_bitCount_0f7a4_3 : decode cJ6_bitCount_0f7a4 3 = .ok (.iushr, 1) := gJ6_bitCount_0f7a4_0.2.2.2.1
theorem dJ6_bitCount_0f7a4_4 : decode cJ6_bitCount_0f7a4 4 = .ok (.ldc_w 265, 3) := gJ6_bitCount_0f7a4_0.2.2.2.2.1
theorem dJ6_bitCount_0f7a4_7 : decode cJ6_bitCount_0f7a4 7 = .ok (.iand, 1) := gJ6_bitCount_0f7a4_0.2.2.2.2.2.1
theorem dJ6_bitCount_0f7a4_8 : decode cJ6_bitCount_0f7a4 8 = .ok (.isub, 1) := gJ6_bitCount_0f7a4_0.2.2.2.2.2.2.1
theorem dJ6_bitCount_0f7a4_9 : decode cJ6_bitCount_0f7a4 9 = .ok (.istore_n 0, 1) := gJ6_bitCount_0f7a4_0.2.2.2.2.2.2.2.1
theorem dJ6_bitCount_0f7a4_10 : decode cJ6_bitCount_0f7a4 10 = .ok (.iload_n 0, 1) := gJ6_bitCount_0f7a4_0.2.2.2.2.2.2.2.2.1
theorem dJ6_bitCount_0f7a4_11 : decode cJ6_bitCount_0f7a4 11 = .ok (.ldc_w 266, 3) := gJ6_bitCount_0f7a4_0.2.2.2.2.2.2.2.2.2.1
theorem dJ6_bitCount_0f7a4_14 : decode cJ6_bitCount_0f7a4 14 = .ok (.iand, 1) := gJ6_bitCount_0f7a4_0.2.2.2.2.2.2.2.2.2.2.1
theorem dJ6_bitCount_0f7a4_15 : decode cJ6_bitCount_0f7a4 15 = .ok (.iload_n 0, 1) := gJ6_bitCount_0f7a4_0.2.2.2.2.2.2.2.2.2.2.2
theorem gJ6_bitCount_0f7a4_12 : (decode cJ6_bitCount_0f7a4 16 = .ok (.iconst 2, 1)) ∧ (decode cJ6_bitCount_0f7a4 17 = .ok (.iushr, 1)) ∧ (decode cJ6_bitCount_0f7a4 18 = .ok (.ldc_w 266, 3)) ∧ (decode cJ6_bitCount_0f7a4 21 = .ok (.iand, 1)) ∧ (decode cJ6_bitCount_0f7a4 22 = .ok (.iadd, 1)) ∧ (decode cJ6_bitCount_0f7a4 23 = .ok (.istore_n 0, 1)) ∧ (decode cJ6_bitCount_0f7a4 24 = .ok (.iload_n 0, 1)) ∧ (decode cJ6_bitCount_0f7a4 25 = .ok (.iload_n 0, 1)) ∧ (decode cJ6_bitCount_0f7a4 26 = .ok (.iconst 4, 1)) ∧ (decode cJ6_bitCount_0f7a4 27 = .ok (.iushr, 1)) ∧ (decode cJ6_bitCount_0f7a4 28 = .ok (.iadd, 1)) ∧ (decode cJ6_bitCount_0f7a4 29 = .ok (.ldc_w 267, 3)) := by decide +kernel
theorem dJ6_bitCount_0f7a4_16 : decode cJ6_bitCount_0f7a4 16 = .ok (.iconst 2, 1) := gJ6_bitCount_0f7a4_12.1
theorem dJ6_bitCount_0f7a4_17 : decode cJ6_bitCount_0f7a4 17 = .ok (.iushr, 1) := gJ6_bitCount_0f7a4_12.2.1
theorem dJ6_bitCount_0f7a4_18 : decode cJ6_bitCount_0f7a4 18 = .ok (.ldc_w 266, 3) := gJ6_bitCount_0f7a4_12.2.2.1
theorem dJ6_bitCount_0f7a4_21 : decode cJ6_bitCount_0f7a4 21 = .ok (.iand, 1) := gJ6_bitCount_0f7a4_12.2.2.2.1
theorem dJ6_bitCount_0f7a4_22 : decode cJ6_bitCount_0f7a4 22 = .ok (.iadd, 1) := gJ6_bitCount_0f7a4_12.2.2.2.2.1
theorem dJ6_bitCount_0f7a4_23 : decode cJ6_bitCount_0f7a4 23 = .ok (.istore_n 0, 1) := gJ6_bitCount_0f7a4_12.2.2.2.2.2.1
theorem dJ6_bitCount_0f7a4_24 : decode cJ6_bitCount_0f7a4 24 = .ok (.iload_n 0, 1) := gJ6_bitCount_0f7a4_12.2.2.2.2.2.2.1
theorem dJ6_bitCount_0f7a4_25 : decode cJ6_bitCount_0f7a4 25 = .ok (.iload_n 0, 1) := gJ6_bitCount_0f7a4_12.2.2.2.2.2.2.2.1
theorem dJ6_bitCount_0f7a4_26 : decode cJ6_bitCount_0f7a4 26 = .ok (.iconst 4, 1) := gJ6_bitCount_0f7a4_12.2.2.2.2.2.2.2.2.1
theorem dJ6_bitCount_0f7a4_27 : decode cJ6_bitCount_0f7a4 27 = .ok (.iushr, 1) := gJ6_bitCount_0f7a4_12.2.2.2.2.2.2.2.2.2.1
theorem dJ6_bitCount_0f7a4_28 : decode cJ6_bitCount_0f7a4 28 = .ok (.iadd, 1) := gJ6_bitCount_0f7a4_12.2.2.2.2.2.2.2.2.2.2.1
theorem dJ6_bitCount_0f7a4_29 : decode cJ6_bitCount_0f7a4 29 = .ok (.ldc_w 267, 3) := gJ6_bitCount_0f7a4_12.2.2.2.2.2.2.2.2.2.2.2
theorem gJ6_bitCount_0f7a4_24 : (decode cJ6_bitCount_0f7a4 32 = .ok (.iand, 1)) ∧ (decode cJ6_bitCount_0f7a4 33 = .ok (.istore_n 0, 1)) ∧ (decode cJ6_bitCount_0f7a4 34 = .ok (.iload_n 0, 1)) ∧ (decode cJ6_bitCount_0f7a4 35 = .ok (.iload_n 0, 1)) ∧ (decode cJ6_bitCount_0f7a4 36 = .ok (.bipush 8, 2)) ∧ (decode cJ6_bitCount_0f7a4 38 = .ok (.iushr, 1)) ∧ (decode cJ6_bitCount_0f7a4 39 = .ok (.iadd, 1)) ∧ (decode cJ6_bitCount_0f7a4 40 = .ok (.istore_n 0, 1)) ∧ (decode cJ6_bitCount_0f7a4 41 = .ok (.iload_n 0, 1)) ∧ (decode cJ6_bitCount_0f7a4 42 = .ok (.iload_n 0, 1)) ∧ (decode cJ6_bitCount_0f7a4 43 = .ok (.bipush 16, 2)) ∧ (decode cJ6_bitCount_0f7a4 45 = .ok (.iushr, 1)) := by decide +kernel
theorem dJ6_bitCount_0f7a4_32 : decode cJ6_bitCount_0f7a4 32 = .ok (.iand, 1) := gJ6_bitCount_0f7a4_24.1
theorem dJ6_bitCount_0f7a4_33 : decode cJ6_bitCount_0f7a4 33 = .ok (.istore_n 0, 1) := gJ6_bitCount_0f7a4_24.2.1
theorem dJ6_bitCount_0f7a4_34 : decode cJ6_bitCount_0f7a4 34 = .ok (.iload_n 0, 1) := gJ6_bitCount_0f7a4_24.2.2.1
theorem dJ6_bitCount_0f7a4_35 : decode cJ6_bitCount_0f7a4 35 = .ok (.iload_n 0, 1) := gJ6_bitCount_0f7a4_24.2.2.2.1
theorem dJ6_bitCount_0f7a4_36 : decode cJ6_bitCount_0f7a4 36 = .ok (.bipush 8, 2) := gJ6_bitCount_0f7a4_24.2.2.2.2.1
theorem dJ6_bitCount_0f7a4_38 : decode cJ6_bitCount_0f7a4 38 = .ok (.iushr, 1) := gJ6_bitCount_0f7a4_24.2.2.2.2.2.1
theorem dJ6_bitCount_0f7a4_39 : decode cJ6_bitCount_0f7a4 39 = .ok (.iadd, 1) := gJ6_bitCount_0f7a4_24.2.2.2.2.2.2.1
theorem dJ6_bitCount_0f7a4_40 : decode cJ6_bitCount_0f7a4 40 = .ok (.istore_n 0, 1) := gJ6_bitCount_0f7a4_24.2.2.2.2.2.2.2.1
theorem dJ6_bitCount_0f7a4_41 : decode cJ6_bitCount_0f7a4 41 = .ok (.iload_n 0, 1) := gJ6_bitCount_0f7a4_24.2.2.2.2.2.2.2.2.1
theorem dJ6_bitCount_0f7a4_42 : decode cJ6_bitCount_0f7a4 42 = .ok (.iload_n 0, 1) := gJ6_bitCount_0f7a4_24.2.2.2.2.2.2.2.2.2.1
theorem dJ6_bitCount_0f7a4_43 : decode cJ6_bitCount_0f7a4 43 = .ok (.bipush 16, 2) := gJ6_bitCount_0f7a4_24.2.2.2.2.2.2.2.2.2.2.1
theorem dJ6_bitCount_0f7a4_45 : decode cJ6_bitCount_0f7a4 45 = .ok (.iushr, 1) := gJ6_bitCount_0f7a4_24.2.2.2.2.2.2.2.2.2.2.2
theorem gJ6_bitCount_0f7a4_36 : (decode cJ6_bitCount_0f7a4 46 = .ok (.iadd, 1)) ∧ (decode cJ6_bitCount_0f7a4 47 = .ok (.istore_n 0, 1)) ∧ (decode cJ6_bitCount_0f7a4 48 = .ok (.iload_n 0, 1)) ∧ (decode cJ6_bitCount_0f7a4 49 = .ok (.bipush 63, 2)) ∧ (decode cJ6_bitCount_0f7a4 51 = .ok (.iand, 1)) ∧ (decode cJ6_bitCount_0f7a4 52 = .ok (.ireturn, 1)) := by decide +kernel
theorem dJ6_bitCount_0f7a4_46 : decode cJ6_bitCount_0f7a4 46 = .ok (.iadd, 1) := gJ6_bitCount_0f7a4_36.1
theorem dJ6_bitCount_0f7a4_47 : decode cJ6_bitCount_0f7a4 47 = .ok (.istore_n 0, 1) := gJ6_bitCount_0f7a4_36.2.1
theorem dJ6_bitCount_0f7a4_48 : decode cJ6_bitCount_0f7a4 48 = .ok (.iload_n 0, 1) := gJ6_bitCount_0f7a4_36.2.2.1
theorem dJ6_bitCount_0f7a4_49 : decode cJ6_bitCount_0f7a4 49 = .ok (.bipush 63, 2) := gJ6_bitCount_0f7a4_36.2.2.2.1
theorem dJ6_bitCount_0f7a4_51 : decode cJ6_bitCount_0f7a4 51 = .ok (.iand, 1) := gJ6_bitCount_0f7a4_36.2.2.2.2.1
theorem dJ6_bitCount_0f7a4_52 : decode cJ6_bitCount_0f7a4 52 = .ok (.ireturn, 1) := gJ6_bitCount_0f7a4_36.2.2.2.2.2
theorem gJ13_compare_74951_0 : (decode cJ13_compare_74951 0 = .ok (.lload_n 0, 1)) ∧ (decode cJ13_compare_74951 1 = .ok (.lload_n 2, 1)) ∧ (decode cJ13_compare_74951 2 = .ok (.lcmp, 1)) ∧ (decode cJ13_compare_74951 3 = .ok (.ifCond .ge 7, 3)) ∧ (decode cJ13_compare_74951 6 = .ok (.iconst (-1), 1)) ∧ (decode cJ13_compare_74951 7 = .ok (.goto 14, 3)) ∧ (decode cJ13_compare_74951 10 = .ok (.lload_n 0, 1)) ∧ (decode cJ13_compare_74951 11 = .ok (.lload_n 2, 1)) ∧ (decode cJ13_compare_74951 12 = .ok (.lcmp, 1)) ∧ (decode cJ13_compare_74951 13 = .ok (.ifCond .ne 7, 3)) ∧ (decode cJ13_compare_74951 16 = .ok (.iconst 0, 1)) ∧ (decode cJ13_compare_74951 17 = .ok (.goto 4, 3)) := by decide +kernel
theorem dJ13_compare_74951_0 : decode cJ13_compare_74951 0 = .ok (.lload_n 0, 1) := gJ13_compare_74951_0.1
theorem dJ13_compare_74951_1 : decode cJ13_compare_74951 1 = .ok (.lload_n 2, 1) := gJ13_compare_74951_0.2.1
theorem dJ13_compare_74951_2 : decode cJ13_compare_74951 2 = .ok (.lcmp, 1) := gJ13_compare_74951_0.2.2.1
theorem dJ13_compare_74951_3 : decode cJ13_compare_74951 3 = .ok (.ifCond .ge 7, 3) := gJ13_compare_74951_0.2.2.2.1
theorem dJ13_compare_74951_6 : decode cJ13_compare_74951 6 = .ok (.iconst (-1), 1) := gJ13_compare_74951_0.2.2.2.2.1
theorem dJ13_compare_74951_7 : decode cJ13_compare_74951 7 = .ok (.goto 14, 3) := gJ13_compare_74951_0.2.2.2.2.2.1
theorem dJ13_compare_74951_10 : decode cJ13_compare_74951 10 = .ok (.lload_n 0, 1) := gJ13_compare_74951_0.2.2.2.2.2.2.1
theorem dJ13_compare_74951_11 : decode cJ13_compare_74951 11 = .ok (.lload_n 2, 1) := gJ13_compare_74951_0.2.2.2.2.2.2.2.1
theorem dJ13_compare_74951_12 : decode cJ13_compare_74951 12 = .ok (.lcmp, 1) := gJ13_compare_74951_0.2.2.2.2.2.2.2.2.1
theorem dJ13_compare_74951_13 : decode cJ13_compare_74951 13 = .ok (.ifCond .ne 7, 3) := gJ13_compare_74951_0.2.2.2.2.2.2.2.2.2.1
theorem dJ13_compare_74951_16 : decode cJ13_compare_74951 16 = .ok (.iconst 0, 1) := gJ13_compare_74951_0.2.2.2.2.2.2.2.2.2.2.1
theorem dJ13_compare_74951_17 : decode cJ13_compare_74951 17 = .ok (.goto 4, 3) := gJ13_compare_74951_0.2.2.2.2.2.2.2.2.2.2.2
theorem gJ13_compare_74951_12 : (decode cJ13_compare_74951 20 = .ok (.iconst 1, 1)) ∧ (decode cJ13_compare_74951 21 = .ok (.ireturn, 1)) := by decide +kernel
theorem dJ13_compare_74951_20 : decode cJ13_compare_74951 20 = .ok (.iconst 1, 1) := gJ13_compare_74951_12.1
theorem dJ13_compare_74951_21 : decode cJ13_compare_74951 21 = .ok (.ireturn, 1) := gJ13_compare_74951_12.2
theorem gJ9_abs_067f4_0 : (decode cJ9_abs_067f4 0 = .ok (.lload_n 0, 1)) ∧ (decode cJ9_abs_067f4 1 = .ok (.lconst 0, 1)) ∧ (decode cJ9_abs_067f4 2 = .ok (.lcmp, 1)) ∧ (decode cJ9_abs_067f4 3 = .ok (.ifCond .ge 8, 3)) ∧ (decode cJ9_abs_067f4 6 = .ok (.lload_n 0, 1)) ∧ (decode cJ9_abs_067f4 7 = .ok (.lneg, 1)) ∧ (decode cJ9_abs_067f4 8 = .ok (.goto 4, 3)) ∧ (decode cJ9_abs_067f4 11 = .ok (.lload_n 0, 1)) ∧ (decode cJ9_abs_067f4 12 = .ok (.lreturn, 1)) := by decide +kernel
theorem dJ9_abs_067f4_0 : decode cJ9_abs_067f4 0 = .ok (.lload_n 0, 1) := gJ9_abs_067f4_0.1
theorem dJ9_abs_067f4_1 : decode cJ9_abs_067f4 1 = .ok (.lconst 0, 1) := gJ9_abs_067f4_0.2.1
theorem dJ9_abs_067f4_2 : decode cJ9_abs_067f4 2 = .ok (.lcmp, 1) := gJ9_abs_067f4_0.2.2.1
theorem dJ9_abs_067f4_3 : decode cJ9_abs_067f4 3 = .ok (.ifCond .ge 8, 3) := gJ9_abs_067f4_0.2.2.2.1
theorem dJ9_abs_067f4_6 : decode cJ9_abs_067f4 6 = .ok (.lload_n 0, 1) := gJ9_abs_067f4_0.2.2.2.2.1
theorem dJ9_abs_067f4_7 : decode cJ9_abs_067f4 7 = .ok (.lneg, 1) := gJ9_abs_067f4_0.2.2.2.2.2.1
theorem dJ9_abs_067f4_8 : decode cJ9_abs_067f4 8 = .ok (.goto 4, 3) := gJ9_abs_067f4_0.2.2.2.2.2.2.1
theorem dJ9_abs_067f4_11 : decode cJ9_abs_067f4 11 = .ok (.lload_n 0, 1) := gJ9_abs_067f4_0.2.2.2.2.2.2.2.1
theorem dJ9_abs_067f4_12 : decode cJ9_abs_067f4 12 = .ok (.lreturn, 1) := gJ9_abs_067f4_0.2.2.2.2.2.2.2.2
theorem gJ9_max_7cf53_0 : (decode cJ9_max_7cf53 0 = .ok (.iload_n 0, 1)) ∧ (decode cJ9_max_7cf53 1 = .ok (.iload_n 1, 1)) ∧ (decode cJ9_max_7cf53 2 = .ok (.if_icmp .lt 7, 3)) ∧ (decode cJ9_max_7cf53 5 = .ok (.iload_n 0, 1)) ∧ (decode cJ9_max_7cf53 6 = .ok (.goto 4, 3)) ∧ (decode cJ9_max_7cf53 9 = .ok (.iload_n 1, 1)) ∧ (decode cJ9_max_7cf53 10 = .ok (.ireturn, 1)) := by decide +kernel
theorem dJ9_max_7cf53_0 : decode cJ9_max_7cf53 0 = .ok (.iload_n 0, 1) := gJ9_max_7cf53_0.1
theorem dJ9_max_7cf53_1 : decode cJ9_max_7cf53 1 = .ok (.iload_n 1, 1) := gJ9_max_7cf53_0.2.1
theorem dJ9_max_7cf53_2 : decode cJ9_max_7cf53 2 = .ok (.if_icmp .lt 7, 3) := gJ9_max_7cf53_0.2.2.1
theorem dJ9_max_7cf53_5 : decode cJ9_max_7cf53 5 = .ok (.iload_n 0, 1) := gJ9_max_7cf53_0.2.2.2.1
theorem dJ9_max_7cf53_6 : decode cJ9_max_7cf53 6 = .ok (.goto 4, 3) := gJ9_max_7cf53_0.2.2.2.2.1
theorem dJ9_max_7cf53_9 : decode cJ9_max_7cf53 9 = .ok (.iload_n 1, 1) := gJ9_max_7cf53_0.2.2.2.2.2.1
theorem dJ9_max_7cf53_10 : decode cJ9_max_7cf53 10 = .ok (.ireturn, 1) := gJ9_max_7cf53_0.2.2.2.2.2.2
theorem gJ9_max_f86c9_0 : (decode cJ9_max_f86c9 0 = .ok (.lload_n 0, 1)) ∧ (decode cJ9_max_f86c9 1 = .ok (.lload_n 2, 1)) ∧ (decode cJ9_max_f86c9 2 = .ok (.lcmp, 1)) ∧ (decode cJ9_max_f86c9 3 = .ok (.ifCond .lt 7, 3)) ∧ (decode cJ9_max_f86c9 6 = .ok (.lload_n 0, 1)) ∧ (decode cJ9_max_f86c9 7 = .ok (.goto 4, 3)) ∧ (decode cJ9_max_f86c9 10 = .ok (.lload_n 2, 1)) ∧ (decode cJ9_max_f86c9 11 = .ok (.lreturn, 1)) := by decide +kernel
theorem dJ9_max_f86c9_0 : decode cJ9_max_f86c9 0 = .ok (.lload_n 0, 1) := gJ9_max_f86c9_0.1
theorem dJ9_max_f86c9_1 : decode cJ9_max_f86c9 1 = .ok (.lload_n 2, 1) := gJ9_max_f86c9_0.2.1
theorem dJ9_max_f86c9_2 : decode cJ9_max_f86c9 2 = .ok (.lcmp, 1) := gJ9_max_f86c9_0.2.2.1
theorem dJ9_max_f86c9_3 : decode cJ9_max_f86c9 3 = .ok (.ifCond .lt 7, 3) := gJ9_max_f86c9_0.2.2.2.1
theorem dJ9_max_f86c9_6 : decode cJ9_max_f86c9 6 = .ok (.lload_n 0, 1) := gJ9_max_f86c9_0.2.2.2.2.1
theorem dJ9_max_f86c9_7 : decode cJ9_max_f86c9 7 = .ok (.goto 4, 3) := gJ9_max_f86c9_0.2.2.2.2.2.1
theorem dJ9_max_f86c9_10 : decode cJ9_max_f86c9 10 = .ok (.lload_n 2, 1) := gJ9_max_f86c9_0.2.2.2.2.2.2.1
theorem dJ9_max_f86c9_11 : decode cJ9_max_f86c9 11 = .ok (.lreturn, 1) := gJ9_max_f86c9_0.2.2.2.2.2.2.2
theorem gJ9_min_7cf53_0 : (decode cJ9_min_7cf53 0 = .ok (.iload_n 0, 1)) ∧ (decode cJ9_min_7cf53 1 = .ok (.iload_n 1, 1)) ∧ (decode cJ9_min_7cf53 2 = .ok (.if_icmp .gt 7, 3)) ∧ (decode cJ9_min_7cf53 5 = .ok (.iload_n 0, 1)) ∧ (decode cJ9_min_7cf53 6 = .ok (.goto 4, 3)) ∧ (decode cJ9_min_7cf53 9 = .ok (.iload_n 1, 1)) ∧ (decode cJ9_min_7cf53 10 = .ok (.ireturn, 1)) := by decide +kernel
theorem dJ9_min_7cf53_0 : decode cJ9_min_7cf53 0 = .ok (.iload_n 0, 1) := gJ9_min_7cf53_0.1
theorem dJ9_min_7cf53_1 : decode cJ9_min_7cf53 1 = .ok (.iload_n 1, 1) := gJ9_min_7cf53_0.2.1
theorem dJ9_min_7cf53_2 : decode cJ9_min_7cf53 2 = .ok (.if_icmp .gt 7, 3) := gJ9_min_7cf53_0.2.2.1
theorem dJ9_min_7cf53_5 : decode cJ9_min_7cf53 5 = .ok (.iload_n 0, 1) := gJ9_min_7cf53_0.2.2.2.1
theorem dJ9_min_7cf53_6 : decode cJ9_min_7cf53 6 = .ok (.goto 4, 3) := gJ9_min_7cf53_0.2.2.2.2.1
theorem dJ9_min_7cf53_9 : decode cJ9_min_7cf53 9 = .ok (.iload_n 1, 1) := gJ9_min_7cf53_0.2.2.2.2.2.1
theorem dJ9_min_7cf53_10 : decode cJ9_min_7cf53 10 = .ok (.ireturn, 1) := gJ9_min_7cf53_0.2.2.2.2.2.2
theorem gJ9_min_f86c9_0 : (decode cJ9_min_f86c9 0 = .ok (.lload_n 0, 1)) ∧ (decode cJ9_min_f86c9 1 = .ok (.lload_n 2, 1)) ∧ (decode cJ9_min_f86c9 2 = .ok (.lcmp, 1)) ∧ (decode cJ9_min_f86c9 3 = .ok (.ifCond .gt 7, 3)) ∧ (decode cJ9_min_f86c9 6 = .ok (.lload_n 0, 1)) ∧ (decode cJ9_min_f86c9 7 = .ok (.goto 4, 3)) ∧ (decode cJ9_min_f86c9 10 = .ok (.lload_n 2, 1)) ∧ (decode cJ9_min_f86c9 11 = .ok (.lreturn, 1)) := by decide +kernel
theorem dJ9_min_f86c9_0 : decode cJ9_min_f86c9 0 = .ok (.lload_n 0, 1) := gJ9_min_f86c9_0.1
theorem dJ9_min_f86c9_1 : decode cJ9_min_f86c9 1 = .ok (.lload_n 2, 1) := gJ9_min_f86c9_0.2.1
theorem dJ9_min_f86c9_2 : decode cJ9_min_f86c9 2 = .ok (.lcmp, 1) := gJ9_min_f86c9_0.2.2.1
theorem dJ9_min_f86c9_3 : decode cJ9_min_f86c9 3 = .ok (.ifCond .gt 7, 3) := gJ9_min_f86c9_0.2.2.2.1
theorem dJ9_min_f86c9_6 : decode cJ9_min_f86c9 6 = .ok (.lload_n 0, 1) := gJ9_min_f86c9_0.2.2.2.2.1
theorem dJ9_min_f86c9_7 : decode cJ9_min_f86c9 7 = .ok (.goto 4, 3) := gJ9_min_f86c9_0.2.2.2.2.2.1
theorem dJ9_min_f86c9_10 : decode cJ9_min_f86c9 10 = .ok (.lload_n 2, 1) := gJ9_min_f86c9_0.2.2.2.2.2.2.1
theorem dJ9_min_f86c9_11 : decode cJ9_min_f86c9 11 = .ok (.lreturn, 1) := gJ9_min_f86c9_0.2.2.2.2.2.2.2
theorem gJ7_fill_d0a16_0 : (decode cJ7_fill_d0a16 0 = .ok (.iconst 0, 1)) ∧ (decode cJ7_fill_d0a16 1 = .ok (.istore_n 3, 1)) ∧ (decode cJ7_fill_d0a16 2 = .ok (.aload_n 0, 1)) ∧ (decode cJ7_fill_d0a16 3 = .ok (.arraylength, 1)) ∧ (decode cJ7_fill_d0a16 4 = .ok (.istore 4, 2)) ∧ (decode cJ7_fill_d0a16 6 = .ok (.iload_n 3, 1)) ∧ (decode cJ7_fill_d0a16 7 = .ok (.iload 4, 2)) ∧ (decode cJ7_fill_d0a16 9 = .ok (.if_icmp .ge 13, 3)) ∧ (decode cJ7_fill_d0a16 12 = .ok (.aload_n 0, 1)) ∧ (decode cJ7_fill_d0a16 13 = .ok (.iload_n 3, 1)) ∧ (decode cJ7_fill_d0a16 14 = .ok (.lload_n 1, 1)) ∧ (decode cJ7_fill_d0a16 15 = .ok (.lastore, 1)) := by decide +kernel
theorem dJ7_fill_d0a16_0 : decode cJ7_fill_d0a16 0 = .ok (.iconst 0, 1) := gJ7_fill_d0a16_0.1
theorem dJ7_fill_d0a16_1 : decode cJ7_fill_d0a16 1 = .ok (.istore_n 3, 1) := gJ7_fill_d0a16_0.2.1
theorem dJ7_fill_d0a16_2 : decode cJ7_fill_d0a16 2 = .ok (.aload_n 0, 1) := gJ7_fill_d0a16_0.2.2.1
theorem dJ7_fill_d0a16_3 : decode cJ7_fill_d0a16 3 = .ok (.arraylength, 1) := gJ7_fill_d0a16_0.2.2.2.1
theorem dJ7_fill_d0a16_4 : decode cJ7_fill_d0a16 4 = .ok (.istore 4, 2) := gJ7_fill_d0a16_0.2.2.2.2.1
theorem dJ7_fill_d0a16_6 : decode cJ7_fill_d0a16 6 = .ok (.iload_n 3, 1) := gJ7_fill_d0a16_0.2.2.2.2.2.1
theorem dJ7_fill_d0a16_7 : decode cJ7_fill_d0a16 7 = .ok (.iload 4, 2) := gJ7_fill_d0a16_0.2.2.2.2.2.2.1
theorem dJ7_fill_d0a16_9 : decode cJ7_fill_d0a16 9 = .ok (.if_icmp .ge 13, 3) := gJ7_fill_d0a16_0.2.2.2.2.2.2.2.1
theorem dJ7_fill_d0a16_12 : decode cJ7_fill_d0a16 12 = .ok (.aload_n 0, 1) := gJ7_fill_d0a16_0.2.2.2.2.2.2.2.2.1
theorem dJ7_fill_d0a16_13 : decode cJ7_fill_d0a16 13 = .ok (.iload_n 3, 1) := gJ7_fill_d0a16_0.2.2.2.2.2.2.2.2.2.1
theorem dJ7_fill_d0a16_14 : decode cJ7_fill_d0a16 14 = .ok (.lload_n 1, 1) := gJ7_fill_d0a16_0.2.2.2.2.2.2.2.2.2.2.1
theorem dJ7_fill_d0a16_15 : decode cJ7_fill_d0a16 15 = .ok (.lastore, 1) := gJ7_fill_d0a16_0.2.2.2.2.2.2.2.2.2.2.2
theorem gJ7_fill_d0a16_12 : (decode cJ7_fill_d0a16 16 = .ok (.iinc 3 1, 3)) ∧ (decode cJ7_fill_d0a16 19 = .ok (.goto (-13), 3)) ∧ (decode cJ7_fill_d0a16 22 = .ok (.return_, 1)) := by decide +kernel
theorem dJ7_fill_d0a16_16 : decode cJ7_fill_d0a16 16 = .ok (.iinc 3 1, 3) := gJ7_fill_d0a16_12.1
theorem dJ7_fill_d0a16_19 : decode cJ7_fill_d0a16 19 = .ok (.goto (-13), 3) := gJ7_fill_d0a16_12.2.1
theorem dJ7_fill_d0a16_22 : decode cJ7_fill_d0a16 22 = .ok (.return_, 1) := gJ7_fill_d0a16_12.2.2
theorem gJ7_fill_53178_0 : (decode cJ7_fill_53178 0 = .ok (.iconst 0, 1)) ∧ (decode cJ7_fill_53178 1 = .ok (.istore_n 2, 1)) ∧ (decode cJ7_fill_53178 2 = .ok (.aload_n 0, 1)) ∧ (decode cJ7_fill_53178 3 = .ok (.arraylength, 1)) ∧ (decode cJ7_fill_53178 4 = .ok (.istore_n 3, 1)) ∧ (decode cJ7_fill_53178 5 = .ok (.iload_n 2, 1)) ∧ (decode cJ7_fill_53178 6 = .ok (.iload_n 3, 1)) ∧ (decode cJ7_fill_53178 7 = .ok (.if_icmp .ge 13, 3)) ∧ (decode cJ7_fill_53178 10 = .ok (.aload_n 0, 1)) ∧ (decode cJ7_fill_53178 11 = .ok (.iload_n 2, 1)) ∧ (decode cJ7_fill_53178 12 = .ok (.iload_n 1, 1)) ∧ (decode cJ7_fill_53178 13 = .ok (.iastore, 1)) := by decide +kernel
theorem dJ7_fill_53178_0 : decode cJ7_fill_53178 0 = .ok (.iconst 0, 1) := gJ7_fill_53178_0.1
theorem dJ7_fill_53178_1 : decode cJ7_fill_53178 1 = .ok (.istore_n 2, 1) := gJ7_fill_53178_0.2.1
theorem dJ7_fill_53178_2 : decode cJ7_fill_53178 2 = .ok (.aload_n 0, 1) := gJ7_fill_53178_0.2.2.1
theorem dJ7_fill_53178_3 : decode cJ7_fill_53178 3 = .ok (.arraylength, 1) := gJ7_fill_53178_0.2.2.2.1
theorem dJ7_fill_53178_4 : decode cJ7_fill_53178 4 = .ok (.istore_n 3, 1) := gJ7_fill_53178_0.2.2.2.2.1
theorem dJ7_fill_53178_5 : decode cJ7_fill_53178 5 = .ok (.iload_n 2, 1) := gJ7_fill_53178_0.2.2.2.2.2.1
theorem dJ7_fill_53178_6 : decode cJ7_fill_53178 6 = .ok (.iload_n 3, 1) := gJ7_fill_53178_0.2.2.2.2.2.2.1
theorem dJ7_fill_53178_7 : decode cJ7_fill_53178 7 = .ok (.if_icmp .ge 13, 3) := gJ7_fill_53178_0.2.2.2.2.2.2.2.1
theorem dJ7_fill_53178_10 : decode cJ7_fill_53178 10 = .ok (.aload_n 0, 1) := gJ7_fill_53178_0.2.2.2.2.2.2.2.2.1
theorem dJ7_fill_53178_11 : decode cJ7_fill_53178 11 = .ok (.iload_n 2, 1) := gJ7_fill_53178_0.2.2.2.2.2.2.2.2.2.1
theorem dJ7_fill_53178_12 : decode cJ7_fill_53178 12 = .ok (.iload_n 1, 1) := gJ7_fill_53178_0.2.2.2.2.2.2.2.2.2.2.1
theorem dJ7_fill_53178_13 : decode cJ7_fill_53178 13 = .ok (.iastore, 1) := gJ7_fill_53178_0.2.2.2.2.2.2.2.2.2.2.2
theorem gJ7_fill_53178_12 : (decode cJ7_fill_53178 14 = .ok (.iinc 2 1, 3)) ∧ (decode cJ7_fill_53178 17 = .ok (.goto (-12), 3)) ∧ (decode cJ7_fill_53178 20 = .ok (.return_, 1)) := by decide +kernel
theorem dJ7_fill_53178_14 : decode cJ7_fill_53178 14 = .ok (.iinc 2 1, 3) := gJ7_fill_53178_12.1
theorem dJ7_fill_53178_17 : decode cJ7_fill_53178 17 = .ok (.goto (-12), 3) := gJ7_fill_53178_12.2.1
theorem dJ7_fill_53178_20 : decode cJ7_fill_53178 20 = .ok (.return_, 1) := gJ7_fill_53178_12.2.2
