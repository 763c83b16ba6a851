def tX0_init_0 := Bt_0 cX0_init
theorem dX0_init_0 : decode cX0_init 0 = .ok (.aload_n 0, 1) := de_2a tX0_init_0
def tX0_init_1 := Bt_1 (q := 1) tX0_init_0 rfl
theorem dX0_init_1 : decode cX0_init 1 = .ok (.invokespecial 3, 3) := de_b7 tX0_init_1 (by decide +kernel)
def tX0_init_4 := Bt_3 (q := 4) tX0_init_1 rfl
theorem dX0_init_4 : decode cX0_init 4 = .ok (.aload_n 0, 1) := de_2a tX0_init_4
def tX0_init_5 := Bt_1 (q := 5) tX0_init_4 rfl
theorem dX0_init_5 : decode cX0_init 5 = .ok (.bipush 6, 2) := de_10 tX0_init_5 (by decide +kernel)
def tX0_init_7 := Bt_2 (q := 7) tX0_init_5 rfl
theorem dX0_init_7 : decode cX0_init 7 = .ok (.newarray .int, 2) := de_bc_0a tX0_init_7
def tX0_init_9 := Bt_2 (q := 9) tX0_init_7 rfl
theorem dX0_init_9 : decode cX0_init 9 = .ok (.putfield 9, 3) := de_b5 tX0_init_9 (by decide +kernel)
def tX0_init_12 := Bt_3 (q := 12) tX0_init_9 rfl
theorem dX0_init_12 : decode cX0_init 12 = .ok (.aload_n 0, 1) := de_2a tX0_init_12
def tX0_init_13 := Bt_1 (q := 13) tX0_init_12 rfl
theorem dX0_init_13 : decode cX0_init 13 = .ok (.bipush 20, 2) := de_10 tX0_init_13 (by decide +kernel)
def tX0_init_15 := Bt_2 (q := 15) tX0_init_13 rfl
theorem dX0_init_15 : decode cX0_init 15 = .ok (.newarray .int, 2) := de_bc_0a tX0_init_15
def tX0_init_17 := Bt_2 (q := 17) tX0_init_15 rfl
theorem dX0_init_17 : decode cX0_init 17 = .ok (.putfield 15, 3) := de_b5 tX0_init_17 (by decide +kernel)
def tX0_init_20 := Bt_3 (q := 20) tX0_init_17 rfl
theorem dX0_init_20 : decode cX0_init 20 = .ok (.aload_n 0, 1) := de_2a tX0_init_20
def tX0_init_21 := Bt_1 (q := 21) tX0_init_20 rfl
theorem dX0_init_21 : decode cX0_init 21 = .ok (.bipush 20, 2) := de_10 tX0_init_21 (by decide +kernel)
def tX0_init_23 := Bt_2 (q := 23) tX0_init_21 rfl
theorem dX0_init_23 : decode cX0_init 23 = .ok (.newarray .int, 2) := de_bc_0a tX0_init_23
def tX0_init_25 := Bt_2 (q := 25) tX0_init_23 rfl
theorem dX0_init_25 : decode cX0_init 25 = .ok (.putfield 18, 3) := de_b5 tX0_init_25 (by decide +kernel)
def tX0_init_28 := Bt_3 (q := 28) tX0_init_25 rfl
theorem dX0_init_28 : decode cX0_init 28 = .ok (.aload_n 0, 1) := de_2a tX0_init_28
def tX0_init_29 := Bt_1 (q := 29) tX0_init_28 rfl
theorem dX0_init_29 : decode cX0_init 29 = .ok (.bipush 20, 2) := de_10 tX0_init_29 (by decide +kernel)
def tX0_init_31 := Bt_2 (q := 31) tX0_init_29 rfl
theorem dX0_init_31 : decode cX0_init 31 = .ok (.newarray .boolean, 2) := de_bc_04 tX0_init_31
def tX0_init_33 := Bt_2 (q := 33) tX0_init_31 rfl
theorem dX0_init_33 : decode cX0_init 33 = .ok (.putfield 21, 3) := de_b5 tX0_init_33 (by decide +kernel)
def tX0_init_36 := Bt_3 (q := 36) tX0_init_33 rfl
theorem dX0_init_36 : decode cX0_init 36 = .ok (.aload_n 0, 1) := de_2a tX0_init_36
def tX0_init_37 := Bt_1 (q := 37) tX0_init_36 rfl
theorem dX0_init_37 : decode cX0_init 37 = .ok (.bipush 20, 2) := de_10 tX0_init_37 (by decide +kernel)
def tX0_init_39 := Bt_2 (q := 39) tX0_init_37 rfl
theorem dX0_init_39 : decode cX0_init 39 = .ok (.newarray .int, 2) := de_bc_0a tX0_init_39
def tX0_init_41 := Bt_2 (q := 41) tX0_init_39 rfl
theorem dX0_init_41 : decode cX0_init 41 = .ok (.putfield 25, 3) := de_b5 tX0_init_41 (by decide +kernel)
def tX0_init_44 := Bt_3 (q := 44) tX0_init_41 rfl
theorem dX0_init_44 : decode cX0_init 44 = .ok (.aload_n 0, 1) := de_2a tX0_init_44
def tX0_init_45 := Bt_1 (q := 45) tX0_init_44 rfl
theorem dX0_init_45 : decode cX0_init 45 = .ok (.bipush 6, 2) := de_10 tX0_init_45 (by decide +kernel)
def tX0_init_47 := Bt_2 (q := 47) tX0_init_45 rfl
theorem dX0_init_47 : decode cX0_init 47 = .ok (.newarray .int, 2) := de_bc_0a tX0_init_47
def tX0_init_49 := Bt_2 (q := 49) tX0_init_47 rfl
theorem dX0_init_49 : decode cX0_init 49 = .ok (.putfield 28, 3) := de_b5 tX0_init_49 (by decide +kernel)
def tX0_init_52 := Bt_3 (q := 52) tX0_init_49 rfl
theorem dX0_init_52 : decode cX0_init 52 = .ok (.aload_n 0, 1) := de_2a tX0_init_52
def tX0_init_53 := Bt_1 (q := 53) tX0_init_52 rfl
theorem dX0_init_53 : decode cX0_init 53 = .ok (.bipush 6, 2) := de_10 tX0_init_53 (by decide +kernel)
def tX0_init_55 := Bt_2 (q := 55) tX0_init_53 rfl
theorem dX0_init_55 : decode cX0_init 55 = .ok (.newarray .long, 2) := de_bc_0b tX0_init_55
def tX0_init_57 := Bt_2 (q := 57) tX0_init_55 rfl
theorem dX0_init_57 : decode cX0_init 57 = .ok (.putfield 31, 3) := de_b5 tX0_init_57 (by decide +kernel)
def tX0_init_60 := Bt_3 (q := 60) tX0_init_57 rfl
theorem dX0_init_60 : decode cX0_init 60 = .ok (.return_, 1) := de_b1 tX0_init_60
def tX0_begin_0 := Bt_0 cX0_begin
theorem dX0_begin_0 : decode cX0_begin 0 = .ok (.aload_n 0, 1) := de_2a tX0_begin_0
def tX0_begin_1 := Bt_1 (q := 1) tX0_begin_0 rfl
theorem dX0_begin_1 : decode cX0_begin 1 = .ok (.iconst 1, 1) := de_04 tX0_begin_1
def tX0_begin_2 := Bt_1 (q := 2) tX0_begin_1 rfl
theorem dX0_begin_2 : decode cX0_begin 2 = .ok (.putfield 35, 3) := de_b5 tX0_begin_2 (by decide +kernel)
def tX0_begin_5 := Bt_3 (q := 5) tX0_begin_2 rfl
theorem dX0_begin_5 : decode cX0_begin 5 = .ok (.aload_n 0, 1) := de_2a tX0_begin_5
def tX0_begin_6 := Bt_1 (q := 6) tX0_begin_5 rfl
theorem dX0_begin_6 : decode cX0_begin 6 = .ok (.iload_n 1, 1) := de_1b tX0_begin_6
def tX0_begin_7 := Bt_1 (q := 7) tX0_begin_6 rfl
theorem dX0_begin_7 : decode cX0_begin 7 = .ok (.putfield 39, 3) := de_b5 tX0_begin_7 (by decide +kernel)
def tX0_begin_10 := Bt_3 (q := 10) tX0_begin_7 rfl
theorem dX0_begin_10 : decode cX0_begin 10 = .ok (.aload_n 0, 1) := de_2a tX0_begin_10
def tX0_begin_11 := Bt_1 (q := 11) tX0_begin_10 rfl
theorem dX0_begin_11 : decode cX0_begin 11 = .ok (.dup, 1) := de_59 tX0_begin_11
def tX0_begin_12 := Bt_1 (q := 12) tX0_begin_11 rfl
theorem dX0_begin_12 : decode cX0_begin 12 = .ok (.getfield 43, 3) := de_b4 tX0_begin_12 (by decide +kernel)
def tX0_begin_15 := Bt_3 (q := 15) tX0_begin_12 rfl
theorem dX0_begin_15 : decode cX0_begin 15 = .ok (.iconst 1, 1) := de_04 tX0_begin_15
def tX0_begin_16 := Bt_1 (q := 16) tX0_begin_15 rfl
theorem dX0_begin_16 : decode cX0_begin 16 = .ok (.iadd, 1) := de_60 tX0_begin_16
def tX0_begin_17 := Bt_1 (q := 17) tX0_begin_16 rfl
theorem dX0_begin_17 : decode cX0_begin 17 = .ok (.putfield 43, 3) := de_b5 tX0_begin_17 (by decide +kernel)
def tX0_begin_20 := Bt_3 (q := 20) tX0_begin_17 rfl
theorem dX0_begin_20 : decode cX0_begin 20 = .ok (.return_, 1) := de_b1 tX0_begin_20
def tX0_give_0 := Bt_0 cX0_give
theorem dX0_give_0 : decode cX0_give 0 = .ok (.aload_n 0, 1) := de_2a tX0_give_0
def tX0_give_1 := Bt_1 (q := 1) tX0_give_0 rfl
theorem dX0_give_1 : decode cX0_give 1 = .ok (.getfield 9, 3) := de_b4 tX0_give_1 (by decide +kernel)
def tX0_give_4 := Bt_3 (q := 4) tX0_give_1 rfl
theorem dX0_give_4 : decode cX0_give 4 = .ok (.iload_n 1, 1) := de_1b tX0_give_4
def tX0_give_5 := Bt_1 (q := 5) tX0_give_4 rfl
theorem dX0_give_5 : decode cX0_give 5 = .ok (.iload_n 2, 1) := de_1c tX0_give_5
def tX0_give_6 := Bt_1 (q := 6) tX0_give_5 rfl
theorem dX0_give_6 : decode cX0_give 6 = .ok (.iastore, 1) := de_4f tX0_give_6
def tX0_give_7 := Bt_1 (q := 7) tX0_give_6 rfl
theorem dX0_give_7 : decode cX0_give 7 = .ok (.aload_n 0, 1) := de_2a tX0_give_7
def tX0_give_8 := Bt_1 (q := 8) tX0_give_7 rfl
theorem dX0_give_8 : decode cX0_give 8 = .ok (.getfield 28, 3) := de_b4 tX0_give_8 (by decide +kernel)
def tX0_give_11 := Bt_3 (q := 11) tX0_give_8 rfl
theorem dX0_give_11 : decode cX0_give 11 = .ok (.iload_n 1, 1) := de_1b tX0_give_11
def tX0_give_12 := Bt_1 (q := 12) tX0_give_11 rfl
theorem dX0_give_12 : decode cX0_give 12 = .ok (.iload_n 3, 1) := de_1d tX0_give_12
def tX0_give_13 := Bt_1 (q := 13) tX0_give_12 rfl
theorem dX0_give_13 : decode cX0_give 13 = .ok (.iastore, 1) := de_4f tX0_give_13
def tX0_give_14 := Bt_1 (q := 14) tX0_give_13 rfl
theorem dX0_give_14 : decode cX0_give 14 = .ok (.return_, 1) := de_b1 tX0_give_14
def tX0_isStandstillOver_0 := Bt_0 cX0_isStandstillOver
theorem dX0_isStandstillOver_0 : decode cX0_isStandstillOver 0 = .ok (.iload_n 1, 1) := de_1b tX0_isStandstillOver_0
def tX0_isStandstillOver_1 := Bt_1 (q := 1) tX0_isStandstillOver_0 rfl
theorem dX0_isStandstillOver_1 : decode cX0_isStandstillOver 1 = .ok (.aload_n 0, 1) := de_2a tX0_isStandstillOver_1
def tX0_isStandstillOver_2 := Bt_1 (q := 2) tX0_isStandstillOver_1 rfl
theorem dX0_isStandstillOver_2 : decode cX0_isStandstillOver 2 = .ok (.getfield 39, 3) := de_b4 tX0_isStandstillOver_2 (by decide +kernel)
def tX0_isStandstillOver_5 := Bt_3 (q := 5) tX0_isStandstillOver_2 rfl
theorem dX0_isStandstillOver_5 : decode cX0_isStandstillOver 5 = .ok (.if_icmp .le 7, 3) := de_a4 tX0_isStandstillOver_5 (by decide +kernel)
def tX0_isStandstillOver_8 := Bt_3 (q := 8) tX0_isStandstillOver_5 rfl
theorem dX0_isStandstillOver_8 : decode cX0_isStandstillOver 8 = .ok (.iconst 1, 1) := de_04 tX0_isStandstillOver_8
def tX0_isStandstillOver_9 := Bt_1 (q := 9) tX0_isStandstillOver_8 rfl
theorem dX0_isStandstillOver_9 : decode cX0_isStandstillOver 9 = .ok (.goto 4, 3) := de_a7 tX0_isStandstillOver_9 (by decide +kernel)
def tX0_isStandstillOver_12 := Bt_3 (q := 12) tX0_isStandstillOver_9 rfl
theorem dX0_isStandstillOver_12 : decode cX0_isStandstillOver 12 = .ok (.iconst 0, 1) := de_03 tX0_isStandstillOver_12
def tX0_isStandstillOver_13 := Bt_1 (q := 13) tX0_isStandstillOver_12 rfl
theorem dX0_isStandstillOver_13 : decode cX0_isStandstillOver 13 = .ok (.ireturn, 1) := de_ac tX0_isStandstillOver_13
def tX0_addChallenge_0 := Bt_0 cX0_addChallenge
theorem dX0_addChallenge_0 : decode cX0_addChallenge 0 = .ok (.aload_n 0, 1) := de_2a tX0_addChallenge_0
def tX0_addChallenge_1 := Bt_1 (q := 1) tX0_addChallenge_0 rfl
theorem dX0_addChallenge_1 : decode cX0_addChallenge 1 = .ok (.getfield 46, 3) := de_b4 tX0_addChallenge_1 (by decide +kernel)
def tX0_addChallenge_4 := Bt_3 (q := 4) tX0_addChallenge_1 rfl
theorem dX0_addChallenge_4 : decode cX0_addChallenge 4 = .ok (.istore_n 3, 1) := de_3e tX0_addChallenge_4
def tX0_addChallenge_5 := Bt_1 (q := 5) tX0_addChallenge_4 rfl
theorem dX0_addChallenge_5 : decode cX0_addChallenge 5 = .ok (.aload_n 0, 1) := de_2a tX0_addChallenge_5
def tX0_addChallenge_6 := Bt_1 (q := 6) tX0_addChallenge_5 rfl
theorem dX0_addChallenge_6 : decode cX0_addChallenge 6 = .ok (.getfield 15, 3) := de_b4 tX0_addChallenge_6 (by decide +kernel)
def tX0_addChallenge_9 := Bt_3 (q := 9) tX0_addChallenge_6 rfl
theorem dX0_addChallenge_9 : decode cX0_addChallenge 9 = .ok (.iload_n 3, 1) := de_1d tX0_addChallenge_9
def tX0_addChallenge_10 := Bt_1 (q := 10) tX0_addChallenge_9 rfl
theorem dX0_addChallenge_10 : decode cX0_addChallenge 10 = .ok (.iload_n 1, 1) := de_1b tX0_addChallenge_10
def tX0_addChallenge_11 := Bt_1 (q := 11) tX0_addChallenge_10 rfl
theorem dX0_addChallenge_11 : decode cX0_addChallenge 11 = .ok (.iastore, 1) := de_4f tX0_addChallenge_11
def tX0_addChallenge_12 := Bt_1 (q := 12) tX0_addChallenge_11 rfl
theorem dX0_addChallenge_12 : decode cX0_addChallenge 12 = .ok (.aload_n 0, 1) := de_2a tX0_addChallenge_12
def tX0_addChallenge_13 := Bt_1 (q := 13) tX0_addChallenge_12 rfl
theorem dX0_addChallenge_13 : decode cX0_addChallenge 13 = .ok (.getfield 18, 3) := de_b4 tX0_addChallenge_13 (by decide +kernel)
def tX0_addChallenge_16 := Bt_3 (q := 16) tX0_addChallenge_13 rfl
theorem dX0_addChallenge_16 : decode cX0_addChallenge 16 = .ok (.iload_n 3, 1) := de_1d tX0_addChallenge_16
def tX0_addChallenge_17 := Bt_1 (q := 17) tX0_addChallenge_16 rfl
theorem dX0_addChallenge_17 : decode cX0_addChallenge 17 = .ok (.iload_n 2, 1) := de_1c tX0_addChallenge_17
def tX0_addChallenge_18 := Bt_1 (q := 18) tX0_addChallenge_17 rfl
theorem dX0_addChallenge_18 : decode cX0_addChallenge 18 = .ok (.iastore, 1) := de_4f tX0_addChallenge_18
def tX0_addChallenge_19 := Bt_1 (q := 19) tX0_addChallenge_18 rfl
theorem dX0_addChallenge_19 : decode cX0_addChallenge 19 = .ok (.aload_n 0, 1) := de_2a tX0_addChallenge_19
def tX0_addChallenge_20 := Bt_1 (q := 20) tX0_addChallenge_19 rfl
theorem dX0_addChallenge_20 : decode cX0_addChallenge 20 = .ok (.getfield 25, 3) := de_b4 tX0_addChallenge_20 (by decide +kernel)
def tX0_addChallenge_23 := Bt_3 (q := 23) tX0_addChallenge_20 rfl
theorem dX0_addChallenge_23 : decode cX0_addChallenge 23 = .ok (.iload_n 3, 1) := de_1d tX0_addChallenge_23
def tX0_addChallenge_24 := Bt_1 (q := 24) tX0_addChallenge_23 rfl
theorem dX0_addChallenge_24 : decode cX0_addChallenge 24 = .ok (.aload_n 0, 1) := de_2a tX0_addChallenge_24
def tX0_addChallenge_25 := Bt_1 (q := 25) tX0_addChallenge_24 rfl
theorem dX0_addChallenge_25 : decode cX0_addChallenge 25 = .ok (.getfield 43, 3) := de_b4 tX0_addChallenge_25 (by decide +kernel)
def tX0_addChallenge_28 := Bt_3 (q := 28) tX0_addChallenge_25 rfl
theorem dX0_addChallenge_28 : decode cX0_addChallenge 28 = .ok (.iastore, 1) := de_4f tX0_addChallenge_28
def tX0_addChallenge_29 := Bt_1 (q := 29) tX0_addChallenge_28 rfl
theorem dX0_addChallenge_29 : decode cX0_addChallenge 29 = .ok (.aload_n 0, 1) := de_2a tX0_addChallenge_29
def tX0_addChallenge_30 := Bt_1 (q := 30) tX0_addChallenge_29 rfl
theorem dX0_addChallenge_30 : decode cX0_addChallenge 30 = .ok (.dup, 1) := de_59 tX0_addChallenge_30
def tX0_addChallenge_31 := Bt_1 (q := 31) tX0_addChallenge_30 rfl
theorem dX0_addChallenge_31 : decode cX0_addChallenge 31 = .ok (.getfield 46, 3) := de_b4 tX0_addChallenge_31 (by decide +kernel)
def tX0_addChallenge_34 := Bt_3 (q := 34) tX0_addChallenge_31 rfl
theorem dX0_addChallenge_34 : decode cX0_addChallenge 34 = .ok (.iconst 1, 1) := de_04 tX0_addChallenge_34
def tX0_addChallenge_35 := Bt_1 (q := 35) tX0_addChallenge_34 rfl
theorem dX0_addChallenge_35 : decode cX0_addChallenge 35 = .ok (.iadd, 1) := de_60 tX0_addChallenge_35
def tX0_addChallenge_36 := Bt_1 (q := 36) tX0_addChallenge_35 rfl
theorem dX0_addChallenge_36 : decode cX0_addChallenge 36 = .ok (.putfield 46, 3) := de_b5 tX0_addChallenge_36 (by decide +kernel)
def tX0_addChallenge_39 := Bt_3 (q := 39) tX0_addChallenge_36 rfl
theorem dX0_addChallenge_39 : decode cX0_addChallenge 39 = .ok (.iload_n 3, 1) := de_1d tX0_addChallenge_39
def tX0_addChallenge_40 := Bt_1 (q := 40) tX0_addChallenge_39 rfl
theorem dX0_addChallenge_40 : decode cX0_addChallenge 40 = .ok (.ireturn, 1) := de_ac tX0_addChallenge_40
def tX0_holds_0 := Bt_0 cX0_holds
theorem dX0_holds_0 : decode cX0_holds 0 = .ok (.aload_n 0, 1) := de_2a tX0_holds_0
def tX0_holds_1 := Bt_1 (q := 1) tX0_holds_0 rfl
theorem dX0_holds_1 : decode cX0_holds 1 = .ok (.getfield 35, 3) := de_b4 tX0_holds_1 (by decide +kernel)
def tX0_holds_4 := Bt_3 (q := 4) tX0_holds_1 rfl
theorem dX0_holds_4 : decode cX0_holds 4 = .ok (.ifCond .eq 29, 3) := de_99 tX0_holds_4 (by decide +kernel)
def tX0_holds_7 := Bt_3 (q := 7) tX0_holds_4 rfl
theorem dX0_holds_7 : decode cX0_holds 7 = .ok (.aload_n 0, 1) := de_2a tX0_holds_7
def tX0_holds_8 := Bt_1 (q := 8) tX0_holds_7 rfl
theorem dX0_holds_8 : decode cX0_holds 8 = .ok (.getfield 21, 3) := de_b4 tX0_holds_8 (by decide +kernel)
def tX0_holds_11 := Bt_3 (q := 11) tX0_holds_8 rfl
theorem dX0_holds_11 : decode cX0_holds 11 = .ok (.iload_n 1, 1) := de_1b tX0_holds_11
def tX0_holds_12 := Bt_1 (q := 12) tX0_holds_11 rfl
theorem dX0_holds_12 : decode cX0_holds 12 = .ok (.baload, 1) := de_33 tX0_holds_12
def tX0_holds_13 := Bt_1 (q := 13) tX0_holds_12 rfl
theorem dX0_holds_13 : decode cX0_holds 13 = .ok (.ifCond .ne 20, 3) := de_9a tX0_holds_13 (by decide +kernel)
def tX0_holds_16 := Bt_3 (q := 16) tX0_holds_13 rfl
theorem dX0_holds_16 : decode cX0_holds 16 = .ok (.aload_n 0, 1) := de_2a tX0_holds_16
def tX0_holds_17 := Bt_1 (q := 17) tX0_holds_16 rfl
theorem dX0_holds_17 : decode cX0_holds 17 = .ok (.getfield 25, 3) := de_b4 tX0_holds_17 (by decide +kernel)
def tX0_holds_20 := Bt_3 (q := 20) tX0_holds_17 rfl
theorem dX0_holds_20 : decode cX0_holds 20 = .ok (.iload_n 1, 1) := de_1b tX0_holds_20
def tX0_holds_21 := Bt_1 (q := 21) tX0_holds_20 rfl
theorem dX0_holds_21 : decode cX0_holds 21 = .ok (.iaload, 1) := de_2e tX0_holds_21
def tX0_holds_22 := Bt_1 (q := 22) tX0_holds_21 rfl
theorem dX0_holds_22 : decode cX0_holds 22 = .ok (.aload_n 0, 1) := de_2a tX0_holds_22
def tX0_holds_23 := Bt_1 (q := 23) tX0_holds_22 rfl
theorem dX0_holds_23 : decode cX0_holds 23 = .ok (.getfield 43, 3) := de_b4 tX0_holds_23 (by decide +kernel)
def tX0_holds_26 := Bt_3 (q := 26) tX0_holds_23 rfl
theorem dX0_holds_26 : decode cX0_holds 26 = .ok (.if_icmp .ne 7, 3) := de_a0 tX0_holds_26 (by decide +kernel)
def tX0_holds_29 := Bt_3 (q := 29) tX0_holds_26 rfl
theorem dX0_holds_29 : decode cX0_holds 29 = .ok (.iconst 1, 1) := de_04 tX0_holds_29
def tX0_holds_30 := Bt_1 (q := 30) tX0_holds_29 rfl
theorem dX0_holds_30 : decode cX0_holds 30 = .ok (.goto 4, 3) := de_a7 tX0_holds_30 (by decide +kernel)
def tX0_holds_33 := Bt_3 (q := 33) tX0_holds_30 rfl
theorem dX0_holds_33 : decode cX0_holds 33 = .ok (.iconst 0, 1) := de_03 tX0_holds_33
def tX0_holds_34 := Bt_1 (q := 34) tX0_holds_33 rfl
theorem dX0_holds_34 : decode cX0_holds 34 = .ok (.ireturn, 1) := de_ac tX0_holds_34
def tX0_countHolding_0 := Bt_0 cX0_countHolding
theorem dX0_countHolding_0 : decode cX0_countHolding 0 = .ok (.iconst 0, 1) := de_03 tX0_countHolding_0
def tX0_countHolding_1 := Bt_1 (q := 1) tX0_countHolding_0 rfl
theorem dX0_countHolding_1 : decode cX0_countHolding 1 = .ok (.istore_n 1, 1) := de_3c tX0_countHolding_1
def tX0_countHolding_2 := Bt_1 (q := 2) tX0_countHolding_1 rfl
theorem dX0_countHolding_2 : decode cX0_countHolding 2 = .ok (.iconst 0, 1) := de_03 tX0_countHolding_2
def tX0_countHolding_3 := Bt_1 (q := 3) tX0_countHolding_2 rfl
theorem dX0_countHolding_3 : decode cX0_countHolding 3 = .ok (.istore_n 2, 1) := de_3d tX0_countHolding_3
def tX0_countHolding_4 := Bt_1 (q := 4) tX0_countHolding_3 rfl
theorem dX0_countHolding_4 : decode cX0_countHolding 4 = .ok (.iload_n 2, 1) := de_1c tX0_countHolding_4
def tX0_countHolding_5 := Bt_1 (q := 5) tX0_countHolding_4 rfl
theorem dX0_countHolding_5 : decode cX0_countHolding 5 = .ok (.aload_n 0, 1) := de_2a tX0_countHolding_5
def tX0_countHolding_6 := Bt_1 (q := 6) tX0_countHolding_5 rfl
theorem dX0_countHolding_6 : decode cX0_countHolding 6 = .ok (.getfield 46, 3) := de_b4 tX0_countHolding_6 (by decide +kernel)
def tX0_countHolding_9 := Bt_3 (q := 9) tX0_countHolding_6 rfl
theorem dX0_countHolding_9 : decode cX0_countHolding 9 = .ok (.if_icmp .ge 26, 3) := de_a2 tX0_countHolding_9 (by decide +kernel)
def tX0_countHolding_12 := Bt_3 (q := 12) tX0_countHolding_9 rfl
theorem dX0_countHolding_12 : decode cX0_countHolding 12 = .ok (.iload_n 2, 1) := de_1c tX0_countHolding_12
def tX0_countHolding_13 := Bt_1 (q := 13) tX0_countHolding_12 rfl
theorem dX0_countHolding_13 : decode cX0_countHolding 13 = .ok (.bipush 20, 2) := de_10 tX0_countHolding_13 (by decide +kernel)
def tX0_countHolding_15 := Bt_2 (q := 15) tX0_countHolding_13 rfl
theorem dX0_countHolding_15 : decode cX0_countHolding 15 = .ok (.if_icmp .ge 20, 3) := de_a2 tX0_countHolding_15 (by decide +kernel)
def tX0_countHolding_18 := Bt_3 (q := 18) tX0_countHolding_15 rfl
theorem dX0_countHolding_18 : decode cX0_countHolding 18 = .ok (.aload_n 0, 1) := de_2a tX0_countHolding_18
def tX0_countHolding_19 := Bt_1 (q := 19) tX0_countHolding_18 rfl
theorem dX0_countHolding_19 : decode cX0_countHolding 19 = .ok (.iload_n 2, 1) := de_1c tX0_countHolding_19
def tX0_countHolding_20 := Bt_1 (q := 20) tX0_countHolding_19 rfl
theorem dX0_countHolding_20 : decode cX0_countHolding 20 = .ok (.invokevirtual 49, 3) := de_b6 tX0_countHolding_20 (by decide +kernel)
def tX0_countHolding_23 := Bt_3 (q := 23) tX0_countHolding_20 rfl
theorem dX0_countHolding_23 : decode cX0_countHolding 23 = .ok (.ifCond .eq 6, 3) := de_99 tX0_countHolding_23 (by decide +kernel)
def tX0_countHolding_26 := Bt_3 (q := 26) tX0_countHolding_23 rfl
theorem dX0_countHolding_26 : decode cX0_countHolding 26 = .ok (.iinc 1 1, 3) := de_84 tX0_countHolding_26 (by decide +kernel) (by decide +kernel)
def tX0_countHolding_29 := Bt_3 (q := 29) tX0_countHolding_26 rfl
theorem dX0_countHolding_29 : decode cX0_countHolding 29 = .ok (.iinc 2 1, 3) := de_84 tX0_countHolding_29 (by decide +kernel) (by decide +kernel)
def tX0_countHolding_32 := Bt_3 (q := 32) tX0_countHolding_29 rfl
theorem dX0_countHolding_32 : decode cX0_countHolding 32 = .ok (.goto (-28), 3) := de_a7 tX0_countHolding_32 (by decide +kernel)
def tX0_countHolding_35 := Bt_3 (q := 35) tX0_countHolding_32 rfl
theorem dX0_countHolding_35 : decode cX0_countHolding 35 = .ok (.iload_n 1, 1) := de_1b tX0_countHolding_35
def tX0_countHolding_36 := Bt_1 (q := 36) tX0_countHolding_35 rfl
theorem dX0_countHolding_36 : decode cX0_countHolding 36 = .ok (.ireturn, 1) := de_ac tX0_countHolding_36
def tX0_addChange_0 := Bt_0 cX0_addChange
theorem dX0_addChange_0 : decode cX0_addChange 0 = .ok (.aload_n 0, 1) := de_2a tX0_addChange_0
def tX0_addChange_1 := Bt_1 (q := 1) tX0_addChange_0 rfl
theorem dX0_addChange_1 : decode cX0_addChange 1 = .ok (.getfield 31, 3) := de_b4 tX0_addChange_1 (by decide +kernel)
def tX0_addChange_4 := Bt_3 (q := 4) tX0_addChange_1 rfl
theorem dX0_addChange_4 : decode cX0_addChange 4 = .ok (.iload_n 1, 1) := de_1b tX0_addChange_4
def tX0_addChange_5 := Bt_1 (q := 5) tX0_addChange_4 rfl
theorem dX0_addChange_5 : decode cX0_addChange 5 = .ok (.laload, 1) := de_2f tX0_addChange_5
def tX0_addChange_6 := Bt_1 (q := 6) tX0_addChange_5 rfl
theorem dX0_addChange_6 : decode cX0_addChange 6 = .ok (.iload_n 2, 1) := de_1c tX0_addChange_6
def tX0_addChange_7 := Bt_1 (q := 7) tX0_addChange_6 rfl
theorem dX0_addChange_7 : decode cX0_addChange 7 = .ok (.i2l, 1) := de_85 tX0_addChange_7
def tX0_addChange_8 := Bt_1 (q := 8) tX0_addChange_7 rfl
theorem dX0_addChange_8 : decode cX0_addChange 8 = .ok (.ladd, 1) := de_61 tX0_addChange_8
def tX0_addChange_9 := Bt_1 (q := 9) tX0_addChange_8 rfl
theorem dX0_addChange_9 : decode cX0_addChange 9 = .ok (.lstore 4, 2) := de_37 tX0_addChange_9 (by decide +kernel)
def tX0_addChange_11 := Bt_2 (q := 11) tX0_addChange_9 rfl
theorem dX0_addChange_11 : decode cX0_addChange 11 = .ok (.lload 4, 2) := de_16 tX0_addChange_11 (by decide +kernel)
def tX0_addChange_13 := Bt_2 (q := 13) tX0_addChange_11 rfl
theorem dX0_addChange_13 : decode cX0_addChange 13 = .ok (.ldc2_w 53, 3) := de_14 tX0_addChange_13 (by decide +kernel)
def tX0_addChange_16 := Bt_3 (q := 16) tX0_addChange_13 rfl
theorem dX0_addChange_16 : decode cX0_addChange 16 = .ok (.lmul, 1) := de_69 tX0_addChange_16
def tX0_addChange_17 := Bt_1 (q := 17) tX0_addChange_16 rfl
theorem dX0_addChange_17 : decode cX0_addChange 17 = .ok (.iload_n 3, 1) := de_1d tX0_addChange_17
def tX0_addChange_18 := Bt_1 (q := 18) tX0_addChange_17 rfl
theorem dX0_addChange_18 : decode cX0_addChange 18 = .ok (.i2l, 1) := de_85 tX0_addChange_18
def tX0_addChange_19 := Bt_1 (q := 19) tX0_addChange_18 rfl
theorem dX0_addChange_19 : decode cX0_addChange 19 = .ok (.aload_n 0, 1) := de_2a tX0_addChange_19
def tX0_addChange_20 := Bt_1 (q := 20) tX0_addChange_19 rfl
theorem dX0_addChange_20 : decode cX0_addChange 20 = .ok (.getfield 28, 3) := de_b4 tX0_addChange_20 (by decide +kernel)
def tX0_addChange_23 := Bt_3 (q := 23) tX0_addChange_20 rfl
theorem dX0_addChange_23 : decode cX0_addChange 23 = .ok (.iload_n 1, 1) := de_1b tX0_addChange_23
def tX0_addChange_24 := Bt_1 (q := 24) tX0_addChange_23 rfl
theorem dX0_addChange_24 : decode cX0_addChange 24 = .ok (.iaload, 1) := de_2e tX0_addChange_24
def tX0_addChange_25 := Bt_1 (q := 25) tX0_addChange_24 rfl
theorem dX0_addChange_25 : decode cX0_addChange 25 = .ok (.i2l, 1) := de_85 tX0_addChange_25
def tX0_addChange_26 := Bt_1 (q := 26) tX0_addChange_25 rfl
theorem dX0_addChange_26 : decode cX0_addChange 26 = .ok (.lmul, 1) := de_69 tX0_addChange_26
def tX0_addChange_27 := Bt_1 (q := 27) tX0_addChange_26 rfl
theorem dX0_addChange_27 : decode cX0_addChange 27 = .ok (.lcmp, 1) := de_94 tX0_addChange_27
def tX0_addChange_28 := Bt_1 (q := 28) tX0_addChange_27 rfl
theorem dX0_addChange_28 : decode cX0_addChange 28 = .ok (.ifCond .le 6, 3) := de_9e tX0_addChange_28 (by decide +kernel)
def tX0_addChange_31 := Bt_3 (q := 31) tX0_addChange_28 rfl
theorem dX0_addChange_31 : decode cX0_addChange 31 = .ok (.bipush (-9), 2) := de_10 tX0_addChange_31 (by decide +kernel)
def tX0_addChange_33 := Bt_2 (q := 33) tX0_addChange_31 rfl
theorem dX0_addChange_33 : decode cX0_addChange 33 = .ok (.ireturn, 1) := de_ac tX0_addChange_33
def tX0_addChange_34 := Bt_1 (q := 34) tX0_addChange_33 rfl
theorem dX0_addChange_34 : decode cX0_addChange 34 = .ok (.aload_n 0, 1) := de_2a tX0_addChange_34
def tX0_addChange_35 := Bt_1 (q := 35) tX0_addChange_34 rfl
theorem dX0_addChange_35 : decode cX0_addChange 35 = .ok (.getfield 31, 3) := de_b4 tX0_addChange_35 (by decide +kernel)
def tX0_addChange_38 := Bt_3 (q := 38) tX0_addChange_35 rfl
theorem dX0_addChange_38 : decode cX0_addChange 38 = .ok (.iload_n 1, 1) := de_1b tX0_addChange_38
def tX0_addChange_39 := Bt_1 (q := 39) tX0_addChange_38 rfl
theorem dX0_addChange_39 : decode cX0_addChange 39 = .ok (.lload 4, 2) := de_16 tX0_addChange_39 (by decide +kernel)
def tX0_addChange_41 := Bt_2 (q := 41) tX0_addChange_39 rfl
theorem dX0_addChange_41 : decode cX0_addChange 41 = .ok (.lastore, 1) := de_50 tX0_addChange_41
def tX0_addChange_42 := Bt_1 (q := 42) tX0_addChange_41 rfl
theorem dX0_addChange_42 : decode cX0_addChange 42 = .ok (.lload 4, 2) := de_16 tX0_addChange_42 (by decide +kernel)
def tX0_addChange_44 := Bt_2 (q := 44) tX0_addChange_42 rfl
theorem dX0_addChange_44 : decode cX0_addChange 44 = .ok (.l2i, 1) := de_88 tX0_addChange_44
def tX0_addChange_45 := Bt_1 (q := 45) tX0_addChange_44 rfl
theorem dX0_addChange_45 : decode cX0_addChange 45 = .ok (.ireturn, 1) := de_ac tX0_addChange_45
def tX1_init_0 := Bt_0 cX1_init
theorem dX1_init_0 : decode cX1_init 0 = .ok (.aload_n 0, 1) := de_2a tX1_init_0
def tX1_init_1 := Bt_1 (q := 1) tX1_init_0 rfl
theorem dX1_init_1 : decode cX1_init 1 = .ok (.invokespecial 3, 3) := de_b7 tX1_init_1 (by decide +kernel)
def tX1_init_4 := Bt_3 (q := 4) tX1_init_1 rfl
theorem dX1_init_4 : decode cX1_init 4 = .ok (.aload_n 0, 1) := de_2a tX1_init_4
def tX1_init_5 := Bt_1 (q := 5) tX1_init_4 rfl
theorem dX1_init_5 : decode cX1_init 5 = .ok (.iconst 4, 1) := de_07 tX1_init_5
def tX1_init_6 := Bt_1 (q := 6) tX1_init_5 rfl
theorem dX1_init_6 : decode cX1_init 6 = .ok (.newarray .int, 2) := de_bc_0a tX1_init_6
def tX1_init_8 := Bt_2 (q := 8) tX1_init_6 rfl
theorem dX1_init_8 : decode cX1_init 8 = .ok (.dup, 1) := de_59 tX1_init_8
def tX1_init_9 := Bt_1 (q := 9) tX1_init_8 rfl
theorem dX1_init_9 : decode cX1_init 9 = .ok (.iconst 0, 1) := de_03 tX1_init_9
def tX1_init_10 := Bt_1 (q := 10) tX1_init_9 rfl
theorem dX1_init_10 : decode cX1_init 10 = .ok (.iconst 0, 1) := de_03 tX1_init_10
def tX1_init_11 := Bt_1 (q := 11) tX1_init_10 rfl
theorem dX1_init_11 : decode cX1_init 11 = .ok (.iastore, 1) := de_4f tX1_init_11
def tX1_init_12 := Bt_1 (q := 12) tX1_init_11 rfl
theorem dX1_init_12 : decode cX1_init 12 = .ok (.dup, 1) := de_59 tX1_init_12
def tX1_init_13 := Bt_1 (q := 13) tX1_init_12 rfl
theorem dX1_init_13 : decode cX1_init 13 = .ok (.iconst 1, 1) := de_04 tX1_init_13
def tX1_init_14 := Bt_1 (q := 14) tX1_init_13 rfl
theorem dX1_init_14 : decode cX1_init 14 = .ok (.iconst 0, 1) := de_03 tX1_init_14
def tX1_init_15 := Bt_1 (q := 15) tX1_init_14 rfl
theorem dX1_init_15 : decode cX1_init 15 = .ok (.iastore, 1) := de_4f tX1_init_15
def tX1_init_16 := Bt_1 (q := 16) tX1_init_15 rfl
theorem dX1_init_16 : decode cX1_init 16 = .ok (.dup, 1) := de_59 tX1_init_16
def tX1_init_17 := Bt_1 (q := 17) tX1_init_16 rfl
theorem dX1_init_17 : decode cX1_init 17 = .ok (.iconst 2, 1) := de_05 tX1_init_17
def tX1_init_18 := Bt_1 (q := 18) tX1_init_17 rfl
theorem dX1_init_18 : decode cX1_init 18 = .ok (.iconst 0, 1) := de_03 tX1_init_18
def tX1_init_19 := Bt_1 (q := 19) tX1_init_18 rfl
theorem dX1_init_19 : decode cX1_init 19 = .ok (.iastore, 1) := de_4f tX1_init_19
def tX1_init_20 := Bt_1 (q := 20) tX1_init_19 rfl
theorem dX1_init_20 : decode cX1_init 20 = .ok (.dup, 1) := de_59 tX1_init_20
def tX1_init_21 := Bt_1 (q := 21) tX1_init_20 rfl
theorem dX1_init_21 : decode cX1_init 21 = .ok (.iconst 3, 1) := de_06 tX1_init_21
def tX1_init_22 := Bt_1 (q := 22) tX1_init_21 rfl
theorem dX1_init_22 : decode cX1_init 22 = .ok (.bipush 50, 2) := de_10 tX1_init_22 (by decide +kernel)
def tX1_init_24 := Bt_2 (q := 24) tX1_init_22 rfl
theorem dX1_init_24 : decode cX1_init 24 = .ok (.iastore, 1) := de_4f tX1_init_24
def tX1_init_25 := Bt_1 (q := 25) tX1_init_24 rfl
theorem dX1_init_25 : decode cX1_init 25 = .ok (.putfield 9, 3) := de_b5 tX1_init_25 (by decide +kernel)
def tX1_init_28 := Bt_3 (q := 28) tX1_init_25 rfl
theorem dX1_init_28 : decode cX1_init 28 = .ok (.aload_n 0, 1) := de_2a tX1_init_28
def tX1_init_29 := Bt_1 (q := 29) tX1_init_28 rfl
theorem dX1_init_29 : decode cX1_init 29 = .ok (.iconst 4, 1) := de_07 tX1_init_29
def tX1_init_30 := Bt_1 (q := 30) tX1_init_29 rfl
theorem dX1_init_30 : decode cX1_init 30 = .ok (.newarray .int, 2) := de_bc_0a tX1_init_30
def tX1_init_32 := Bt_2 (q := 32) tX1_init_30 rfl
theorem dX1_init_32 : decode cX1_init 32 = .ok (.dup, 1) := de_59 tX1_init_32
def tX1_init_33 := Bt_1 (q := 33) tX1_init_32 rfl
theorem dX1_init_33 : decode cX1_init 33 = .ok (.iconst 0, 1) := de_03 tX1_init_33
def tX1_init_34 := Bt_1 (q := 34) tX1_init_33 rfl
theorem dX1_init_34 : decode cX1_init 34 = .ok (.sipush 1000, 3) := de_11 tX1_init_34 (by decide +kernel)
def tX1_init_37 := Bt_3 (q := 37) tX1_init_34 rfl
theorem dX1_init_37 : decode cX1_init 37 = .ok (.iastore, 1) := de_4f tX1_init_37
def tX1_init_38 := Bt_1 (q := 38) tX1_init_37 rfl
theorem dX1_init_38 : decode cX1_init 38 = .ok (.dup, 1) := de_59 tX1_init_38
def tX1_init_39 := Bt_1 (q := 39) tX1_init_38 rfl
theorem dX1_init_39 : decode cX1_init 39 = .ok (.iconst 1, 1) := de_04 tX1_init_39
def tX1_init_40 := Bt_1 (q := 40) tX1_init_39 rfl
theorem dX1_init_40 : decode cX1_init 40 = .ok (.sipush 1000, 3) := de_11 tX1_init_40 (by decide +kernel)
def tX1_init_43 := Bt_3 (q := 43) tX1_init_40 rfl
theorem dX1_init_43 : decode cX1_init 43 = .ok (.iastore, 1) := de_4f tX1_init_43
def tX1_init_44 := Bt_1 (q := 44) tX1_init_43 rfl
theorem dX1_init_44 : decode cX1_init 44 = .ok (.dup, 1) := de_59 tX1_init_44
def tX1_init_45 := Bt_1 (q := 45) tX1_init_44 rfl
theorem dX1_init_45 : decode cX1_init 45 = .ok (.iconst 2, 1) := de_05 tX1_init_45
def tX1_init_46 := Bt_1 (q := 46) tX1_init_45 rfl
theorem dX1_init_46 : decode cX1_init 46 = .ok (.sipush 1000, 3) := de_11 tX1_init_46 (by decide +kernel)
def tX1_init_49 := Bt_3 (q := 49) tX1_init_46 rfl
theorem dX1_init_49 : decode cX1_init 49 = .ok (.iastore, 1) := de_4f tX1_init_49
def tX1_init_50 := Bt_1 (q := 50) tX1_init_49 rfl
theorem dX1_init_50 : decode cX1_init 50 = .ok (.dup, 1) := de_59 tX1_init_50
def tX1_init_51 := Bt_1 (q := 51) tX1_init_50 rfl
theorem dX1_init_51 : decode cX1_init 51 = .ok (.iconst 3, 1) := de_06 tX1_init_51
def tX1_init_52 := Bt_1 (q := 52) tX1_init_51 rfl
theorem dX1_init_52 : decode cX1_init 52 = .ok (.sipush 1000, 3) := de_11 tX1_init_52 (by decide +kernel)
def tX1_init_55 := Bt_3 (q := 55) tX1_init_52 rfl
theorem dX1_init_55 : decode cX1_init 55 = .ok (.iastore, 1) := de_4f tX1_init_55
def tX1_init_56 := Bt_1 (q := 56) tX1_init_55 rfl
theorem dX1_init_56 : decode cX1_init 56 = .ok (.putfield 15, 3) := de_b5 tX1_init_56 (by decide +kernel)
def tX1_init_59 := Bt_3 (q := 59) tX1_init_56 rfl
theorem dX1_init_59 : decode cX1_init 59 = .ok (.aload_n 0, 1) := de_2a tX1_init_59
def tX1_init_60 := Bt_1 (q := 60) tX1_init_59 rfl
theorem dX1_init_60 : decode cX1_init 60 = .ok (.bipush 48, 2) := de_10 tX1_init_60 (by decide +kernel)
def tX1_init_62 := Bt_2 (q := 62) tX1_init_60 rfl
theorem dX1_init_62 : decode cX1_init 62 = .ok (.newarray .boolean, 2) := de_bc_04 tX1_init_62
def tX1_init_64 := Bt_2 (q := 64) tX1_init_62 rfl
theorem dX1_init_64 : decode cX1_init 64 = .ok (.putfield 18, 3) := de_b5 tX1_init_64 (by decide +kernel)
def tX1_init_67 := Bt_3 (q := 67) tX1_init_64 rfl
theorem dX1_init_67 : decode cX1_init 67 = .ok (.aload_n 0, 1) := de_2a tX1_init_67
def tX1_init_68 := Bt_1 (q := 68) tX1_init_67 rfl
theorem dX1_init_68 : decode cX1_init 68 = .ok (.bipush 48, 2) := de_10 tX1_init_68 (by decide +kernel)
def tX1_init_70 := Bt_2 (q := 70) tX1_init_68 rfl
theorem dX1_init_70 : decode cX1_init 70 = .ok (.newarray .boolean, 2) := de_bc_04 tX1_init_70
def tX1_init_72 := Bt_2 (q := 72) tX1_init_70 rfl
theorem dX1_init_72 : decode cX1_init 72 = .ok (.putfield 22, 3) := de_b5 tX1_init_72 (by decide +kernel)
def tX1_init_75 := Bt_3 (q := 75) tX1_init_72 rfl
theorem dX1_init_75 : decode cX1_init 75 = .ok (.aload_n 0, 1) := de_2a tX1_init_75
def tX1_init_76 := Bt_1 (q := 76) tX1_init_75 rfl
theorem dX1_init_76 : decode cX1_init 76 = .ok (.bipush 48, 2) := de_10 tX1_init_76 (by decide +kernel)
def tX1_init_78 := Bt_2 (q := 78) tX1_init_76 rfl
theorem dX1_init_78 : decode cX1_init 78 = .ok (.newarray .int, 2) := de_bc_0a tX1_init_78
def tX1_init_80 := Bt_2 (q := 80) tX1_init_78 rfl
theorem dX1_init_80 : decode cX1_init 80 = .ok (.putfield 25, 3) := de_b5 tX1_init_80 (by decide +kernel)
def tX1_init_83 := Bt_3 (q := 83) tX1_init_80 rfl
theorem dX1_init_83 : decode cX1_init 83 = .ok (.aload_n 0, 1) := de_2a tX1_init_83
def tX1_init_84 := Bt_1 (q := 84) tX1_init_83 rfl
theorem dX1_init_84 : decode cX1_init 84 = .ok (.sipush 192, 3) := de_11 tX1_init_84 (by decide +kernel)
def tX1_init_87 := Bt_3 (q := 87) tX1_init_84 rfl
theorem dX1_init_87 : decode cX1_init 87 = .ok (.newarray .int, 2) := de_bc_0a tX1_init_87
def tX1_init_89 := Bt_2 (q := 89) tX1_init_87 rfl
theorem dX1_init_89 : decode cX1_init 89 = .ok (.putfield 28, 3) := de_b5 tX1_init_89 (by decide +kernel)
def tX1_init_92 := Bt_3 (q := 92) tX1_init_89 rfl
theorem dX1_init_92 : decode cX1_init 92 = .ok (.aload_n 0, 1) := de_2a tX1_init_92
def tX1_init_93 := Bt_1 (q := 93) tX1_init_92 rfl
theorem dX1_init_93 : decode cX1_init 93 = .ok (.bipush 48, 2) := de_10 tX1_init_93 (by decide +kernel)
def tX1_init_95 := Bt_2 (q := 95) tX1_init_93 rfl
theorem dX1_init_95 : decode cX1_init 95 = .ok (.newarray .int, 2) := de_bc_0a tX1_init_95
def tX1_init_97 := Bt_2 (q := 97) tX1_init_95 rfl
theorem dX1_init_97 : decode cX1_init 97 = .ok (.putfield 31, 3) := de_b5 tX1_init_97 (by decide +kernel)
def tX1_init_100 := Bt_3 (q := 100) tX1_init_97 rfl
theorem dX1_init_100 : decode cX1_init 100 = .ok (.aload_n 0, 1) := de_2a tX1_init_100
def tX1_init_101 := Bt_1 (q := 101) tX1_init_100 rfl
theorem dX1_init_101 : decode cX1_init 101 = .ok (.bipush 48, 2) := de_10 tX1_init_101 (by decide +kernel)
def tX1_init_103 := Bt_2 (q := 103) tX1_init_101 rfl
theorem dX1_init_103 : decode cX1_init 103 = .ok (.newarray .int, 2) := de_bc_0a tX1_init_103
def tX1_init_105 := Bt_2 (q := 105) tX1_init_103 rfl
theorem dX1_init_105 : decode cX1_init 105 = .ok (.putfield 34, 3) := de_b5 tX1_init_105 (by decide +kernel)
def tX1_init_108 := Bt_3 (q := 108) tX1_init_105 rfl
theorem dX1_init_108 : decode cX1_init 108 = .ok (.aload_n 0, 1) := de_2a tX1_init_108
def tX1_init_109 := Bt_1 (q := 109) tX1_init_108 rfl
theorem dX1_init_109 : decode cX1_init 109 = .ok (.bipush 48, 2) := de_10 tX1_init_109 (by decide +kernel)
def tX1_init_111 := Bt_2 (q := 111) tX1_init_109 rfl
theorem dX1_init_111 : decode cX1_init 111 = .ok (.newarray .int, 2) := de_bc_0a tX1_init_111
def tX1_init_113 := Bt_2 (q := 113) tX1_init_111 rfl
theorem dX1_init_113 : decode cX1_init 113 = .ok (.putfield 37, 3) := de_b5 tX1_init_113 (by decide +kernel)
def tX1_init_116 := Bt_3 (q := 116) tX1_init_113 rfl
theorem dX1_init_116 : decode cX1_init 116 = .ok (.aload_n 0, 1) := de_2a tX1_init_116
def tX1_init_117 := Bt_1 (q := 117) tX1_init_116 rfl
theorem dX1_init_117 : decode cX1_init 117 = .ok (.iconst (-1), 1) := de_02 tX1_init_117
def tX1_init_118 := Bt_1 (q := 118) tX1_init_117 rfl
theorem dX1_init_118 : decode cX1_init 118 = .ok (.putfield 40, 3) := de_b5 tX1_init_118 (by decide +kernel)
def tX1_init_121 := Bt_3 (q := 121) tX1_init_118 rfl
theorem dX1_init_121 : decode cX1_init 121 = .ok (.aload_n 0, 1) := de_2a tX1_init_121
def tX1_init_122 := Bt_1 (q := 122) tX1_init_121 rfl
theorem dX1_init_122 : decode cX1_init 122 = .ok (.iconst 1, 1) := de_04 tX1_init_122
def tX1_init_123 := Bt_1 (q := 123) tX1_init_122 rfl
theorem dX1_init_123 : decode cX1_init 123 = .ok (.putfield 44, 3) := de_b5 tX1_init_123 (by decide +kernel)
def tX1_init_126 := Bt_3 (q := 126) tX1_init_123 rfl
theorem dX1_init_126 : decode cX1_init 126 = .ok (.return_, 1) := de_b1 tX1_init_126
def tX1_isOpen_0 := Bt_0 cX1_isOpen
theorem dX1_isOpen_0 : decode cX1_isOpen 0 = .ok (.aload_n 0, 1) := de_2a tX1_isOpen_0
def tX1_isOpen_1 := Bt_1 (q := 1) tX1_isOpen_0 rfl
theorem dX1_isOpen_1 : decode cX1_isOpen 1 = .ok (.getfield 40, 3) := de_b4 tX1_isOpen_1 (by decide +kernel)
def tX1_isOpen_4 := Bt_3 (q := 4) tX1_isOpen_1 rfl
theorem dX1_isOpen_4 : decode cX1_isOpen 4 = .ok (.iconst (-1), 1) := de_02 tX1_isOpen_4
def tX1_isOpen_5 := Bt_1 (q := 5) tX1_isOpen_4 rfl
theorem dX1_isOpen_5 : decode cX1_isOpen 5 = .ok (.if_icmp .eq 14, 3) := de_9f tX1_isOpen_5 (by decide +kernel)
def tX1_isOpen_8 := Bt_3 (q := 8) tX1_isOpen_5 rfl
theorem dX1_isOpen_8 : decode cX1_isOpen 8 = .ok (.aload_n 0, 1) := de_2a tX1_isOpen_8
def tX1_isOpen_9 := Bt_1 (q := 9) tX1_isOpen_8 rfl
theorem dX1_isOpen_9 : decode cX1_isOpen 9 = .ok (.getfield 47, 3) := de_b4 tX1_isOpen_9 (by decide +kernel)
def tX1_isOpen_12 := Bt_3 (q := 12) tX1_isOpen_9 rfl
theorem dX1_isOpen_12 : decode cX1_isOpen 12 = .ok (.aload_n 0, 1) := de_2a tX1_isOpen_12
def tX1_isOpen_13 := Bt_1 (q := 13) tX1_isOpen_12 rfl
theorem dX1_isOpen_13 : decode cX1_isOpen 13 = .ok (.getfield 40, 3) := de_b4 tX1_isOpen_13 (by decide +kernel)
def tX1_isOpen_16 := Bt_3 (q := 16) tX1_isOpen_13 rfl
theorem dX1_isOpen_16 : decode cX1_isOpen 16 = .ok (.if_icmp .gt 7, 3) := de_a3 tX1_isOpen_16 (by decide +kernel)
def tX1_isOpen_19 := Bt_3 (q := 19) tX1_isOpen_16 rfl
theorem dX1_isOpen_19 : decode cX1_isOpen 19 = .ok (.iconst 1, 1) := de_04 tX1_isOpen_19
def tX1_isOpen_20 := Bt_1 (q := 20) tX1_isOpen_19 rfl
theorem dX1_isOpen_20 : decode cX1_isOpen 20 = .ok (.goto 4, 3) := de_a7 tX1_isOpen_20 (by decide +kernel)
def tX1_isOpen_23 := Bt_3 (q := 23) tX1_isOpen_20 rfl
theorem dX1_isOpen_23 : decode cX1_isOpen 23 = .ok (.iconst 0, 1) := de_03 tX1_isOpen_23
def tX1_isOpen_24 := Bt_1 (q := 24) tX1_isOpen_23 rfl
theorem dX1_isOpen_24 : decode cX1_isOpen 24 = .ok (.ireturn, 1) := de_ac tX1_isOpen_24
def tX1_keepLots_0 := Bt_0 cX1_keepLots
theorem dX1_keepLots_0 : decode cX1_keepLots 0 = .ok (.iconst 0, 1) := de_03 tX1_keepLots_0
def tX1_keepLots_1 := Bt_1 (q := 1) tX1_keepLots_0 rfl
theorem dX1_keepLots_1 : decode cX1_keepLots 1 = .ok (.istore_n 2, 1) := de_3d tX1_keepLots_1
def tX1_keepLots_2 := Bt_1 (q := 2) tX1_keepLots_1 rfl
theorem dX1_keepLots_2 : decode cX1_keepLots 2 = .ok (.iload_n 2, 1) := de_1c tX1_keepLots_2
def tX1_keepLots_3 := Bt_1 (q := 3) tX1_keepLots_2 rfl
theorem dX1_keepLots_3 : decode cX1_keepLots 3 = .ok (.bipush 48, 2) := de_10 tX1_keepLots_3 (by decide +kernel)
def tX1_keepLots_5 := Bt_2 (q := 5) tX1_keepLots_3 rfl
theorem dX1_keepLots_5 : decode cX1_keepLots 5 = .ok (.if_icmp .ge 22, 3) := de_a2 tX1_keepLots_5 (by decide +kernel)
def tX1_keepLots_8 := Bt_3 (q := 8) tX1_keepLots_5 rfl
theorem dX1_keepLots_8 : decode cX1_keepLots 8 = .ok (.iload_n 2, 1) := de_1c tX1_keepLots_8
def tX1_keepLots_9 := Bt_1 (q := 9) tX1_keepLots_8 rfl
theorem dX1_keepLots_9 : decode cX1_keepLots 9 = .ok (.bipush 6, 2) := de_10 tX1_keepLots_9 (by decide +kernel)
def tX1_keepLots_11 := Bt_2 (q := 11) tX1_keepLots_9 rfl
theorem dX1_keepLots_11 : decode cX1_keepLots 11 = .ok (.irem, 1) := de_70 tX1_keepLots_11
def tX1_keepLots_12 := Bt_1 (q := 12) tX1_keepLots_11 rfl
theorem dX1_keepLots_12 : decode cX1_keepLots 12 = .ok (.iload_n 1, 1) := de_1b tX1_keepLots_12
def tX1_keepLots_13 := Bt_1 (q := 13) tX1_keepLots_12 rfl
theorem dX1_keepLots_13 : decode cX1_keepLots 13 = .ok (.if_icmp .lt 8, 3) := de_a1 tX1_keepLots_13 (by decide +kernel)
def tX1_keepLots_16 := Bt_3 (q := 16) tX1_keepLots_13 rfl
theorem dX1_keepLots_16 : decode cX1_keepLots 16 = .ok (.aload_n 0, 1) := de_2a tX1_keepLots_16
def tX1_keepLots_17 := Bt_1 (q := 17) tX1_keepLots_16 rfl
theorem dX1_keepLots_17 : decode cX1_keepLots 17 = .ok (.iload_n 2, 1) := de_1c tX1_keepLots_17
def tX1_keepLots_18 := Bt_1 (q := 18) tX1_keepLots_17 rfl
theorem dX1_keepLots_18 : decode cX1_keepLots 18 = .ok (.invokevirtual 50, 3) := de_b6 tX1_keepLots_18 (by decide +kernel)
def tX1_keepLots_21 := Bt_3 (q := 21) tX1_keepLots_18 rfl
theorem dX1_keepLots_21 : decode cX1_keepLots 21 = .ok (.iinc 2 1, 3) := de_84 tX1_keepLots_21 (by decide +kernel) (by decide +kernel)
def tX1_keepLots_24 := Bt_3 (q := 24) tX1_keepLots_21 rfl
theorem dX1_keepLots_24 : decode cX1_keepLots 24 = .ok (.goto (-22), 3) := de_a7 tX1_keepLots_24 (by decide +kernel)
def tX1_keepLots_27 := Bt_3 (q := 27) tX1_keepLots_24 rfl
theorem dX1_keepLots_27 : decode cX1_keepLots 27 = .ok (.aload_n 0, 1) := de_2a tX1_keepLots_27
def tX1_keepLots_28 := Bt_1 (q := 28) tX1_keepLots_27 rfl
theorem dX1_keepLots_28 : decode cX1_keepLots 28 = .ok (.iload_n 1, 1) := de_1b tX1_keepLots_28
def tX1_keepLots_29 := Bt_1 (q := 29) tX1_keepLots_28 rfl
theorem dX1_keepLots_29 : decode cX1_keepLots 29 = .ok (.putfield 44, 3) := de_b5 tX1_keepLots_29 (by decide +kernel)
def tX1_keepLots_32 := Bt_3 (q := 32) tX1_keepLots_29 rfl
theorem dX1_keepLots_32 : decode cX1_keepLots 32 = .ok (.return_, 1) := de_b1 tX1_keepLots_32
def tX1_drop_0 := Bt_0 cX1_drop
theorem dX1_drop_0 : decode cX1_drop 0 = .ok (.aload_n 0, 1) := de_2a tX1_drop_0
def tX1_drop_1 := Bt_1 (q := 1) tX1_drop_0 rfl
theorem dX1_drop_1 : decode cX1_drop 1 = .ok (.getfield 18, 3) := de_b4 tX1_drop_1 (by decide +kernel)
def tX1_drop_4 := Bt_3 (q := 4) tX1_drop_1 rfl
theorem dX1_drop_4 : decode cX1_drop 4 = .ok (.iload_n 1, 1) := de_1b tX1_drop_4
def tX1_drop_5 := Bt_1 (q := 5) tX1_drop_4 rfl
theorem dX1_drop_5 : decode cX1_drop 5 = .ok (.iconst 0, 1) := de_03 tX1_drop_5
def tX1_drop_6 := Bt_1 (q := 6) tX1_drop_5 rfl
theorem dX1_drop_6 : decode cX1_drop 6 = .ok (.bastore, 1) := de_54 tX1_drop_6
def tX1_drop_7 := Bt_1 (q := 7) tX1_drop_6 rfl
theorem dX1_drop_7 : decode cX1_drop 7 = .ok (.aload_n 0, 1) := de_2a tX1_drop_7
def tX1_drop_8 := Bt_1 (q := 8) tX1_drop_7 rfl
theorem dX1_drop_8 : decode cX1_drop 8 = .ok (.getfield 25, 3) := de_b4 tX1_drop_8 (by decide +kernel)
def tX1_drop_11 := Bt_3 (q := 11) tX1_drop_8 rfl
theorem dX1_drop_11 : decode cX1_drop 11 = .ok (.iload_n 1, 1) := de_1b tX1_drop_11
def tX1_drop_12 := Bt_1 (q := 12) tX1_drop_11 rfl
theorem dX1_drop_12 : decode cX1_drop 12 = .ok (.iconst 0, 1) := de_03 tX1_drop_12
def tX1_drop_13 := Bt_1 (q := 13) tX1_drop_12 rfl
theorem dX1_drop_13 : decode cX1_drop 13 = .ok (.iastore, 1) := de_4f tX1_drop_13
def tX1_drop_14 := Bt_1 (q := 14) tX1_drop_13 rfl
theorem dX1_drop_14 : decode cX1_drop 14 = .ok (.return_, 1) := de_b1 tX1_drop_14
def tX1_putTerms_0 := Bt_0 cX1_putTerms
theorem dX1_putTerms_0 : decode cX1_putTerms 0 = .ok (.aload_n 0, 1) := de_2a tX1_putTerms_0
def tX1_putTerms_1 := Bt_1 (q := 1) tX1_putTerms_0 rfl
theorem dX1_putTerms_1 : decode cX1_putTerms 1 = .ok (.getfield 18, 3) := de_b4 tX1_putTerms_1 (by decide +kernel)
def tX1_putTerms_4 := Bt_3 (q := 4) tX1_putTerms_1 rfl
theorem dX1_putTerms_4 : decode cX1_putTerms 4 = .ok (.iload_n 1, 1) := de_1b tX1_putTerms_4
def tX1_putTerms_5 := Bt_1 (q := 5) tX1_putTerms_4 rfl
theorem dX1_putTerms_5 : decode cX1_putTerms 5 = .ok (.iconst 1, 1) := de_04 tX1_putTerms_5
def tX1_putTerms_6 := Bt_1 (q := 6) tX1_putTerms_5 rfl
theorem dX1_putTerms_6 : decode cX1_putTerms 6 = .ok (.bastore, 1) := de_54 tX1_putTerms_6
def tX1_putTerms_7 := Bt_1 (q := 7) tX1_putTerms_6 rfl
theorem dX1_putTerms_7 : decode cX1_putTerms 7 = .ok (.aload_n 0, 1) := de_2a tX1_putTerms_7
def tX1_putTerms_8 := Bt_1 (q := 8) tX1_putTerms_7 rfl
theorem dX1_putTerms_8 : decode cX1_putTerms 8 = .ok (.getfield 31, 3) := de_b4 tX1_putTerms_8 (by decide +kernel)
def tX1_putTerms_11 := Bt_3 (q := 11) tX1_putTerms_8 rfl
theorem dX1_putTerms_11 : decode cX1_putTerms 11 = .ok (.iload_n 1, 1) := de_1b tX1_putTerms_11
def tX1_putTerms_12 := Bt_1 (q := 12) tX1_putTerms_11 rfl
theorem dX1_putTerms_12 : decode cX1_putTerms 12 = .ok (.iload_n 2, 1) := de_1c tX1_putTerms_12
def tX1_putTerms_13 := Bt_1 (q := 13) tX1_putTerms_12 rfl
theorem dX1_putTerms_13 : decode cX1_putTerms 13 = .ok (.iastore, 1) := de_4f tX1_putTerms_13
def tX1_putTerms_14 := Bt_1 (q := 14) tX1_putTerms_13 rfl
theorem dX1_putTerms_14 : decode cX1_putTerms 14 = .ok (.aload_n 0, 1) := de_2a tX1_putTerms_14
def tX1_putTerms_15 := Bt_1 (q := 15) tX1_putTerms_14 rfl
theorem dX1_putTerms_15 : decode cX1_putTerms 15 = .ok (.getfield 34, 3) := de_b4 tX1_putTerms_15 (by decide +kernel)
def tX1_putTerms_18 := Bt_3 (q := 18) tX1_putTerms_15 rfl
theorem dX1_putTerms_18 : decode cX1_putTerms 18 = .ok (.iload_n 1, 1) := de_1b tX1_putTerms_18
def tX1_putTerms_19 := Bt_1 (q := 19) tX1_putTerms_18 rfl
theorem dX1_putTerms_19 : decode cX1_putTerms 19 = .ok (.iload_n 3, 1) := de_1d tX1_putTerms_19
def tX1_putTerms_20 := Bt_1 (q := 20) tX1_putTerms_19 rfl
theorem dX1_putTerms_20 : decode cX1_putTerms 20 = .ok (.iastore, 1) := de_4f tX1_putTerms_20
def tX1_putTerms_21 := Bt_1 (q := 21) tX1_putTerms_20 rfl
theorem dX1_putTerms_21 : decode cX1_putTerms 21 = .ok (.aload_n 0, 1) := de_2a tX1_putTerms_21
def tX1_putTerms_22 := Bt_1 (q := 22) tX1_putTerms_21 rfl
theorem dX1_putTerms_22 : decode cX1_putTerms 22 = .ok (.getfield 37, 3) := de_b4 tX1_putTerms_22 (by decide +kernel)
def tX1_putTerms_25 := Bt_3 (q := 25) tX1_putTerms_22 rfl
theorem dX1_putTerms_25 : decode cX1_putTerms 25 = .ok (.iload_n 1, 1) := de_1b tX1_putTerms_25
def tX1_putTerms_26 := Bt_1 (q := 26) tX1_putTerms_25 rfl
theorem dX1_putTerms_26 : decode cX1_putTerms 26 = .ok (.iload 4, 2) := de_15 tX1_putTerms_26 (by decide +kernel)
def tX1_putTerms_28 := Bt_2 (q := 28) tX1_putTerms_26 rfl
theorem dX1_putTerms_28 : decode cX1_putTerms 28 = .ok (.iastore, 1) := de_4f tX1_putTerms_28
def tX1_putTerms_29 := Bt_1 (q := 29) tX1_putTerms_28 rfl
theorem dX1_putTerms_29 : decode cX1_putTerms 29 = .ok (.return_, 1) := de_b1 tX1_putTerms_29
def tX1_putItems_0 := Bt_0 cX1_putItems
theorem dX1_putItems_0 : decode cX1_putItems 0 = .ok (.iload_n 1, 1) := de_1b tX1_putItems_0
def tX1_putItems_1 := Bt_1 (q := 1) tX1_putItems_0 rfl
theorem dX1_putItems_1 : decode cX1_putItems 1 = .ok (.iconst 4, 1) := de_07 tX1_putItems_1
def tX1_putItems_2 := Bt_1 (q := 2) tX1_putItems_1 rfl
theorem dX1_putItems_2 : decode cX1_putItems 2 = .ok (.imul, 1) := de_68 tX1_putItems_2
def tX1_putItems_3 := Bt_1 (q := 3) tX1_putItems_2 rfl
theorem dX1_putItems_3 : decode cX1_putItems 3 = .ok (.istore 6, 2) := de_36 tX1_putItems_3 (by decide +kernel)
def tX1_putItems_5 := Bt_2 (q := 5) tX1_putItems_3 rfl
theorem dX1_putItems_5 : decode cX1_putItems 5 = .ok (.aload_n 0, 1) := de_2a tX1_putItems_5
def tX1_putItems_6 := Bt_1 (q := 6) tX1_putItems_5 rfl
theorem dX1_putItems_6 : decode cX1_putItems 6 = .ok (.getfield 28, 3) := de_b4 tX1_putItems_6 (by decide +kernel)
def tX1_putItems_9 := Bt_3 (q := 9) tX1_putItems_6 rfl
theorem dX1_putItems_9 : decode cX1_putItems 9 = .ok (.iload 6, 2) := de_15 tX1_putItems_9 (by decide +kernel)
def tX1_putItems_11 := Bt_2 (q := 11) tX1_putItems_9 rfl
theorem dX1_putItems_11 : decode cX1_putItems 11 = .ok (.iload_n 2, 1) := de_1c tX1_putItems_11
def tX1_putItems_12 := Bt_1 (q := 12) tX1_putItems_11 rfl
theorem dX1_putItems_12 : decode cX1_putItems 12 = .ok (.iastore, 1) := de_4f tX1_putItems_12
def tX1_putItems_13 := Bt_1 (q := 13) tX1_putItems_12 rfl
theorem dX1_putItems_13 : decode cX1_putItems 13 = .ok (.aload_n 0, 1) := de_2a tX1_putItems_13
def tX1_putItems_14 := Bt_1 (q := 14) tX1_putItems_13 rfl
theorem dX1_putItems_14 : decode cX1_putItems 14 = .ok (.getfield 28, 3) := de_b4 tX1_putItems_14 (by decide +kernel)
def tX1_putItems_17 := Bt_3 (q := 17) tX1_putItems_14 rfl
theorem dX1_putItems_17 : decode cX1_putItems 17 = .ok (.iload 6, 2) := de_15 tX1_putItems_17 (by decide +kernel)
def tX1_putItems_19 := Bt_2 (q := 19) tX1_putItems_17 rfl
theorem dX1_putItems_19 : decode cX1_putItems 19 = .ok (.iconst 1, 1) := de_04 tX1_putItems_19
def tX1_putItems_20 := Bt_1 (q := 20) tX1_putItems_19 rfl
theorem dX1_putItems_20 : decode cX1_putItems 20 = .ok (.iadd, 1) := de_60 tX1_putItems_20
def tX1_putItems_21 := Bt_1 (q := 21) tX1_putItems_20 rfl
theorem dX1_putItems_21 : decode cX1_putItems 21 = .ok (.iload_n 3, 1) := de_1d tX1_putItems_21
def tX1_putItems_22 := Bt_1 (q := 22) tX1_putItems_21 rfl
theorem dX1_putItems_22 : decode cX1_putItems 22 = .ok (.iastore, 1) := de_4f tX1_putItems_22
def tX1_putItems_23 := Bt_1 (q := 23) tX1_putItems_22 rfl
theorem dX1_putItems_23 : decode cX1_putItems 23 = .ok (.aload_n 0, 1) := de_2a tX1_putItems_23
def tX1_putItems_24 := Bt_1 (q := 24) tX1_putItems_23 rfl
theorem dX1_putItems_24 : decode cX1_putItems 24 = .ok (.getfield 28, 3) := de_b4 tX1_putItems_24 (by decide +kernel)
def tX1_putItems_27 := Bt_3 (q := 27) tX1_putItems_24 rfl
theorem dX1_putItems_27 : decode cX1_putItems 27 = .ok (.iload 6, 2) := de_15 tX1_putItems_27 (by decide +kernel)
def tX1_putItems_29 := Bt_2 (q := 29) tX1_putItems_27 rfl
theorem dX1_putItems_29 : decode cX1_putItems 29 = .ok (.iconst 2, 1) := de_05 tX1_putItems_29
def tX1_putItems_30 := Bt_1 (q := 30) tX1_putItems_29 rfl
theorem dX1_putItems_30 : decode cX1_putItems 30 = .ok (.iadd, 1) := de_60 tX1_putItems_30
def tX1_putItems_31 := Bt_1 (q := 31) tX1_putItems_30 rfl
theorem dX1_putItems_31 : decode cX1_putItems 31 = .ok (.iload 4, 2) := de_15 tX1_putItems_31 (by decide +kernel)
def tX1_putItems_33 := Bt_2 (q := 33) tX1_putItems_31 rfl
theorem dX1_putItems_33 : decode cX1_putItems 33 = .ok (.iastore, 1) := de_4f tX1_putItems_33
def tX1_putItems_34 := Bt_1 (q := 34) tX1_putItems_33 rfl
theorem dX1_putItems_34 : decode cX1_putItems 34 = .ok (.aload_n 0, 1) := de_2a tX1_putItems_34
def tX1_putItems_35 := Bt_1 (q := 35) tX1_putItems_34 rfl
theorem dX1_putItems_35 : decode cX1_putItems 35 = .ok (.getfield 28, 3) := de_b4 tX1_putItems_35 (by decide +kernel)
def tX1_putItems_38 := Bt_3 (q := 38) tX1_putItems_35 rfl
theorem dX1_putItems_38 : decode cX1_putItems 38 = .ok (.iload 6, 2) := de_15 tX1_putItems_38 (by decide +kernel)
def tX1_putItems_40 := Bt_2 (q := 40) tX1_putItems_38 rfl
theorem dX1_putItems_40 : decode cX1_putItems 40 = .ok (.iconst 3, 1) := de_06 tX1_putItems_40
def tX1_putItems_41 := Bt_1 (q := 41) tX1_putItems_40 rfl
theorem dX1_putItems_41 : decode cX1_putItems 41 = .ok (.iadd, 1) := de_60 tX1_putItems_41
def tX1_putItems_42 := Bt_1 (q := 42) tX1_putItems_41 rfl
theorem dX1_putItems_42 : decode cX1_putItems 42 = .ok (.iload 5, 2) := de_15 tX1_putItems_42 (by decide +kernel)
def tX1_putItems_44 := Bt_2 (q := 44) tX1_putItems_42 rfl
theorem dX1_putItems_44 : decode cX1_putItems 44 = .ok (.iastore, 1) := de_4f tX1_putItems_44
def tX1_putItems_45 := Bt_1 (q := 45) tX1_putItems_44 rfl
theorem dX1_putItems_45 : decode cX1_putItems 45 = .ok (.return_, 1) := de_b1 tX1_putItems_45
def tX1_itemSum_0 := Bt_0 cX1_itemSum
theorem dX1_itemSum_0 : decode cX1_itemSum 0 = .ok (.iconst 0, 1) := de_03 tX1_itemSum_0
def tX1_itemSum_1 := Bt_1 (q := 1) tX1_itemSum_0 rfl
theorem dX1_itemSum_1 : decode cX1_itemSum 1 = .ok (.istore_n 2, 1) := de_3d tX1_itemSum_1
def tX1_itemSum_2 := Bt_1 (q := 2) tX1_itemSum_1 rfl
theorem dX1_itemSum_2 : decode cX1_itemSum 2 = .ok (.iconst 0, 1) := de_03 tX1_itemSum_2
def tX1_itemSum_3 := Bt_1 (q := 3) tX1_itemSum_2 rfl
theorem dX1_itemSum_3 : decode cX1_itemSum 3 = .ok (.istore_n 3, 1) := de_3e tX1_itemSum_3
def tX1_itemSum_4 := Bt_1 (q := 4) tX1_itemSum_3 rfl
theorem dX1_itemSum_4 : decode cX1_itemSum 4 = .ok (.iload_n 3, 1) := de_1d tX1_itemSum_4
def tX1_itemSum_5 := Bt_1 (q := 5) tX1_itemSum_4 rfl
theorem dX1_itemSum_5 : decode cX1_itemSum 5 = .ok (.iconst 4, 1) := de_07 tX1_itemSum_5
def tX1_itemSum_6 := Bt_1 (q := 6) tX1_itemSum_5 rfl
theorem dX1_itemSum_6 : decode cX1_itemSum 6 = .ok (.if_icmp .ge 22, 3) := de_a2 tX1_itemSum_6 (by decide +kernel)
def tX1_itemSum_9 := Bt_3 (q := 9) tX1_itemSum_6 rfl
theorem dX1_itemSum_9 : decode cX1_itemSum 9 = .ok (.iload_n 2, 1) := de_1c tX1_itemSum_9
def tX1_itemSum_10 := Bt_1 (q := 10) tX1_itemSum_9 rfl
theorem dX1_itemSum_10 : decode cX1_itemSum 10 = .ok (.aload_n 0, 1) := de_2a tX1_itemSum_10
def tX1_itemSum_11 := Bt_1 (q := 11) tX1_itemSum_10 rfl
theorem dX1_itemSum_11 : decode cX1_itemSum 11 = .ok (.getfield 28, 3) := de_b4 tX1_itemSum_11 (by decide +kernel)
def tX1_itemSum_14 := Bt_3 (q := 14) tX1_itemSum_11 rfl
theorem dX1_itemSum_14 : decode cX1_itemSum 14 = .ok (.iload_n 1, 1) := de_1b tX1_itemSum_14
def tX1_itemSum_15 := Bt_1 (q := 15) tX1_itemSum_14 rfl
theorem dX1_itemSum_15 : decode cX1_itemSum 15 = .ok (.iconst 4, 1) := de_07 tX1_itemSum_15
def tX1_itemSum_16 := Bt_1 (q := 16) tX1_itemSum_15 rfl
theorem dX1_itemSum_16 : decode cX1_itemSum 16 = .ok (.imul, 1) := de_68 tX1_itemSum_16
def tX1_itemSum_17 := Bt_1 (q := 17) tX1_itemSum_16 rfl
theorem dX1_itemSum_17 : decode cX1_itemSum 17 = .ok (.iload_n 3, 1) := de_1d tX1_itemSum_17
def tX1_itemSum_18 := Bt_1 (q := 18) tX1_itemSum_17 rfl
theorem dX1_itemSum_18 : decode cX1_itemSum 18 = .ok (.iadd, 1) := de_60 tX1_itemSum_18
def tX1_itemSum_19 := Bt_1 (q := 19) tX1_itemSum_18 rfl
theorem dX1_itemSum_19 : decode cX1_itemSum 19 = .ok (.iaload, 1) := de_2e tX1_itemSum_19
def tX1_itemSum_20 := Bt_1 (q := 20) tX1_itemSum_19 rfl
theorem dX1_itemSum_20 : decode cX1_itemSum 20 = .ok (.iadd, 1) := de_60 tX1_itemSum_20
def tX1_itemSum_21 := Bt_1 (q := 21) tX1_itemSum_20 rfl
theorem dX1_itemSum_21 : decode cX1_itemSum 21 = .ok (.istore_n 2, 1) := de_3d tX1_itemSum_21
def tX1_itemSum_22 := Bt_1 (q := 22) tX1_itemSum_21 rfl
theorem dX1_itemSum_22 : decode cX1_itemSum 22 = .ok (.iinc 3 1, 3) := de_84 tX1_itemSum_22 (by decide +kernel) (by decide +kernel)
def tX1_itemSum_25 := Bt_3 (q := 25) tX1_itemSum_22 rfl
theorem dX1_itemSum_25 : decode cX1_itemSum 25 = .ok (.goto (-21), 3) := de_a7 tX1_itemSum_25 (by decide +kernel)
def tX1_itemSum_28 := Bt_3 (q := 28) tX1_itemSum_25 rfl
theorem dX1_itemSum_28 : decode cX1_itemSum 28 = .ok (.iload_n 2, 1) := de_1c tX1_itemSum_28
def tX1_itemSum_29 := Bt_1 (q := 29) tX1_itemSum_28 rfl
theorem dX1_itemSum_29 : decode cX1_itemSum 29 = .ok (.ireturn, 1) := de_ac tX1_itemSum_29
def tX1_priceAt_0 := Bt_0 cX1_priceAt
theorem dX1_priceAt_0 : decode cX1_priceAt 0 = .ok (.aload_n 0, 1) := de_2a tX1_priceAt_0
def tX1_priceAt_1 := Bt_1 (q := 1) tX1_priceAt_0 rfl
theorem dX1_priceAt_1 : decode cX1_priceAt 1 = .ok (.iload_n 1, 1) := de_1b tX1_priceAt_1
def tX1_priceAt_2 := Bt_1 (q := 2) tX1_priceAt_1 rfl
theorem dX1_priceAt_2 : decode cX1_priceAt 2 = .ok (.invokevirtual 54, 3) := de_b6 tX1_priceAt_2 (by decide +kernel)
def tX1_priceAt_5 := Bt_3 (q := 5) tX1_priceAt_2 rfl
theorem dX1_priceAt_5 : decode cX1_priceAt 5 = .ok (.aload_n 0, 1) := de_2a tX1_priceAt_5
def tX1_priceAt_6 := Bt_1 (q := 6) tX1_priceAt_5 rfl
theorem dX1_priceAt_6 : decode cX1_priceAt 6 = .ok (.getfield 37, 3) := de_b4 tX1_priceAt_6 (by decide +kernel)
def tX1_priceAt_9 := Bt_3 (q := 9) tX1_priceAt_6 rfl
theorem dX1_priceAt_9 : decode cX1_priceAt 9 = .ok (.iload_n 1, 1) := de_1b tX1_priceAt_9
def tX1_priceAt_10 := Bt_1 (q := 10) tX1_priceAt_9 rfl
theorem dX1_priceAt_10 : decode cX1_priceAt 10 = .ok (.iaload, 1) := de_2e tX1_priceAt_10
def tX1_priceAt_11 := Bt_1 (q := 11) tX1_priceAt_10 rfl
theorem dX1_priceAt_11 : decode cX1_priceAt 11 = .ok (.aload_n 0, 1) := de_2a tX1_priceAt_11
def tX1_priceAt_12 := Bt_1 (q := 12) tX1_priceAt_11 rfl
theorem dX1_priceAt_12 : decode cX1_priceAt 12 = .ok (.getfield 9, 3) := de_b4 tX1_priceAt_12 (by decide +kernel)
def tX1_priceAt_15 := Bt_3 (q := 15) tX1_priceAt_12 rfl
theorem dX1_priceAt_15 : decode cX1_priceAt 15 = .ok (.iconst 1, 1) := de_04 tX1_priceAt_15
def tX1_priceAt_16 := Bt_1 (q := 16) tX1_priceAt_15 rfl
theorem dX1_priceAt_16 : decode cX1_priceAt 16 = .ok (.iaload, 1) := de_2e tX1_priceAt_16
def tX1_priceAt_17 := Bt_1 (q := 17) tX1_priceAt_16 rfl
theorem dX1_priceAt_17 : decode cX1_priceAt 17 = .ok (.imul, 1) := de_68 tX1_priceAt_17
def tX1_priceAt_18 := Bt_1 (q := 18) tX1_priceAt_17 rfl
theorem dX1_priceAt_18 : decode cX1_priceAt 18 = .ok (.bipush 100, 2) := de_10 tX1_priceAt_18 (by decide +kernel)
def tX1_priceAt_20 := Bt_2 (q := 20) tX1_priceAt_18 rfl
theorem dX1_priceAt_20 : decode cX1_priceAt 20 = .ok (.idiv, 1) := de_6c tX1_priceAt_20
def tX1_priceAt_21 := Bt_1 (q := 21) tX1_priceAt_20 rfl
theorem dX1_priceAt_21 : decode cX1_priceAt 21 = .ok (.iadd, 1) := de_60 tX1_priceAt_21
def tX1_priceAt_22 := Bt_1 (q := 22) tX1_priceAt_21 rfl
theorem dX1_priceAt_22 : decode cX1_priceAt 22 = .ok (.i2l, 1) := de_85 tX1_priceAt_22
def tX1_priceAt_23 := Bt_1 (q := 23) tX1_priceAt_22 rfl
theorem dX1_priceAt_23 : decode cX1_priceAt 23 = .ok (.lstore_n 2, 1) := de_41 tX1_priceAt_23
def tX1_priceAt_24 := Bt_1 (q := 24) tX1_priceAt_23 rfl
theorem dX1_priceAt_24 : decode cX1_priceAt 24 = .ok (.lload_n 2, 1) := de_20 tX1_priceAt_24
def tX1_priceAt_25 := Bt_1 (q := 25) tX1_priceAt_24 rfl
theorem dX1_priceAt_25 : decode cX1_priceAt 25 = .ok (.aload_n 0, 1) := de_2a tX1_priceAt_25
def tX1_priceAt_26 := Bt_1 (q := 26) tX1_priceAt_25 rfl
theorem dX1_priceAt_26 : decode cX1_priceAt 26 = .ok (.getfield 15, 3) := de_b4 tX1_priceAt_26 (by decide +kernel)
def tX1_priceAt_29 := Bt_3 (q := 29) tX1_priceAt_26 rfl
theorem dX1_priceAt_29 : decode cX1_priceAt 29 = .ok (.aload_n 0, 1) := de_2a tX1_priceAt_29
def tX1_priceAt_30 := Bt_1 (q := 30) tX1_priceAt_29 rfl
theorem dX1_priceAt_30 : decode cX1_priceAt 30 = .ok (.getfield 31, 3) := de_b4 tX1_priceAt_30 (by decide +kernel)
def tX1_priceAt_33 := Bt_3 (q := 33) tX1_priceAt_30 rfl
theorem dX1_priceAt_33 : decode cX1_priceAt 33 = .ok (.iload_n 1, 1) := de_1b tX1_priceAt_33
def tX1_priceAt_34 := Bt_1 (q := 34) tX1_priceAt_33 rfl
theorem dX1_priceAt_34 : decode cX1_priceAt 34 = .ok (.iaload, 1) := de_2e tX1_priceAt_34
def tX1_priceAt_35 := Bt_1 (q := 35) tX1_priceAt_34 rfl
theorem dX1_priceAt_35 : decode cX1_priceAt 35 = .ok (.iaload, 1) := de_2e tX1_priceAt_35
def tX1_priceAt_36 := Bt_1 (q := 36) tX1_priceAt_35 rfl
theorem dX1_priceAt_36 : decode cX1_priceAt 36 = .ok (.i2l, 1) := de_85 tX1_priceAt_36
def tX1_priceAt_37 := Bt_1 (q := 37) tX1_priceAt_36 rfl
theorem dX1_priceAt_37 : decode cX1_priceAt 37 = .ok (.lmul, 1) := de_69 tX1_priceAt_37
def tX1_priceAt_38 := Bt_1 (q := 38) tX1_priceAt_37 rfl
theorem dX1_priceAt_38 : decode cX1_priceAt 38 = .ok (.ldc2_w 58, 3) := de_14 tX1_priceAt_38 (by decide +kernel)
def tX1_priceAt_41 := Bt_3 (q := 41) tX1_priceAt_38 rfl
theorem dX1_priceAt_41 : decode cX1_priceAt 41 = .ok (.ldiv, 1) := de_6d tX1_priceAt_41
def tX1_priceAt_42 := Bt_1 (q := 42) tX1_priceAt_41 rfl
theorem dX1_priceAt_42 : decode cX1_priceAt 42 = .ok (.lstore 4, 2) := de_37 tX1_priceAt_42 (by decide +kernel)
def tX1_priceAt_44 := Bt_2 (q := 44) tX1_priceAt_42 rfl
theorem dX1_priceAt_44 : decode cX1_priceAt 44 = .ok (.lconst 1, 1) := de_0a tX1_priceAt_44
def tX1_priceAt_45 := Bt_1 (q := 45) tX1_priceAt_44 rfl
theorem dX1_priceAt_45 : decode cX1_priceAt 45 = .ok (.lload 4, 2) := de_16 tX1_priceAt_45 (by decide +kernel)
def tX1_priceAt_47 := Bt_2 (q := 47) tX1_priceAt_45 rfl
theorem dX1_priceAt_47 : decode cX1_priceAt 47 = .ok (.invokestatic 60, 3) := de_b8 tX1_priceAt_47 (by decide +kernel)
def tX1_priceAt_50 := Bt_3 (q := 50) tX1_priceAt_47 rfl
theorem dX1_priceAt_50 : decode cX1_priceAt 50 = .ok (.l2i, 1) := de_88 tX1_priceAt_50
def tX1_priceAt_51 := Bt_1 (q := 51) tX1_priceAt_50 rfl
theorem dX1_priceAt_51 : decode cX1_priceAt 51 = .ok (.ireturn, 1) := de_ac tX1_priceAt_51
def tX1_countedSum_0 := Bt_0 cX1_countedSum
theorem dX1_countedSum_0 : decode cX1_countedSum 0 = .ok (.aload_n 0, 1) := de_2a tX1_countedSum_0
def tX1_countedSum_1 := Bt_1 (q := 1) tX1_countedSum_0 rfl
theorem dX1_countedSum_1 : decode cX1_countedSum 1 = .ok (.iload_n 1, 1) := de_1b tX1_countedSum_1
def tX1_countedSum_2 := Bt_1 (q := 2) tX1_countedSum_1 rfl
theorem dX1_countedSum_2 : decode cX1_countedSum 2 = .ok (.invokevirtual 66, 3) := de_b6 tX1_countedSum_2 (by decide +kernel)
def tX1_countedSum_5 := Bt_3 (q := 5) tX1_countedSum_2 rfl
theorem dX1_countedSum_5 : decode cX1_countedSum 5 = .ok (.istore_n 2, 1) := de_3d tX1_countedSum_5
def tX1_countedSum_6 := Bt_1 (q := 6) tX1_countedSum_5 rfl
theorem dX1_countedSum_6 : decode cX1_countedSum 6 = .ok (.aload_n 0, 1) := de_2a tX1_countedSum_6
def tX1_countedSum_7 := Bt_1 (q := 7) tX1_countedSum_6 rfl
theorem dX1_countedSum_7 : decode cX1_countedSum 7 = .ok (.getfield 9, 3) := de_b4 tX1_countedSum_7 (by decide +kernel)
def tX1_countedSum_10 := Bt_3 (q := 10) tX1_countedSum_7 rfl
theorem dX1_countedSum_10 : decode cX1_countedSum 10 = .ok (.iconst 0, 1) := de_03 tX1_countedSum_10
def tX1_countedSum_11 := Bt_1 (q := 11) tX1_countedSum_10 rfl
theorem dX1_countedSum_11 : decode cX1_countedSum 11 = .ok (.iaload, 1) := de_2e tX1_countedSum_11
def tX1_countedSum_12 := Bt_1 (q := 12) tX1_countedSum_11 rfl
theorem dX1_countedSum_12 : decode cX1_countedSum 12 = .ok (.iconst 1, 1) := de_04 tX1_countedSum_12
def tX1_countedSum_13 := Bt_1 (q := 13) tX1_countedSum_12 rfl
theorem dX1_countedSum_13 : decode cX1_countedSum 13 = .ok (.if_icmp .ne 10, 3) := de_a0 tX1_countedSum_13 (by decide +kernel)
def tX1_countedSum_16 := Bt_3 (q := 16) tX1_countedSum_13 rfl
theorem dX1_countedSum_16 : decode cX1_countedSum 16 = .ok (.aload_n 0, 1) := de_2a tX1_countedSum_16
def tX1_countedSum_17 := Bt_1 (q := 17) tX1_countedSum_16 rfl
theorem dX1_countedSum_17 : decode cX1_countedSum 17 = .ok (.getfield 34, 3) := de_b4 tX1_countedSum_17 (by decide +kernel)
def tX1_countedSum_20 := Bt_3 (q := 20) tX1_countedSum_17 rfl
theorem dX1_countedSum_20 : decode cX1_countedSum 20 = .ok (.iload_n 1, 1) := de_1b tX1_countedSum_20
def tX1_countedSum_21 := Bt_1 (q := 21) tX1_countedSum_20 rfl
theorem dX1_countedSum_21 : decode cX1_countedSum 21 = .ok (.iaload, 1) := de_2e tX1_countedSum_21
def tX1_countedSum_22 := Bt_1 (q := 22) tX1_countedSum_21 rfl
theorem dX1_countedSum_22 : decode cX1_countedSum 22 = .ok (.ireturn, 1) := de_ac tX1_countedSum_22
def tX1_countedSum_23 := Bt_1 (q := 23) tX1_countedSum_22 rfl
theorem dX1_countedSum_23 : decode cX1_countedSum 23 = .ok (.aload_n 0, 1) := de_2a tX1_countedSum_23
def tX1_countedSum_24 := Bt_1 (q := 24) tX1_countedSum_23 rfl
theorem dX1_countedSum_24 : decode cX1_countedSum 24 = .ok (.getfield 9, 3) := de_b4 tX1_countedSum_24 (by decide +kernel)
def tX1_countedSum_27 := Bt_3 (q := 27) tX1_countedSum_24 rfl
theorem dX1_countedSum_27 : decode cX1_countedSum 27 = .ok (.iconst 0, 1) := de_03 tX1_countedSum_27
def tX1_countedSum_28 := Bt_1 (q := 28) tX1_countedSum_27 rfl
theorem dX1_countedSum_28 : decode cX1_countedSum 28 = .ok (.iaload, 1) := de_2e tX1_countedSum_28
def tX1_countedSum_29 := Bt_1 (q := 29) tX1_countedSum_28 rfl
theorem dX1_countedSum_29 : decode cX1_countedSum 29 = .ok (.iconst 2, 1) := de_05 tX1_countedSum_29
def tX1_countedSum_30 := Bt_1 (q := 30) tX1_countedSum_29 rfl
theorem dX1_countedSum_30 : decode cX1_countedSum 30 = .ok (.if_icmp .ne 16, 3) := de_a0 tX1_countedSum_30 (by decide +kernel)
def tX1_countedSum_33 := Bt_3 (q := 33) tX1_countedSum_30 rfl
theorem dX1_countedSum_33 : decode cX1_countedSum 33 = .ok (.iload_n 2, 1) := de_1c tX1_countedSum_33
def tX1_countedSum_34 := Bt_1 (q := 34) tX1_countedSum_33 rfl
theorem dX1_countedSum_34 : decode cX1_countedSum 34 = .ok (.aload_n 0, 1) := de_2a tX1_countedSum_34
def tX1_countedSum_35 := Bt_1 (q := 35) tX1_countedSum_34 rfl
theorem dX1_countedSum_35 : decode cX1_countedSum 35 = .ok (.getfield 34, 3) := de_b4 tX1_countedSum_35 (by decide +kernel)
def tX1_countedSum_38 := Bt_3 (q := 38) tX1_countedSum_35 rfl
theorem dX1_countedSum_38 : decode cX1_countedSum 38 = .ok (.iload_n 1, 1) := de_1b tX1_countedSum_38
def tX1_countedSum_39 := Bt_1 (q := 39) tX1_countedSum_38 rfl
theorem dX1_countedSum_39 : decode cX1_countedSum 39 = .ok (.iaload, 1) := de_2e tX1_countedSum_39
def tX1_countedSum_40 := Bt_1 (q := 40) tX1_countedSum_39 rfl
theorem dX1_countedSum_40 : decode cX1_countedSum 40 = .ok (.invokestatic 69, 3) := de_b8 tX1_countedSum_40 (by decide +kernel)
def tX1_countedSum_43 := Bt_3 (q := 43) tX1_countedSum_40 rfl
theorem dX1_countedSum_43 : decode cX1_countedSum 43 = .ok (.goto 4, 3) := de_a7 tX1_countedSum_43 (by decide +kernel)
def tX1_countedSum_46 := Bt_3 (q := 46) tX1_countedSum_43 rfl
theorem dX1_countedSum_46 : decode cX1_countedSum 46 = .ok (.iload_n 2, 1) := de_1c tX1_countedSum_46
def tX1_countedSum_47 := Bt_1 (q := 47) tX1_countedSum_46 rfl
theorem dX1_countedSum_47 : decode cX1_countedSum 47 = .ok (.ireturn, 1) := de_ac tX1_countedSum_47
def tX1_isLapsed_0 := Bt_0 cX1_isLapsed
theorem dX1_isLapsed_0 : decode cX1_isLapsed 0 = .ok (.aload_n 0, 1) := de_2a tX1_isLapsed_0
def tX1_isLapsed_1 := Bt_1 (q := 1) tX1_isLapsed_0 rfl
theorem dX1_isLapsed_1 : decode cX1_isLapsed 1 = .ok (.getfield 25, 3) := de_b4 tX1_isLapsed_1 (by decide +kernel)
def tX1_isLapsed_4 := Bt_3 (q := 4) tX1_isLapsed_1 rfl
theorem dX1_isLapsed_4 : decode cX1_isLapsed 4 = .ok (.iload_n 1, 1) := de_1b tX1_isLapsed_4
def tX1_isLapsed_5 := Bt_1 (q := 5) tX1_isLapsed_4 rfl
theorem dX1_isLapsed_5 : decode cX1_isLapsed 5 = .ok (.iaload, 1) := de_2e tX1_isLapsed_5
def tX1_isLapsed_6 := Bt_1 (q := 6) tX1_isLapsed_5 rfl
theorem dX1_isLapsed_6 : decode cX1_isLapsed 6 = .ok (.ifCond .eq 20, 3) := de_99 tX1_isLapsed_6 (by decide +kernel)
def tX1_isLapsed_9 := Bt_3 (q := 9) tX1_isLapsed_6 rfl
theorem dX1_isLapsed_9 : decode cX1_isLapsed 9 = .ok (.aload_n 0, 1) := de_2a tX1_isLapsed_9
def tX1_isLapsed_10 := Bt_1 (q := 10) tX1_isLapsed_9 rfl
theorem dX1_isLapsed_10 : decode cX1_isLapsed 10 = .ok (.getfield 47, 3) := de_b4 tX1_isLapsed_10 (by decide +kernel)
def tX1_isLapsed_13 := Bt_3 (q := 13) tX1_isLapsed_10 rfl
theorem dX1_isLapsed_13 : decode cX1_isLapsed 13 = .ok (.aload_n 0, 1) := de_2a tX1_isLapsed_13
def tX1_isLapsed_14 := Bt_1 (q := 14) tX1_isLapsed_13 rfl
theorem dX1_isLapsed_14 : decode cX1_isLapsed 14 = .ok (.getfield 25, 3) := de_b4 tX1_isLapsed_14 (by decide +kernel)
def tX1_isLapsed_17 := Bt_3 (q := 17) tX1_isLapsed_14 rfl
theorem dX1_isLapsed_17 : decode cX1_isLapsed 17 = .ok (.iload_n 1, 1) := de_1b tX1_isLapsed_17
def tX1_isLapsed_18 := Bt_1 (q := 18) tX1_isLapsed_17 rfl
theorem dX1_isLapsed_18 : decode cX1_isLapsed 18 = .ok (.iaload, 1) := de_2e tX1_isLapsed_18
def tX1_isLapsed_19 := Bt_1 (q := 19) tX1_isLapsed_18 rfl
theorem dX1_isLapsed_19 : decode cX1_isLapsed 19 = .ok (.if_icmp .le 7, 3) := de_a4 tX1_isLapsed_19 (by decide +kernel)
def tX1_isLapsed_22 := Bt_3 (q := 22) tX1_isLapsed_19 rfl
theorem dX1_isLapsed_22 : decode cX1_isLapsed 22 = .ok (.iconst 1, 1) := de_04 tX1_isLapsed_22
def tX1_isLapsed_23 := Bt_1 (q := 23) tX1_isLapsed_22 rfl
theorem dX1_isLapsed_23 : decode cX1_isLapsed 23 = .ok (.goto 4, 3) := de_a7 tX1_isLapsed_23 (by decide +kernel)
def tX1_isLapsed_26 := Bt_3 (q := 26) tX1_isLapsed_23 rfl
theorem dX1_isLapsed_26 : decode cX1_isLapsed 26 = .ok (.iconst 0, 1) := de_03 tX1_isLapsed_26
def tX1_isLapsed_27 := Bt_1 (q := 27) tX1_isLapsed_26 rfl
theorem dX1_isLapsed_27 : decode cX1_isLapsed 27 = .ok (.ireturn, 1) := de_ac tX1_isLapsed_27
def tX1_isOutAt_0 := Bt_0 cX1_isOutAt
theorem dX1_isOutAt_0 : decode cX1_isOutAt 0 = .ok (.aload_n 0, 1) := de_2a tX1_isOutAt_0
def tX1_isOutAt_1 := Bt_1 (q := 1) tX1_isOutAt_0 rfl
theorem dX1_isOutAt_1 : decode cX1_isOutAt 1 = .ok (.getfield 22, 3) := de_b4 tX1_isOutAt_1 (by decide +kernel)
def tX1_isOutAt_4 := Bt_3 (q := 4) tX1_isOutAt_1 rfl
theorem dX1_isOutAt_4 : decode cX1_isOutAt 4 = .ok (.iload_n 1, 1) := de_1b tX1_isOutAt_4
def tX1_isOutAt_5 := Bt_1 (q := 5) tX1_isOutAt_4 rfl
theorem dX1_isOutAt_5 : decode cX1_isOutAt 5 = .ok (.baload, 1) := de_33 tX1_isOutAt_5
def tX1_isOutAt_6 := Bt_1 (q := 6) tX1_isOutAt_5 rfl
theorem dX1_isOutAt_6 : decode cX1_isOutAt 6 = .ok (.ifCond .ne 11, 3) := de_9a tX1_isOutAt_6 (by decide +kernel)
def tX1_isOutAt_9 := Bt_3 (q := 9) tX1_isOutAt_6 rfl
theorem dX1_isOutAt_9 : decode cX1_isOutAt 9 = .ok (.aload_n 0, 1) := de_2a tX1_isOutAt_9
def tX1_isOutAt_10 := Bt_1 (q := 10) tX1_isOutAt_9 rfl
theorem dX1_isOutAt_10 : decode cX1_isOutAt 10 = .ok (.iload_n 1, 1) := de_1b tX1_isOutAt_10
def tX1_isOutAt_11 := Bt_1 (q := 11) tX1_isOutAt_10 rfl
theorem dX1_isOutAt_11 : decode cX1_isOutAt 11 = .ok (.invokevirtual 72, 3) := de_b6 tX1_isOutAt_11 (by decide +kernel)
def tX1_isOutAt_14 := Bt_3 (q := 14) tX1_isOutAt_11 rfl
theorem dX1_isOutAt_14 : decode cX1_isOutAt 14 = .ok (.ifCond .eq 7, 3) := de_99 tX1_isOutAt_14 (by decide +kernel)
def tX1_isOutAt_17 := Bt_3 (q := 17) tX1_isOutAt_14 rfl
theorem dX1_isOutAt_17 : decode cX1_isOutAt 17 = .ok (.iconst 1, 1) := de_04 tX1_isOutAt_17
def tX1_isOutAt_18 := Bt_1 (q := 18) tX1_isOutAt_17 rfl
theorem dX1_isOutAt_18 : decode cX1_isOutAt 18 = .ok (.goto 4, 3) := de_a7 tX1_isOutAt_18 (by decide +kernel)
def tX1_isOutAt_21 := Bt_3 (q := 21) tX1_isOutAt_18 rfl
theorem dX1_isOutAt_21 : decode cX1_isOutAt 21 = .ok (.iconst 0, 1) := de_03 tX1_isOutAt_21
def tX1_isOutAt_22 := Bt_1 (q := 22) tX1_isOutAt_21 rfl
theorem dX1_isOutAt_22 : decode cX1_isOutAt 22 = .ok (.ireturn, 1) := de_ac tX1_isOutAt_22
def tX1_standsAt_0 := Bt_0 cX1_standsAt
theorem dX1_standsAt_0 : decode cX1_standsAt 0 = .ok (.aload_n 0, 1) := de_2a tX1_standsAt_0
def tX1_standsAt_1 := Bt_1 (q := 1) tX1_standsAt_0 rfl
theorem dX1_standsAt_1 : decode cX1_standsAt 1 = .ok (.getfield 18, 3) := de_b4 tX1_standsAt_1 (by decide +kernel)
def tX1_standsAt_4 := Bt_3 (q := 4) tX1_standsAt_1 rfl
theorem dX1_standsAt_4 : decode cX1_standsAt 4 = .ok (.iload_n 1, 1) := de_1b tX1_standsAt_4
def tX1_standsAt_5 := Bt_1 (q := 5) tX1_standsAt_4 rfl
theorem dX1_standsAt_5 : decode cX1_standsAt 5 = .ok (.baload, 1) := de_33 tX1_standsAt_5
def tX1_standsAt_6 := Bt_1 (q := 6) tX1_standsAt_5 rfl
theorem dX1_standsAt_6 : decode cX1_standsAt 6 = .ok (.ifCond .eq 15, 3) := de_99 tX1_standsAt_6 (by decide +kernel)
def tX1_standsAt_9 := Bt_3 (q := 9) tX1_standsAt_6 rfl
theorem dX1_standsAt_9 : decode cX1_standsAt 9 = .ok (.aload_n 0, 1) := de_2a tX1_standsAt_9
def tX1_standsAt_10 := Bt_1 (q := 10) tX1_standsAt_9 rfl
theorem dX1_standsAt_10 : decode cX1_standsAt 10 = .ok (.iload_n 1, 1) := de_1b tX1_standsAt_10
def tX1_standsAt_11 := Bt_1 (q := 11) tX1_standsAt_10 rfl
theorem dX1_standsAt_11 : decode cX1_standsAt 11 = .ok (.invokevirtual 76, 3) := de_b6 tX1_standsAt_11 (by decide +kernel)
def tX1_standsAt_14 := Bt_3 (q := 14) tX1_standsAt_11 rfl
theorem dX1_standsAt_14 : decode cX1_standsAt 14 = .ok (.ifCond .ne 7, 3) := de_9a tX1_standsAt_14 (by decide +kernel)
def tX1_standsAt_17 := Bt_3 (q := 17) tX1_standsAt_14 rfl
theorem dX1_standsAt_17 : decode cX1_standsAt 17 = .ok (.iconst 1, 1) := de_04 tX1_standsAt_17
def tX1_standsAt_18 := Bt_1 (q := 18) tX1_standsAt_17 rfl
theorem dX1_standsAt_18 : decode cX1_standsAt 18 = .ok (.goto 4, 3) := de_a7 tX1_standsAt_18 (by decide +kernel)
def tX1_standsAt_21 := Bt_3 (q := 21) tX1_standsAt_18 rfl
theorem dX1_standsAt_21 : decode cX1_standsAt 21 = .ok (.iconst 0, 1) := de_03 tX1_standsAt_21
def tX1_standsAt_22 := Bt_1 (q := 22) tX1_standsAt_21 rfl
theorem dX1_standsAt_22 : decode cX1_standsAt 22 = .ok (.ireturn, 1) := de_ac tX1_standsAt_22
def tX1_clearOut_0 := Bt_0 cX1_clearOut
theorem dX1_clearOut_0 : decode cX1_clearOut 0 = .ok (.aload_n 0, 1) := de_2a tX1_clearOut_0
def tX1_clearOut_1 := Bt_1 (q := 1) tX1_clearOut_0 rfl
theorem dX1_clearOut_1 : decode cX1_clearOut 1 = .ok (.getfield 22, 3) := de_b4 tX1_clearOut_1 (by decide +kernel)
def tX1_clearOut_4 := Bt_3 (q := 4) tX1_clearOut_1 rfl
theorem dX1_clearOut_4 : decode cX1_clearOut 4 = .ok (.iload_n 1, 1) := de_1b tX1_clearOut_4
def tX1_clearOut_5 := Bt_1 (q := 5) tX1_clearOut_4 rfl
theorem dX1_clearOut_5 : decode cX1_clearOut 5 = .ok (.iconst 0, 1) := de_03 tX1_clearOut_5
def tX1_clearOut_6 := Bt_1 (q := 6) tX1_clearOut_5 rfl
theorem dX1_clearOut_6 : decode cX1_clearOut 6 = .ok (.bastore, 1) := de_54 tX1_clearOut_6
def tX1_clearOut_7 := Bt_1 (q := 7) tX1_clearOut_6 rfl
theorem dX1_clearOut_7 : decode cX1_clearOut 7 = .ok (.aload_n 0, 1) := de_2a tX1_clearOut_7
def tX1_clearOut_8 := Bt_1 (q := 8) tX1_clearOut_7 rfl
theorem dX1_clearOut_8 : decode cX1_clearOut 8 = .ok (.iload_n 1, 1) := de_1b tX1_clearOut_8
def tX1_clearOut_9 := Bt_1 (q := 9) tX1_clearOut_8 rfl
theorem dX1_clearOut_9 : decode cX1_clearOut 9 = .ok (.invokevirtual 72, 3) := de_b6 tX1_clearOut_9 (by decide +kernel)
def tX1_clearOut_12 := Bt_3 (q := 12) tX1_clearOut_9 rfl
theorem dX1_clearOut_12 : decode cX1_clearOut 12 = .ok (.ifCond .eq 10, 3) := de_99 tX1_clearOut_12 (by decide +kernel)
def tX1_clearOut_15 := Bt_3 (q := 15) tX1_clearOut_12 rfl
theorem dX1_clearOut_15 : decode cX1_clearOut 15 = .ok (.aload_n 0, 1) := de_2a tX1_clearOut_15
def tX1_clearOut_16 := Bt_1 (q := 16) tX1_clearOut_15 rfl
theorem dX1_clearOut_16 : decode cX1_clearOut 16 = .ok (.getfield 25, 3) := de_b4 tX1_clearOut_16 (by decide +kernel)
def tX1_clearOut_19 := Bt_3 (q := 19) tX1_clearOut_16 rfl
theorem dX1_clearOut_19 : decode cX1_clearOut 19 = .ok (.iload_n 1, 1) := de_1b tX1_clearOut_19
def tX1_clearOut_20 := Bt_1 (q := 20) tX1_clearOut_19 rfl
theorem dX1_clearOut_20 : decode cX1_clearOut 20 = .ok (.iconst 0, 1) := de_03 tX1_clearOut_20
def tX1_clearOut_21 := Bt_1 (q := 21) tX1_clearOut_20 rfl
theorem dX1_clearOut_21 : decode cX1_clearOut 21 = .ok (.iastore, 1) := de_4f tX1_clearOut_21
def tX1_clearOut_22 := Bt_1 (q := 22) tX1_clearOut_21 rfl
theorem dX1_clearOut_22 : decode cX1_clearOut 22 = .ok (.return_, 1) := de_b1 tX1_clearOut_22
def tX1_clearOuts_0 := Bt_0 cX1_clearOuts
theorem dX1_clearOuts_0 : decode cX1_clearOuts 0 = .ok (.iconst 0, 1) := de_03 tX1_clearOuts_0
def tX1_clearOuts_1 := Bt_1 (q := 1) tX1_clearOuts_0 rfl
theorem dX1_clearOuts_1 : decode cX1_clearOuts 1 = .ok (.istore_n 2, 1) := de_3d tX1_clearOuts_1
def tX1_clearOuts_2 := Bt_1 (q := 2) tX1_clearOuts_1 rfl
theorem dX1_clearOuts_2 : decode cX1_clearOuts 2 = .ok (.iload_n 2, 1) := de_1c tX1_clearOuts_2
def tX1_clearOuts_3 := Bt_1 (q := 3) tX1_clearOuts_2 rfl
theorem dX1_clearOuts_3 : decode cX1_clearOuts 3 = .ok (.bipush 8, 2) := de_10 tX1_clearOuts_3 (by decide +kernel)
def tX1_clearOuts_5 := Bt_2 (q := 5) tX1_clearOuts_3 rfl
theorem dX1_clearOuts_5 : decode cX1_clearOuts 5 = .ok (.if_icmp .ge 29, 3) := de_a2 tX1_clearOuts_5 (by decide +kernel)
def tX1_clearOuts_8 := Bt_3 (q := 8) tX1_clearOuts_5 rfl
theorem dX1_clearOuts_8 : decode cX1_clearOuts 8 = .ok (.iload_n 2, 1) := de_1c tX1_clearOuts_8
def tX1_clearOuts_9 := Bt_1 (q := 9) tX1_clearOuts_8 rfl
theorem dX1_clearOuts_9 : decode cX1_clearOuts 9 = .ok (.iload_n 1, 1) := de_1b tX1_clearOuts_9
def tX1_clearOuts_10 := Bt_1 (q := 10) tX1_clearOuts_9 rfl
theorem dX1_clearOuts_10 : decode cX1_clearOuts 10 = .ok (.invokestatic 79, 3) := de_b8 tX1_clearOuts_10 (by decide +kernel)
def tX1_clearOuts_13 := Bt_3 (q := 13) tX1_clearOuts_10 rfl
theorem dX1_clearOuts_13 : decode cX1_clearOuts 13 = .ok (.istore_n 3, 1) := de_3e tX1_clearOuts_13
def tX1_clearOuts_14 := Bt_1 (q := 14) tX1_clearOuts_13 rfl
theorem dX1_clearOuts_14 : decode cX1_clearOuts 14 = .ok (.aload_n 0, 1) := de_2a tX1_clearOuts_14
def tX1_clearOuts_15 := Bt_1 (q := 15) tX1_clearOuts_14 rfl
theorem dX1_clearOuts_15 : decode cX1_clearOuts 15 = .ok (.getfield 18, 3) := de_b4 tX1_clearOuts_15 (by decide +kernel)
def tX1_clearOuts_18 := Bt_3 (q := 18) tX1_clearOuts_15 rfl
theorem dX1_clearOuts_18 : decode cX1_clearOuts 18 = .ok (.iload_n 3, 1) := de_1d tX1_clearOuts_18
def tX1_clearOuts_19 := Bt_1 (q := 19) tX1_clearOuts_18 rfl
theorem dX1_clearOuts_19 : decode cX1_clearOuts 19 = .ok (.baload, 1) := de_33 tX1_clearOuts_19
def tX1_clearOuts_20 := Bt_1 (q := 20) tX1_clearOuts_19 rfl
theorem dX1_clearOuts_20 : decode cX1_clearOuts 20 = .ok (.ifCond .eq 8, 3) := de_99 tX1_clearOuts_20 (by decide +kernel)
def tX1_clearOuts_23 := Bt_3 (q := 23) tX1_clearOuts_20 rfl
theorem dX1_clearOuts_23 : decode cX1_clearOuts 23 = .ok (.aload_n 0, 1) := de_2a tX1_clearOuts_23
def tX1_clearOuts_24 := Bt_1 (q := 24) tX1_clearOuts_23 rfl
theorem dX1_clearOuts_24 : decode cX1_clearOuts 24 = .ok (.iload_n 3, 1) := de_1d tX1_clearOuts_24
def tX1_clearOuts_25 := Bt_1 (q := 25) tX1_clearOuts_24 rfl
theorem dX1_clearOuts_25 : decode cX1_clearOuts 25 = .ok (.invokevirtual 82, 3) := de_b6 tX1_clearOuts_25 (by decide +kernel)
def tX1_clearOuts_28 := Bt_3 (q := 28) tX1_clearOuts_25 rfl
theorem dX1_clearOuts_28 : decode cX1_clearOuts 28 = .ok (.iinc 2 1, 3) := de_84 tX1_clearOuts_28 (by decide +kernel) (by decide +kernel)
def tX1_clearOuts_31 := Bt_3 (q := 31) tX1_clearOuts_28 rfl
theorem dX1_clearOuts_31 : decode cX1_clearOuts 31 = .ok (.goto (-29), 3) := de_a7 tX1_clearOuts_31 (by decide +kernel)
def tX1_clearOuts_34 := Bt_3 (q := 34) tX1_clearOuts_31 rfl
theorem dX1_clearOuts_34 : decode cX1_clearOuts 34 = .ok (.return_, 1) := de_b1 tX1_clearOuts_34
def tX1_isTooLow_0 := Bt_0 cX1_isTooLow
theorem dX1_isTooLow_0 : decode cX1_isTooLow 0 = .ok (.lconst 0, 1) := de_09 tX1_isTooLow_0
def tX1_isTooLow_1 := Bt_1 (q := 1) tX1_isTooLow_0 rfl
theorem dX1_isTooLow_1 : decode cX1_isTooLow 1 = .ok (.lstore_n 3, 1) := de_42 tX1_isTooLow_1
def tX1_isTooLow_2 := Bt_1 (q := 2) tX1_isTooLow_1 rfl
theorem dX1_isTooLow_2 : decode cX1_isTooLow 2 = .ok (.lconst 0, 1) := de_09 tX1_isTooLow_2
def tX1_isTooLow_3 := Bt_1 (q := 3) tX1_isTooLow_2 rfl
theorem dX1_isTooLow_3 : decode cX1_isTooLow 3 = .ok (.lstore 5, 2) := de_37 tX1_isTooLow_3 (by decide +kernel)
def tX1_isTooLow_5 := Bt_2 (q := 5) tX1_isTooLow_3 rfl
theorem dX1_isTooLow_5 : decode cX1_isTooLow 5 = .ok (.iconst 0, 1) := de_03 tX1_isTooLow_5
def tX1_isTooLow_6 := Bt_1 (q := 6) tX1_isTooLow_5 rfl
theorem dX1_isTooLow_6 : decode cX1_isTooLow 6 = .ok (.istore 7, 2) := de_36 tX1_isTooLow_6 (by decide +kernel)
def tX1_isTooLow_8 := Bt_2 (q := 8) tX1_isTooLow_6 rfl
theorem dX1_isTooLow_8 : decode cX1_isTooLow 8 = .ok (.iload 7, 2) := de_15 tX1_isTooLow_8 (by decide +kernel)
def tX1_isTooLow_10 := Bt_2 (q := 10) tX1_isTooLow_8 rfl
theorem dX1_isTooLow_10 : decode cX1_isTooLow 10 = .ok (.bipush 8, 2) := de_10 tX1_isTooLow_10 (by decide +kernel)
def tX1_isTooLow_12 := Bt_2 (q := 12) tX1_isTooLow_10 rfl
theorem dX1_isTooLow_12 : decode cX1_isTooLow 12 = .ok (.if_icmp .ge 48, 3) := de_a2 tX1_isTooLow_12 (by decide +kernel)
def tX1_isTooLow_15 := Bt_3 (q := 15) tX1_isTooLow_12 rfl
theorem dX1_isTooLow_15 : decode cX1_isTooLow 15 = .ok (.iload 7, 2) := de_15 tX1_isTooLow_15 (by decide +kernel)
def tX1_isTooLow_17 := Bt_2 (q := 17) tX1_isTooLow_15 rfl
theorem dX1_isTooLow_17 : decode cX1_isTooLow 17 = .ok (.iload_n 2, 1) := de_1c tX1_isTooLow_17
def tX1_isTooLow_18 := Bt_1 (q := 18) tX1_isTooLow_17 rfl
theorem dX1_isTooLow_18 : decode cX1_isTooLow 18 = .ok (.invokestatic 79, 3) := de_b8 tX1_isTooLow_18 (by decide +kernel)
def tX1_isTooLow_21 := Bt_3 (q := 21) tX1_isTooLow_18 rfl
theorem dX1_isTooLow_21 : decode cX1_isTooLow 21 = .ok (.istore 8, 2) := de_36 tX1_isTooLow_21 (by decide +kernel)
def tX1_isTooLow_23 := Bt_2 (q := 23) tX1_isTooLow_21 rfl
theorem dX1_isTooLow_23 : decode cX1_isTooLow 23 = .ok (.iload 7, 2) := de_15 tX1_isTooLow_23 (by decide +kernel)
def tX1_isTooLow_25 := Bt_2 (q := 25) tX1_isTooLow_23 rfl
theorem dX1_isTooLow_25 : decode cX1_isTooLow 25 = .ok (.iload_n 1, 1) := de_1b tX1_isTooLow_25
def tX1_isTooLow_26 := Bt_1 (q := 26) tX1_isTooLow_25 rfl
theorem dX1_isTooLow_26 : decode cX1_isTooLow 26 = .ok (.if_icmp .eq 28, 3) := de_9f tX1_isTooLow_26 (by decide +kernel)
def tX1_isTooLow_29 := Bt_3 (q := 29) tX1_isTooLow_26 rfl
theorem dX1_isTooLow_29 : decode cX1_isTooLow 29 = .ok (.aload_n 0, 1) := de_2a tX1_isTooLow_29
def tX1_isTooLow_30 := Bt_1 (q := 30) tX1_isTooLow_29 rfl
theorem dX1_isTooLow_30 : decode cX1_isTooLow 30 = .ok (.iload 8, 2) := de_15 tX1_isTooLow_30 (by decide +kernel)
def tX1_isTooLow_32 := Bt_2 (q := 32) tX1_isTooLow_30 rfl
theorem dX1_isTooLow_32 : decode cX1_isTooLow 32 = .ok (.invokevirtual 85, 3) := de_b6 tX1_isTooLow_32 (by decide +kernel)
def tX1_isTooLow_35 := Bt_3 (q := 35) tX1_isTooLow_32 rfl
theorem dX1_isTooLow_35 : decode cX1_isTooLow 35 = .ok (.ifCond .eq 19, 3) := de_99 tX1_isTooLow_35 (by decide +kernel)
def tX1_isTooLow_38 := Bt_3 (q := 38) tX1_isTooLow_35 rfl
theorem dX1_isTooLow_38 : decode cX1_isTooLow 38 = .ok (.lload_n 3, 1) := de_21 tX1_isTooLow_38
def tX1_isTooLow_39 := Bt_1 (q := 39) tX1_isTooLow_38 rfl
theorem dX1_isTooLow_39 : decode cX1_isTooLow 39 = .ok (.lconst 1, 1) := de_0a tX1_isTooLow_39
def tX1_isTooLow_40 := Bt_1 (q := 40) tX1_isTooLow_39 rfl
theorem dX1_isTooLow_40 : decode cX1_isTooLow 40 = .ok (.ladd, 1) := de_61 tX1_isTooLow_40
def tX1_isTooLow_41 := Bt_1 (q := 41) tX1_isTooLow_40 rfl
theorem dX1_isTooLow_41 : decode cX1_isTooLow 41 = .ok (.lstore_n 3, 1) := de_42 tX1_isTooLow_41
def tX1_isTooLow_42 := Bt_1 (q := 42) tX1_isTooLow_41 rfl
theorem dX1_isTooLow_42 : decode cX1_isTooLow 42 = .ok (.lload 5, 2) := de_16 tX1_isTooLow_42 (by decide +kernel)
def tX1_isTooLow_44 := Bt_2 (q := 44) tX1_isTooLow_42 rfl
theorem dX1_isTooLow_44 : decode cX1_isTooLow 44 = .ok (.aload_n 0, 1) := de_2a tX1_isTooLow_44
def tX1_isTooLow_45 := Bt_1 (q := 45) tX1_isTooLow_44 rfl
theorem dX1_isTooLow_45 : decode cX1_isTooLow 45 = .ok (.iload 8, 2) := de_15 tX1_isTooLow_45 (by decide +kernel)
def tX1_isTooLow_47 := Bt_2 (q := 47) tX1_isTooLow_45 rfl
theorem dX1_isTooLow_47 : decode cX1_isTooLow 47 = .ok (.invokevirtual 88, 3) := de_b6 tX1_isTooLow_47 (by decide +kernel)
def tX1_isTooLow_50 := Bt_3 (q := 50) tX1_isTooLow_47 rfl
theorem dX1_isTooLow_50 : decode cX1_isTooLow 50 = .ok (.i2l, 1) := de_85 tX1_isTooLow_50
def tX1_isTooLow_51 := Bt_1 (q := 51) tX1_isTooLow_50 rfl
theorem dX1_isTooLow_51 : decode cX1_isTooLow 51 = .ok (.ladd, 1) := de_61 tX1_isTooLow_51
def tX1_isTooLow_52 := Bt_1 (q := 52) tX1_isTooLow_51 rfl
theorem dX1_isTooLow_52 : decode cX1_isTooLow 52 = .ok (.lstore 5, 2) := de_37 tX1_isTooLow_52 (by decide +kernel)
def tX1_isTooLow_54 := Bt_2 (q := 54) tX1_isTooLow_52 rfl
theorem dX1_isTooLow_54 : decode cX1_isTooLow 54 = .ok (.iinc 7 1, 3) := de_84 tX1_isTooLow_54 (by decide +kernel) (by decide +kernel)
def tX1_isTooLow_57 := Bt_3 (q := 57) tX1_isTooLow_54 rfl
theorem dX1_isTooLow_57 : decode cX1_isTooLow 57 = .ok (.goto (-49), 3) := de_a7 tX1_isTooLow_57 (by decide +kernel)
def tX1_isTooLow_60 := Bt_3 (q := 60) tX1_isTooLow_57 rfl
theorem dX1_isTooLow_60 : decode cX1_isTooLow 60 = .ok (.aload_n 0, 1) := de_2a tX1_isTooLow_60
def tX1_isTooLow_61 := Bt_1 (q := 61) tX1_isTooLow_60 rfl
theorem dX1_isTooLow_61 : decode cX1_isTooLow 61 = .ok (.iload_n 1, 1) := de_1b tX1_isTooLow_61
def tX1_isTooLow_62 := Bt_1 (q := 62) tX1_isTooLow_61 rfl
theorem dX1_isTooLow_62 : decode cX1_isTooLow 62 = .ok (.iload_n 2, 1) := de_1c tX1_isTooLow_62
def tX1_isTooLow_63 := Bt_1 (q := 63) tX1_isTooLow_62 rfl
theorem dX1_isTooLow_63 : decode cX1_isTooLow 63 = .ok (.invokestatic 79, 3) := de_b8 tX1_isTooLow_63 (by decide +kernel)
def tX1_isTooLow_66 := Bt_3 (q := 66) tX1_isTooLow_63 rfl
theorem dX1_isTooLow_66 : decode cX1_isTooLow 66 = .ok (.invokevirtual 88, 3) := de_b6 tX1_isTooLow_66 (by decide +kernel)
def tX1_isTooLow_69 := Bt_3 (q := 69) tX1_isTooLow_66 rfl
theorem dX1_isTooLow_69 : decode cX1_isTooLow 69 = .ok (.i2l, 1) := de_85 tX1_isTooLow_69
def tX1_isTooLow_70 := Bt_1 (q := 70) tX1_isTooLow_69 rfl
theorem dX1_isTooLow_70 : decode cX1_isTooLow 70 = .ok (.ldc2_w 91, 3) := de_14 tX1_isTooLow_70 (by decide +kernel)
def tX1_isTooLow_73 := Bt_3 (q := 73) tX1_isTooLow_70 rfl
theorem dX1_isTooLow_73 : decode cX1_isTooLow 73 = .ok (.lmul, 1) := de_69 tX1_isTooLow_73
def tX1_isTooLow_74 := Bt_1 (q := 74) tX1_isTooLow_73 rfl
theorem dX1_isTooLow_74 : decode cX1_isTooLow 74 = .ok (.lload_n 3, 1) := de_21 tX1_isTooLow_74
def tX1_isTooLow_75 := Bt_1 (q := 75) tX1_isTooLow_74 rfl
theorem dX1_isTooLow_75 : decode cX1_isTooLow 75 = .ok (.lmul, 1) := de_69 tX1_isTooLow_75
def tX1_isTooLow_76 := Bt_1 (q := 76) tX1_isTooLow_75 rfl
theorem dX1_isTooLow_76 : decode cX1_isTooLow 76 = .ok (.aload_n 0, 1) := de_2a tX1_isTooLow_76
def tX1_isTooLow_77 := Bt_1 (q := 77) tX1_isTooLow_76 rfl
theorem dX1_isTooLow_77 : decode cX1_isTooLow 77 = .ok (.getfield 9, 3) := de_b4 tX1_isTooLow_77 (by decide +kernel)
def tX1_isTooLow_80 := Bt_3 (q := 80) tX1_isTooLow_77 rfl
theorem dX1_isTooLow_80 : decode cX1_isTooLow 80 = .ok (.iconst 2, 1) := de_05 tX1_isTooLow_80
def tX1_isTooLow_81 := Bt_1 (q := 81) tX1_isTooLow_80 rfl
theorem dX1_isTooLow_81 : decode cX1_isTooLow 81 = .ok (.iaload, 1) := de_2e tX1_isTooLow_81
def tX1_isTooLow_82 := Bt_1 (q := 82) tX1_isTooLow_81 rfl
theorem dX1_isTooLow_82 : decode cX1_isTooLow 82 = .ok (.i2l, 1) := de_85 tX1_isTooLow_82
def tX1_isTooLow_83 := Bt_1 (q := 83) tX1_isTooLow_82 rfl
theorem dX1_isTooLow_83 : decode cX1_isTooLow 83 = .ok (.lload 5, 2) := de_16 tX1_isTooLow_83 (by decide +kernel)
def tX1_isTooLow_85 := Bt_2 (q := 85) tX1_isTooLow_83 rfl
theorem dX1_isTooLow_85 : decode cX1_isTooLow 85 = .ok (.lmul, 1) := de_69 tX1_isTooLow_85
def tX1_isTooLow_86 := Bt_1 (q := 86) tX1_isTooLow_85 rfl
theorem dX1_isTooLow_86 : decode cX1_isTooLow 86 = .ok (.lcmp, 1) := de_94 tX1_isTooLow_86
def tX1_isTooLow_87 := Bt_1 (q := 87) tX1_isTooLow_86 rfl
theorem dX1_isTooLow_87 : decode cX1_isTooLow 87 = .ok (.ifCond .ge 7, 3) := de_9c tX1_isTooLow_87 (by decide +kernel)
def tX1_isTooLow_90 := Bt_3 (q := 90) tX1_isTooLow_87 rfl
theorem dX1_isTooLow_90 : decode cX1_isTooLow 90 = .ok (.iconst 1, 1) := de_04 tX1_isTooLow_90
def tX1_isTooLow_91 := Bt_1 (q := 91) tX1_isTooLow_90 rfl
theorem dX1_isTooLow_91 : decode cX1_isTooLow 91 = .ok (.goto 4, 3) := de_a7 tX1_isTooLow_91 (by decide +kernel)
def tX1_isTooLow_94 := Bt_3 (q := 94) tX1_isTooLow_91 rfl
theorem dX1_isTooLow_94 : decode cX1_isTooLow 94 = .ok (.iconst 0, 1) := de_03 tX1_isTooLow_94
def tX1_isTooLow_95 := Bt_1 (q := 95) tX1_isTooLow_94 rfl
theorem dX1_isTooLow_95 : decode cX1_isTooLow 95 = .ok (.ireturn, 1) := de_ac tX1_isTooLow_95
def tX1_countThere_0 := Bt_0 cX1_countThere
theorem dX1_countThere_0 : decode cX1_countThere 0 = .ok (.iconst 0, 1) := de_03 tX1_countThere_0
def tX1_countThere_1 := Bt_1 (q := 1) tX1_countThere_0 rfl
theorem dX1_countThere_1 : decode cX1_countThere 1 = .ok (.istore_n 1, 1) := de_3c tX1_countThere_1
def tX1_countThere_2 := Bt_1 (q := 2) tX1_countThere_1 rfl
theorem dX1_countThere_2 : decode cX1_countThere 2 = .ok (.iconst 0, 1) := de_03 tX1_countThere_2
def tX1_countThere_3 := Bt_1 (q := 3) tX1_countThere_2 rfl
theorem dX1_countThere_3 : decode cX1_countThere 3 = .ok (.istore_n 2, 1) := de_3d tX1_countThere_3
def tX1_countThere_4 := Bt_1 (q := 4) tX1_countThere_3 rfl
theorem dX1_countThere_4 : decode cX1_countThere 4 = .ok (.iload_n 2, 1) := de_1c tX1_countThere_4
def tX1_countThere_5 := Bt_1 (q := 5) tX1_countThere_4 rfl
theorem dX1_countThere_5 : decode cX1_countThere 5 = .ok (.bipush 48, 2) := de_10 tX1_countThere_5 (by decide +kernel)
def tX1_countThere_7 := Bt_2 (q := 7) tX1_countThere_5 rfl
theorem dX1_countThere_7 : decode cX1_countThere 7 = .ok (.if_icmp .ge 21, 3) := de_a2 tX1_countThere_7 (by decide +kernel)
def tX1_countThere_10 := Bt_3 (q := 10) tX1_countThere_7 rfl
theorem dX1_countThere_10 : decode cX1_countThere 10 = .ok (.aload_n 0, 1) := de_2a tX1_countThere_10
def tX1_countThere_11 := Bt_1 (q := 11) tX1_countThere_10 rfl
theorem dX1_countThere_11 : decode cX1_countThere 11 = .ok (.getfield 18, 3) := de_b4 tX1_countThere_11 (by decide +kernel)
def tX1_countThere_14 := Bt_3 (q := 14) tX1_countThere_11 rfl
theorem dX1_countThere_14 : decode cX1_countThere 14 = .ok (.iload_n 2, 1) := de_1c tX1_countThere_14
def tX1_countThere_15 := Bt_1 (q := 15) tX1_countThere_14 rfl
theorem dX1_countThere_15 : decode cX1_countThere 15 = .ok (.baload, 1) := de_33 tX1_countThere_15
def tX1_countThere_16 := Bt_1 (q := 16) tX1_countThere_15 rfl
theorem dX1_countThere_16 : decode cX1_countThere 16 = .ok (.ifCond .eq 6, 3) := de_99 tX1_countThere_16 (by decide +kernel)
def tX1_countThere_19 := Bt_3 (q := 19) tX1_countThere_16 rfl
theorem dX1_countThere_19 : decode cX1_countThere 19 = .ok (.iinc 1 1, 3) := de_84 tX1_countThere_19 (by decide +kernel) (by decide +kernel)
def tX1_countThere_22 := Bt_3 (q := 22) tX1_countThere_19 rfl
theorem dX1_countThere_22 : decode cX1_countThere 22 = .ok (.iinc 2 1, 3) := de_84 tX1_countThere_22 (by decide +kernel) (by decide +kernel)
def tX1_countThere_25 := Bt_3 (q := 25) tX1_countThere_22 rfl
theorem dX1_countThere_25 : decode cX1_countThere 25 = .ok (.goto (-21), 3) := de_a7 tX1_countThere_25 (by decide +kernel)
def tX1_countThere_28 := Bt_3 (q := 28) tX1_countThere_25 rfl
theorem dX1_countThere_28 : decode cX1_countThere 28 = .ok (.iload_n 1, 1) := de_1b tX1_countThere_28
def tX1_countThere_29 := Bt_1 (q := 29) tX1_countThere_28 rfl
theorem dX1_countThere_29 : decode cX1_countThere 29 = .ok (.ireturn, 1) := de_ac tX1_countThere_29
def tX1_countStanding_0 := Bt_0 cX1_countStanding
theorem dX1_countStanding_0 : decode cX1_countStanding 0 = .ok (.iconst 0, 1) := de_03 tX1_countStanding_0
def tX1_countStanding_1 := Bt_1 (q := 1) tX1_countStanding_0 rfl
theorem dX1_countStanding_1 : decode cX1_countStanding 1 = .ok (.istore_n 1, 1) := de_3c tX1_countStanding_1
def tX1_countStanding_2 := Bt_1 (q := 2) tX1_countStanding_1 rfl
theorem dX1_countStanding_2 : decode cX1_countStanding 2 = .ok (.iconst 0, 1) := de_03 tX1_countStanding_2
def tX1_countStanding_3 := Bt_1 (q := 3) tX1_countStanding_2 rfl
theorem dX1_countStanding_3 : decode cX1_countStanding 3 = .ok (.istore_n 2, 1) := de_3d tX1_countStanding_3
def tX1_countStanding_4 := Bt_1 (q := 4) tX1_countStanding_3 rfl
theorem dX1_countStanding_4 : decode cX1_countStanding 4 = .ok (.iload_n 2, 1) := de_1c tX1_countStanding_4
def tX1_countStanding_5 := Bt_1 (q := 5) tX1_countStanding_4 rfl
theorem dX1_countStanding_5 : decode cX1_countStanding 5 = .ok (.bipush 48, 2) := de_10 tX1_countStanding_5 (by decide +kernel)
def tX1_countStanding_7 := Bt_2 (q := 7) tX1_countStanding_5 rfl
theorem dX1_countStanding_7 : decode cX1_countStanding 7 = .ok (.if_icmp .ge 20, 3) := de_a2 tX1_countStanding_7 (by decide +kernel)
def tX1_countStanding_10 := Bt_3 (q := 10) tX1_countStanding_7 rfl
theorem dX1_countStanding_10 : decode cX1_countStanding 10 = .ok (.aload_n 0, 1) := de_2a tX1_countStanding_10
def tX1_countStanding_11 := Bt_1 (q := 11) tX1_countStanding_10 rfl
theorem dX1_countStanding_11 : decode cX1_countStanding 11 = .ok (.iload_n 2, 1) := de_1c tX1_countStanding_11
def tX1_countStanding_12 := Bt_1 (q := 12) tX1_countStanding_11 rfl
theorem dX1_countStanding_12 : decode cX1_countStanding 12 = .ok (.invokevirtual 85, 3) := de_b6 tX1_countStanding_12 (by decide +kernel)
def tX1_countStanding_15 := Bt_3 (q := 15) tX1_countStanding_12 rfl
theorem dX1_countStanding_15 : decode cX1_countStanding 15 = .ok (.ifCond .eq 6, 3) := de_99 tX1_countStanding_15 (by decide +kernel)
def tX1_countStanding_18 := Bt_3 (q := 18) tX1_countStanding_15 rfl
theorem dX1_countStanding_18 : decode cX1_countStanding 18 = .ok (.iinc 1 1, 3) := de_84 tX1_countStanding_18 (by decide +kernel) (by decide +kernel)
def tX1_countStanding_21 := Bt_3 (q := 21) tX1_countStanding_18 rfl
theorem dX1_countStanding_21 : decode cX1_countStanding 21 = .ok (.iinc 2 1, 3) := de_84 tX1_countStanding_21 (by decide +kernel) (by decide +kernel)
def tX1_countStanding_24 := Bt_3 (q := 24) tX1_countStanding_21 rfl
theorem dX1_countStanding_24 : decode cX1_countStanding 24 = .ok (.goto (-20), 3) := de_a7 tX1_countStanding_24 (by decide +kernel)
def tX1_countStanding_27 := Bt_3 (q := 27) tX1_countStanding_24 rfl
theorem dX1_countStanding_27 : decode cX1_countStanding 27 = .ok (.iload_n 1, 1) := de_1b tX1_countStanding_27
def tX1_countStanding_28 := Bt_1 (q := 28) tX1_countStanding_27 rfl
theorem dX1_countStanding_28 : decode cX1_countStanding 28 = .ok (.ireturn, 1) := de_ac tX1_countStanding_28
def tX2_init_0 := Bt_0 cX2_init
theorem dX2_init_0 : decode cX2_init 0 = .ok (.aload_n 0, 1) := de_2a tX2_init_0
def tX2_init_1 := Bt_1 (q := 1) tX2_init_0 rfl
theorem dX2_init_1 : decode cX2_init 1 = .ok (.invokespecial 3, 3) := de_b7 tX2_init_1 (by decide +kernel)
def tX2_init_4 := Bt_3 (q := 4) tX2_init_1 rfl
theorem dX2_init_4 : decode cX2_init 4 = .ok (.aload_n 0, 1) := de_2a tX2_init_4
def tX2_init_5 := Bt_1 (q := 5) tX2_init_4 rfl
theorem dX2_init_5 : decode cX2_init 5 = .ok (.bipush 80, 2) := de_10 tX2_init_5 (by decide +kernel)
def tX2_init_7 := Bt_2 (q := 7) tX2_init_5 rfl
theorem dX2_init_7 : decode cX2_init 7 = .ok (.newarray .int, 2) := de_bc_0a tX2_init_7
def tX2_init_9 := Bt_2 (q := 9) tX2_init_7 rfl
theorem dX2_init_9 : decode cX2_init 9 = .ok (.putfield 9, 3) := de_b5 tX2_init_9 (by decide +kernel)
def tX2_init_12 := Bt_3 (q := 12) tX2_init_9 rfl
theorem dX2_init_12 : decode cX2_init 12 = .ok (.aload_n 0, 1) := de_2a tX2_init_12
def tX2_init_13 := Bt_1 (q := 13) tX2_init_12 rfl
theorem dX2_init_13 : decode cX2_init 13 = .ok (.iconst 1, 1) := de_04 tX2_init_13
def tX2_init_14 := Bt_1 (q := 14) tX2_init_13 rfl
theorem dX2_init_14 : decode cX2_init 14 = .ok (.putfield 15, 3) := de_b5 tX2_init_14 (by decide +kernel)
def tX2_init_17 := Bt_3 (q := 17) tX2_init_14 rfl
theorem dX2_init_17 : decode cX2_init 17 = .ok (.aload_n 0, 1) := de_2a tX2_init_17
def tX2_init_18 := Bt_1 (q := 18) tX2_init_17 rfl
theorem dX2_init_18 : decode cX2_init 18 = .ok (.bipush 80, 2) := de_10 tX2_init_18 (by decide +kernel)
def tX2_init_20 := Bt_2 (q := 20) tX2_init_18 rfl
theorem dX2_init_20 : decode cX2_init 20 = .ok (.newarray .int, 2) := de_bc_0a tX2_init_20
def tX2_init_22 := Bt_2 (q := 22) tX2_init_20 rfl
theorem dX2_init_22 : decode cX2_init 22 = .ok (.putfield 19, 3) := de_b5 tX2_init_22 (by decide +kernel)
def tX2_init_25 := Bt_3 (q := 25) tX2_init_22 rfl
theorem dX2_init_25 : decode cX2_init 25 = .ok (.aload_n 0, 1) := de_2a tX2_init_25
def tX2_init_26 := Bt_1 (q := 26) tX2_init_25 rfl
theorem dX2_init_26 : decode cX2_init 26 = .ok (.bipush 80, 2) := de_10 tX2_init_26 (by decide +kernel)
def tX2_init_28 := Bt_2 (q := 28) tX2_init_26 rfl
theorem dX2_init_28 : decode cX2_init 28 = .ok (.newarray .int, 2) := de_bc_0a tX2_init_28
def tX2_init_30 := Bt_2 (q := 30) tX2_init_28 rfl
theorem dX2_init_30 : decode cX2_init 30 = .ok (.putfield 22, 3) := de_b5 tX2_init_30 (by decide +kernel)
def tX2_init_33 := Bt_3 (q := 33) tX2_init_30 rfl
theorem dX2_init_33 : decode cX2_init 33 = .ok (.aload_n 0, 1) := de_2a tX2_init_33
def tX2_init_34 := Bt_1 (q := 34) tX2_init_33 rfl
theorem dX2_init_34 : decode cX2_init 34 = .ok (.getfield 9, 3) := de_b4 tX2_init_34 (by decide +kernel)
def tX2_init_37 := Bt_3 (q := 37) tX2_init_34 rfl
theorem dX2_init_37 : decode cX2_init 37 = .ok (.iconst 0, 1) := de_03 tX2_init_37
def tX2_init_38 := Bt_1 (q := 38) tX2_init_37 rfl
theorem dX2_init_38 : decode cX2_init 38 = .ok (.bipush (-113), 2) := de_10 tX2_init_38 (by decide +kernel)
def tX2_init_40 := Bt_2 (q := 40) tX2_init_38 rfl
theorem dX2_init_40 : decode cX2_init 40 = .ok (.iastore, 1) := de_4f tX2_init_40
def tX2_init_41 := Bt_1 (q := 41) tX2_init_40 rfl
theorem dX2_init_41 : decode cX2_init 41 = .ok (.return_, 1) := de_b1 tX2_init_41
def tX2_useQuality_0 := Bt_0 cX2_useQuality
theorem dX2_useQuality_0 : decode cX2_useQuality 0 = .ok (.aload_n 0, 1) := de_2a tX2_useQuality_0
def tX2_useQuality_1 := Bt_1 (q := 1) tX2_useQuality_0 rfl
theorem dX2_useQuality_1 : decode cX2_useQuality 1 = .ok (.getfield 9, 3) := de_b4 tX2_useQuality_1 (by decide +kernel)
def tX2_useQuality_4 := Bt_3 (q := 4) tX2_useQuality_1 rfl
theorem dX2_useQuality_4 : decode cX2_useQuality 4 = .ok (.iconst 0, 1) := de_03 tX2_useQuality_4
def tX2_useQuality_5 := Bt_1 (q := 5) tX2_useQuality_4 rfl
theorem dX2_useQuality_5 : decode cX2_useQuality 5 = .ok (.bipush (-113), 2) := de_10 tX2_useQuality_5 (by decide +kernel)
def tX2_useQuality_7 := Bt_2 (q := 7) tX2_useQuality_5 rfl
theorem dX2_useQuality_7 : decode cX2_useQuality 7 = .ok (.iastore, 1) := de_4f tX2_useQuality_7
def tX2_useQuality_8 := Bt_1 (q := 8) tX2_useQuality_7 rfl
theorem dX2_useQuality_8 : decode cX2_useQuality 8 = .ok (.aload_n 0, 1) := de_2a tX2_useQuality_8
def tX2_useQuality_9 := Bt_1 (q := 9) tX2_useQuality_8 rfl
theorem dX2_useQuality_9 : decode cX2_useQuality 9 = .ok (.iconst 1, 1) := de_04 tX2_useQuality_9
def tX2_useQuality_10 := Bt_1 (q := 10) tX2_useQuality_9 rfl
theorem dX2_useQuality_10 : decode cX2_useQuality 10 = .ok (.putfield 15, 3) := de_b5 tX2_useQuality_10 (by decide +kernel)
def tX2_useQuality_13 := Bt_3 (q := 13) tX2_useQuality_10 rfl
theorem dX2_useQuality_13 : decode cX2_useQuality 13 = .ok (.return_, 1) := de_b1 tX2_useQuality_13
def tX2_take_0 := Bt_0 cX2_take
theorem dX2_take_0 : decode cX2_take 0 = .ok (.lload_n 2, 1) := de_20 tX2_take_0
def tX2_take_1 := Bt_1 (q := 1) tX2_take_0 rfl
theorem dX2_take_1 : decode cX2_take 1 = .ok (.lstore 4, 2) := de_37 tX2_take_1 (by decide +kernel)
def tX2_take_3 := Bt_2 (q := 3) tX2_take_1 rfl
theorem dX2_take_3 : decode cX2_take 3 = .ok (.iconst 0, 1) := de_03 tX2_take_3
def tX2_take_4 := Bt_1 (q := 4) tX2_take_3 rfl
theorem dX2_take_4 : decode cX2_take 4 = .ok (.istore 6, 2) := de_36 tX2_take_4 (by decide +kernel)
def tX2_take_6 := Bt_2 (q := 6) tX2_take_4 rfl
theorem dX2_take_6 : decode cX2_take 6 = .ok (.iload 6, 2) := de_15 tX2_take_6 (by decide +kernel)
def tX2_take_8 := Bt_2 (q := 8) tX2_take_6 rfl
theorem dX2_take_8 : decode cX2_take 8 = .ok (.iload_n 1, 1) := de_1b tX2_take_8
def tX2_take_9 := Bt_1 (q := 9) tX2_take_8 rfl
theorem dX2_take_9 : decode cX2_take 9 = .ok (.if_icmp .ge 51, 3) := de_a2 tX2_take_9 (by decide +kernel)
def tX2_take_12 := Bt_3 (q := 12) tX2_take_9 rfl
theorem dX2_take_12 : decode cX2_take 12 = .ok (.aload_n 0, 1) := de_2a tX2_take_12
def tX2_take_13 := Bt_1 (q := 13) tX2_take_12 rfl
theorem dX2_take_13 : decode cX2_take 13 = .ok (.getfield 25, 3) := de_b4 tX2_take_13 (by decide +kernel)
def tX2_take_16 := Bt_3 (q := 16) tX2_take_13 rfl
theorem dX2_take_16 : decode cX2_take 16 = .ok (.bipush 80, 2) := de_10 tX2_take_16 (by decide +kernel)
def tX2_take_18 := Bt_2 (q := 18) tX2_take_16 rfl
theorem dX2_take_18 : decode cX2_take 18 = .ok (.if_icmp .ge 42, 3) := de_a2 tX2_take_18 (by decide +kernel)
def tX2_take_21 := Bt_3 (q := 21) tX2_take_18 rfl
theorem dX2_take_21 : decode cX2_take 21 = .ok (.aload_n 0, 1) := de_2a tX2_take_21
def tX2_take_22 := Bt_1 (q := 22) tX2_take_21 rfl
theorem dX2_take_22 : decode cX2_take 22 = .ok (.getfield 19, 3) := de_b4 tX2_take_22 (by decide +kernel)
def tX2_take_25 := Bt_3 (q := 25) tX2_take_22 rfl
theorem dX2_take_25 : decode cX2_take 25 = .ok (.aload_n 0, 1) := de_2a tX2_take_25
def tX2_take_26 := Bt_1 (q := 26) tX2_take_25 rfl
theorem dX2_take_26 : decode cX2_take 26 = .ok (.getfield 25, 3) := de_b4 tX2_take_26 (by decide +kernel)
def tX2_take_29 := Bt_3 (q := 29) tX2_take_26 rfl
theorem dX2_take_29 : decode cX2_take 29 = .ok (.lload 4, 2) := de_16 tX2_take_29 (by decide +kernel)
def tX2_take_31 := Bt_2 (q := 31) tX2_take_29 rfl
theorem dX2_take_31 : decode cX2_take 31 = .ok (.ldc2_w 28, 3) := de_14 tX2_take_31 (by decide +kernel)
def tX2_take_34 := Bt_3 (q := 34) tX2_take_31 rfl
theorem dX2_take_34 : decode cX2_take 34 = .ok (.land, 1) := de_7f tX2_take_34
def tX2_take_35 := Bt_1 (q := 35) tX2_take_34 rfl
theorem dX2_take_35 : decode cX2_take 35 = .ok (.l2i, 1) := de_88 tX2_take_35
def tX2_take_36 := Bt_1 (q := 36) tX2_take_35 rfl
theorem dX2_take_36 : decode cX2_take 36 = .ok (.iastore, 1) := de_4f tX2_take_36
def tX2_take_37 := Bt_1 (q := 37) tX2_take_36 rfl
theorem dX2_take_37 : decode cX2_take 37 = .ok (.lload 4, 2) := de_16 tX2_take_37 (by decide +kernel)
def tX2_take_39 := Bt_2 (q := 39) tX2_take_37 rfl
theorem dX2_take_39 : decode cX2_take 39 = .ok (.bipush 8, 2) := de_10 tX2_take_39 (by decide +kernel)
def tX2_take_41 := Bt_2 (q := 41) tX2_take_39 rfl
theorem dX2_take_41 : decode cX2_take 41 = .ok (.lushr, 1) := de_7d tX2_take_41
def tX2_take_42 := Bt_1 (q := 42) tX2_take_41 rfl
theorem dX2_take_42 : decode cX2_take 42 = .ok (.lstore 4, 2) := de_37 tX2_take_42 (by decide +kernel)
def tX2_take_44 := Bt_2 (q := 44) tX2_take_42 rfl
theorem dX2_take_44 : decode cX2_take 44 = .ok (.aload_n 0, 1) := de_2a tX2_take_44
def tX2_take_45 := Bt_1 (q := 45) tX2_take_44 rfl
theorem dX2_take_45 : decode cX2_take 45 = .ok (.dup, 1) := de_59 tX2_take_45
def tX2_take_46 := Bt_1 (q := 46) tX2_take_45 rfl
theorem dX2_take_46 : decode cX2_take 46 = .ok (.getfield 25, 3) := de_b4 tX2_take_46 (by decide +kernel)
def tX2_take_49 := Bt_3 (q := 49) tX2_take_46 rfl
theorem dX2_take_49 : decode cX2_take 49 = .ok (.iconst 1, 1) := de_04 tX2_take_49
def tX2_take_50 := Bt_1 (q := 50) tX2_take_49 rfl
theorem dX2_take_50 : decode cX2_take 50 = .ok (.iadd, 1) := de_60 tX2_take_50
def tX2_take_51 := Bt_1 (q := 51) tX2_take_50 rfl
theorem dX2_take_51 : decode cX2_take 51 = .ok (.putfield 25, 3) := de_b5 tX2_take_51 (by decide +kernel)
def tX2_take_54 := Bt_3 (q := 54) tX2_take_51 rfl
theorem dX2_take_54 : decode cX2_take 54 = .ok (.iinc 6 1, 3) := de_84 tX2_take_54 (by decide +kernel) (by decide +kernel)
def tX2_take_57 := Bt_3 (q := 57) tX2_take_54 rfl
theorem dX2_take_57 : decode cX2_take 57 = .ok (.goto (-51), 3) := de_a7 tX2_take_57 (by decide +kernel)
def tX2_take_60 := Bt_3 (q := 60) tX2_take_57 rfl
theorem dX2_take_60 : decode cX2_take 60 = .ok (.aload_n 0, 1) := de_2a tX2_take_60
def tX2_take_61 := Bt_1 (q := 61) tX2_take_60 rfl
theorem dX2_take_61 : decode cX2_take 61 = .ok (.getfield 25, 3) := de_b4 tX2_take_61 (by decide +kernel)
def tX2_take_64 := Bt_3 (q := 64) tX2_take_61 rfl
theorem dX2_take_64 : decode cX2_take 64 = .ok (.ireturn, 1) := de_ac tX2_take_64
def tX2_readTape_0 := Bt_0 cX2_readTape
theorem dX2_readTape_0 : decode cX2_readTape 0 = .ok (.aload_n 0, 1) := de_2a tX2_readTape_0
def tX2_readTape_1 := Bt_1 (q := 1) tX2_readTape_0 rfl
theorem dX2_readTape_1 : decode cX2_readTape 1 = .ok (.iconst 0, 1) := de_03 tX2_readTape_1
def tX2_readTape_2 := Bt_1 (q := 2) tX2_readTape_1 rfl
theorem dX2_readTape_2 : decode cX2_readTape 2 = .ok (.putfield 30, 3) := de_b5 tX2_readTape_2 (by decide +kernel)
def tX2_readTape_5 := Bt_3 (q := 5) tX2_readTape_2 rfl
theorem dX2_readTape_5 : decode cX2_readTape 5 = .ok (.aload_n 0, 1) := de_2a tX2_readTape_5
def tX2_readTape_6 := Bt_1 (q := 6) tX2_readTape_5 rfl
theorem dX2_readTape_6 : decode cX2_readTape 6 = .ok (.iconst 0, 1) := de_03 tX2_readTape_6
def tX2_readTape_7 := Bt_1 (q := 7) tX2_readTape_6 rfl
theorem dX2_readTape_7 : decode cX2_readTape 7 = .ok (.putfield 33, 3) := de_b5 tX2_readTape_7 (by decide +kernel)
def tX2_readTape_10 := Bt_3 (q := 10) tX2_readTape_7 rfl
theorem dX2_readTape_10 : decode cX2_readTape 10 = .ok (.aload_n 0, 1) := de_2a tX2_readTape_10
def tX2_readTape_11 := Bt_1 (q := 11) tX2_readTape_10 rfl
theorem dX2_readTape_11 : decode cX2_readTape 11 = .ok (.iconst 0, 1) := de_03 tX2_readTape_11
def tX2_readTape_12 := Bt_1 (q := 12) tX2_readTape_11 rfl
theorem dX2_readTape_12 : decode cX2_readTape 12 = .ok (.putfield 36, 3) := de_b5 tX2_readTape_12 (by decide +kernel)
def tX2_readTape_15 := Bt_3 (q := 15) tX2_readTape_12 rfl
theorem dX2_readTape_15 : decode cX2_readTape 15 = .ok (.aload_n 0, 1) := de_2a tX2_readTape_15
def tX2_readTape_16 := Bt_1 (q := 16) tX2_readTape_15 rfl
theorem dX2_readTape_16 : decode cX2_readTape 16 = .ok (.iconst (-1), 1) := de_02 tX2_readTape_16
def tX2_readTape_17 := Bt_1 (q := 17) tX2_readTape_16 rfl
theorem dX2_readTape_17 : decode cX2_readTape 17 = .ok (.putfield 39, 3) := de_b5 tX2_readTape_17 (by decide +kernel)
def tX2_readTape_20 := Bt_3 (q := 20) tX2_readTape_17 rfl
theorem dX2_readTape_20 : decode cX2_readTape 20 = .ok (.aload_n 0, 1) := de_2a tX2_readTape_20
def tX2_readTape_21 := Bt_1 (q := 21) tX2_readTape_20 rfl
theorem dX2_readTape_21 : decode cX2_readTape 21 = .ok (.iconst 0, 1) := de_03 tX2_readTape_21
def tX2_readTape_22 := Bt_1 (q := 22) tX2_readTape_21 rfl
theorem dX2_readTape_22 : decode cX2_readTape 22 = .ok (.invokevirtual 42, 3) := de_b6 tX2_readTape_22 (by decide +kernel)
def tX2_readTape_25 := Bt_3 (q := 25) tX2_readTape_22 rfl
theorem dX2_readTape_25 : decode cX2_readTape 25 = .ok (.aload_n 0, 1) := de_2a tX2_readTape_25
def tX2_readTape_26 := Bt_1 (q := 26) tX2_readTape_25 rfl
theorem dX2_readTape_26 : decode cX2_readTape 26 = .ok (.getfield 36, 3) := de_b4 tX2_readTape_26 (by decide +kernel)
def tX2_readTape_29 := Bt_3 (q := 29) tX2_readTape_26 rfl
theorem dX2_readTape_29 : decode cX2_readTape 29 = .ok (.aload_n 0, 1) := de_2a tX2_readTape_29
def tX2_readTape_30 := Bt_1 (q := 30) tX2_readTape_29 rfl
theorem dX2_readTape_30 : decode cX2_readTape 30 = .ok (.getfield 25, 3) := de_b4 tX2_readTape_30 (by decide +kernel)
def tX2_readTape_33 := Bt_3 (q := 33) tX2_readTape_30 rfl
theorem dX2_readTape_33 : decode cX2_readTape 33 = .ok (.if_icmp .ge 7, 3) := de_a2 tX2_readTape_33 (by decide +kernel)
def tX2_readTape_36 := Bt_3 (q := 36) tX2_readTape_33 rfl
theorem dX2_readTape_36 : decode cX2_readTape 36 = .ok (.aload_n 0, 1) := de_2a tX2_readTape_36
def tX2_readTape_37 := Bt_1 (q := 37) tX2_readTape_36 rfl
theorem dX2_readTape_37 : decode cX2_readTape 37 = .ok (.invokevirtual 46, 3) := de_b6 tX2_readTape_37 (by decide +kernel)
def tX2_readTape_40 := Bt_3 (q := 40) tX2_readTape_37 rfl
theorem dX2_readTape_40 : decode cX2_readTape 40 = .ok (.aload_n 0, 1) := de_2a tX2_readTape_40
def tX2_readTape_41 := Bt_1 (q := 41) tX2_readTape_40 rfl
theorem dX2_readTape_41 : decode cX2_readTape 41 = .ok (.iconst 0, 1) := de_03 tX2_readTape_41
def tX2_readTape_42 := Bt_1 (q := 42) tX2_readTape_41 rfl
theorem dX2_readTape_42 : decode cX2_readTape 42 = .ok (.putfield 25, 3) := de_b5 tX2_readTape_42 (by decide +kernel)
def tX2_readTape_45 := Bt_3 (q := 45) tX2_readTape_42 rfl
theorem dX2_readTape_45 : decode cX2_readTape 45 = .ok (.aload_n 0, 1) := de_2a tX2_readTape_45
def tX2_readTape_46 := Bt_1 (q := 46) tX2_readTape_45 rfl
theorem dX2_readTape_46 : decode cX2_readTape 46 = .ok (.getfield 39, 3) := de_b4 tX2_readTape_46 (by decide +kernel)
def tX2_readTape_49 := Bt_3 (q := 49) tX2_readTape_46 rfl
theorem dX2_readTape_49 : decode cX2_readTape 49 = .ok (.iconst (-1), 1) := de_02 tX2_readTape_49
def tX2_readTape_50 := Bt_1 (q := 50) tX2_readTape_49 rfl
theorem dX2_readTape_50 : decode cX2_readTape 50 = .ok (.if_icmp .eq 11, 3) := de_9f tX2_readTape_50 (by decide +kernel)
def tX2_readTape_53 := Bt_3 (q := 53) tX2_readTape_50 rfl
theorem dX2_readTape_53 : decode cX2_readTape 53 = .ok (.bipush (-20), 2) := de_10 tX2_readTape_53 (by decide +kernel)
def tX2_readTape_55 := Bt_2 (q := 55) tX2_readTape_53 rfl
theorem dX2_readTape_55 : decode cX2_readTape 55 = .ok (.aload_n 0, 1) := de_2a tX2_readTape_55
def tX2_readTape_56 := Bt_1 (q := 56) tX2_readTape_55 rfl
theorem dX2_readTape_56 : decode cX2_readTape 56 = .ok (.getfield 39, 3) := de_b4 tX2_readTape_56 (by decide +kernel)
def tX2_readTape_59 := Bt_3 (q := 59) tX2_readTape_56 rfl
theorem dX2_readTape_59 : decode cX2_readTape 59 = .ok (.isub, 1) := de_64 tX2_readTape_59
def tX2_readTape_60 := Bt_1 (q := 60) tX2_readTape_59 rfl
theorem dX2_readTape_60 : decode cX2_readTape 60 = .ok (.ireturn, 1) := de_ac tX2_readTape_60
def tX2_readTape_61 := Bt_1 (q := 61) tX2_readTape_60 rfl
theorem dX2_readTape_61 : decode cX2_readTape 61 = .ok (.aload_n 0, 1) := de_2a tX2_readTape_61
def tX2_readTape_62 := Bt_1 (q := 62) tX2_readTape_61 rfl
theorem dX2_readTape_62 : decode cX2_readTape 62 = .ok (.getfield 22, 3) := de_b4 tX2_readTape_62 (by decide +kernel)
def tX2_readTape_65 := Bt_3 (q := 65) tX2_readTape_62 rfl
theorem dX2_readTape_65 : decode cX2_readTape 65 = .ok (.iconst 0, 1) := de_03 tX2_readTape_65
def tX2_readTape_66 := Bt_1 (q := 66) tX2_readTape_65 rfl
theorem dX2_readTape_66 : decode cX2_readTape 66 = .ok (.aload_n 0, 1) := de_2a tX2_readTape_66
def tX2_readTape_67 := Bt_1 (q := 67) tX2_readTape_66 rfl
theorem dX2_readTape_67 : decode cX2_readTape 67 = .ok (.getfield 9, 3) := de_b4 tX2_readTape_67 (by decide +kernel)
def tX2_readTape_70 := Bt_3 (q := 70) tX2_readTape_67 rfl
theorem dX2_readTape_70 : decode cX2_readTape 70 = .ok (.iconst 0, 1) := de_03 tX2_readTape_70
def tX2_readTape_71 := Bt_1 (q := 71) tX2_readTape_70 rfl
theorem dX2_readTape_71 : decode cX2_readTape 71 = .ok (.aload_n 0, 1) := de_2a tX2_readTape_71
def tX2_readTape_72 := Bt_1 (q := 72) tX2_readTape_71 rfl
theorem dX2_readTape_72 : decode cX2_readTape 72 = .ok (.getfield 30, 3) := de_b4 tX2_readTape_72 (by decide +kernel)
def tX2_readTape_75 := Bt_3 (q := 75) tX2_readTape_72 rfl
theorem dX2_readTape_75 : decode cX2_readTape 75 = .ok (.invokestatic 49, 3) := de_b8 tX2_readTape_75 (by decide +kernel)
def tX2_readTape_78 := Bt_3 (q := 78) tX2_readTape_75 rfl
theorem dX2_readTape_78 : decode cX2_readTape 78 = .ok (.aload_n 0, 1) := de_2a tX2_readTape_78
def tX2_readTape_79 := Bt_1 (q := 79) tX2_readTape_78 rfl
theorem dX2_readTape_79 : decode cX2_readTape 79 = .ok (.aload_n 0, 1) := de_2a tX2_readTape_79
def tX2_readTape_80 := Bt_1 (q := 80) tX2_readTape_79 rfl
theorem dX2_readTape_80 : decode cX2_readTape 80 = .ok (.getfield 30, 3) := de_b4 tX2_readTape_80 (by decide +kernel)
def tX2_readTape_83 := Bt_3 (q := 83) tX2_readTape_80 rfl
theorem dX2_readTape_83 : decode cX2_readTape 83 = .ok (.putfield 15, 3) := de_b5 tX2_readTape_83 (by decide +kernel)
def tX2_readTape_86 := Bt_3 (q := 86) tX2_readTape_83 rfl
theorem dX2_readTape_86 : decode cX2_readTape 86 = .ok (.aload_n 0, 1) := de_2a tX2_readTape_86
def tX2_readTape_87 := Bt_1 (q := 87) tX2_readTape_86 rfl
theorem dX2_readTape_87 : decode cX2_readTape 87 = .ok (.getfield 33, 3) := de_b4 tX2_readTape_87 (by decide +kernel)
def tX2_readTape_90 := Bt_3 (q := 90) tX2_readTape_87 rfl
theorem dX2_readTape_90 : decode cX2_readTape 90 = .ok (.ireturn, 1) := de_ac tX2_readTape_90
def tX2_peek_0 := Bt_0 cX2_peek
theorem dX2_peek_0 : decode cX2_peek 0 = .ok (.aload_n 0, 1) := de_2a tX2_peek_0
def tX2_peek_1 := Bt_1 (q := 1) tX2_peek_0 rfl
theorem dX2_peek_1 : decode cX2_peek 1 = .ok (.getfield 36, 3) := de_b4 tX2_peek_1 (by decide +kernel)
def tX2_peek_4 := Bt_3 (q := 4) tX2_peek_1 rfl
theorem dX2_peek_4 : decode cX2_peek 4 = .ok (.aload_n 0, 1) := de_2a tX2_peek_4
def tX2_peek_5 := Bt_1 (q := 5) tX2_peek_4 rfl
theorem dX2_peek_5 : decode cX2_peek 5 = .ok (.getfield 25, 3) := de_b4 tX2_peek_5 (by decide +kernel)
def tX2_peek_8 := Bt_3 (q := 8) tX2_peek_5 rfl
theorem dX2_peek_8 : decode cX2_peek 8 = .ok (.if_icmp .ge 15, 3) := de_a2 tX2_peek_8 (by decide +kernel)
def tX2_peek_11 := Bt_3 (q := 11) tX2_peek_8 rfl
theorem dX2_peek_11 : decode cX2_peek 11 = .ok (.aload_n 0, 1) := de_2a tX2_peek_11
def tX2_peek_12 := Bt_1 (q := 12) tX2_peek_11 rfl
theorem dX2_peek_12 : decode cX2_peek 12 = .ok (.getfield 19, 3) := de_b4 tX2_peek_12 (by decide +kernel)
def tX2_peek_15 := Bt_3 (q := 15) tX2_peek_12 rfl
theorem dX2_peek_15 : decode cX2_peek 15 = .ok (.aload_n 0, 1) := de_2a tX2_peek_15
def tX2_peek_16 := Bt_1 (q := 16) tX2_peek_15 rfl
theorem dX2_peek_16 : decode cX2_peek 16 = .ok (.getfield 36, 3) := de_b4 tX2_peek_16 (by decide +kernel)
def tX2_peek_19 := Bt_3 (q := 19) tX2_peek_16 rfl
theorem dX2_peek_19 : decode cX2_peek 19 = .ok (.iaload, 1) := de_2e tX2_peek_19
def tX2_peek_20 := Bt_1 (q := 20) tX2_peek_19 rfl
theorem dX2_peek_20 : decode cX2_peek 20 = .ok (.goto 4, 3) := de_a7 tX2_peek_20 (by decide +kernel)
def tX2_peek_23 := Bt_3 (q := 23) tX2_peek_20 rfl
theorem dX2_peek_23 : decode cX2_peek 23 = .ok (.iconst (-1), 1) := de_02 tX2_peek_23
def tX2_peek_24 := Bt_1 (q := 24) tX2_peek_23 rfl
theorem dX2_peek_24 : decode cX2_peek 24 = .ok (.ireturn, 1) := de_ac tX2_peek_24
def tX2_findFault_0 := Bt_0 cX2_findFault
theorem dX2_findFault_0 : decode cX2_findFault 0 = .ok (.aload_n 0, 1) := de_2a tX2_findFault_0
def tX2_findFault_1 := Bt_1 (q := 1) tX2_findFault_0 rfl
theorem dX2_findFault_1 : decode cX2_findFault 1 = .ok (.getfield 39, 3) := de_b4 tX2_findFault_1 (by decide +kernel)
def tX2_findFault_4 := Bt_3 (q := 4) tX2_findFault_1 rfl
theorem dX2_findFault_4 : decode cX2_findFault 4 = .ok (.iconst (-1), 1) := de_02 tX2_findFault_4
def tX2_findFault_5 := Bt_1 (q := 5) tX2_findFault_4 rfl
theorem dX2_findFault_5 : decode cX2_findFault 5 = .ok (.if_icmp .ne 11, 3) := de_a0 tX2_findFault_5 (by decide +kernel)
def tX2_findFault_8 := Bt_3 (q := 8) tX2_findFault_5 rfl
theorem dX2_findFault_8 : decode cX2_findFault 8 = .ok (.aload_n 0, 1) := de_2a tX2_findFault_8
def tX2_findFault_9 := Bt_1 (q := 9) tX2_findFault_8 rfl
theorem dX2_findFault_9 : decode cX2_findFault 9 = .ok (.aload_n 0, 1) := de_2a tX2_findFault_9
def tX2_findFault_10 := Bt_1 (q := 10) tX2_findFault_9 rfl
theorem dX2_findFault_10 : decode cX2_findFault 10 = .ok (.getfield 36, 3) := de_b4 tX2_findFault_10 (by decide +kernel)
def tX2_findFault_13 := Bt_3 (q := 13) tX2_findFault_10 rfl
theorem dX2_findFault_13 : decode cX2_findFault 13 = .ok (.putfield 39, 3) := de_b5 tX2_findFault_13 (by decide +kernel)
def tX2_findFault_16 := Bt_3 (q := 16) tX2_findFault_13 rfl
theorem dX2_findFault_16 : decode cX2_findFault 16 = .ok (.return_, 1) := de_b1 tX2_findFault_16
def tX2_emit_0 := Bt_0 cX2_emit
theorem dX2_emit_0 : decode cX2_emit 0 = .ok (.aload_n 0, 1) := de_2a tX2_emit_0
def tX2_emit_1 := Bt_1 (q := 1) tX2_emit_0 rfl
theorem dX2_emit_1 : decode cX2_emit 1 = .ok (.getfield 30, 3) := de_b4 tX2_emit_1 (by decide +kernel)
def tX2_emit_4 := Bt_3 (q := 4) tX2_emit_1 rfl
theorem dX2_emit_4 : decode cX2_emit 4 = .ok (.bipush 80, 2) := de_10 tX2_emit_4 (by decide +kernel)
def tX2_emit_6 := Bt_2 (q := 6) tX2_emit_4 rfl
theorem dX2_emit_6 : decode cX2_emit 6 = .ok (.if_icmp .ge 23, 3) := de_a2 tX2_emit_6 (by decide +kernel)
def tX2_emit_9 := Bt_3 (q := 9) tX2_emit_6 rfl
theorem dX2_emit_9 : decode cX2_emit 9 = .ok (.aload_n 0, 1) := de_2a tX2_emit_9
def tX2_emit_10 := Bt_1 (q := 10) tX2_emit_9 rfl
theorem dX2_emit_10 : decode cX2_emit 10 = .ok (.getfield 22, 3) := de_b4 tX2_emit_10 (by decide +kernel)
def tX2_emit_13 := Bt_3 (q := 13) tX2_emit_10 rfl
theorem dX2_emit_13 : decode cX2_emit 13 = .ok (.aload_n 0, 1) := de_2a tX2_emit_13
def tX2_emit_14 := Bt_1 (q := 14) tX2_emit_13 rfl
theorem dX2_emit_14 : decode cX2_emit 14 = .ok (.getfield 30, 3) := de_b4 tX2_emit_14 (by decide +kernel)
def tX2_emit_17 := Bt_3 (q := 17) tX2_emit_14 rfl
theorem dX2_emit_17 : decode cX2_emit 17 = .ok (.iload_n 1, 1) := de_1b tX2_emit_17
def tX2_emit_18 := Bt_1 (q := 18) tX2_emit_17 rfl
theorem dX2_emit_18 : decode cX2_emit 18 = .ok (.iastore, 1) := de_4f tX2_emit_18
def tX2_emit_19 := Bt_1 (q := 19) tX2_emit_18 rfl
theorem dX2_emit_19 : decode cX2_emit 19 = .ok (.aload_n 0, 1) := de_2a tX2_emit_19
def tX2_emit_20 := Bt_1 (q := 20) tX2_emit_19 rfl
theorem dX2_emit_20 : decode cX2_emit 20 = .ok (.dup, 1) := de_59 tX2_emit_20
def tX2_emit_21 := Bt_1 (q := 21) tX2_emit_20 rfl
theorem dX2_emit_21 : decode cX2_emit 21 = .ok (.getfield 30, 3) := de_b4 tX2_emit_21 (by decide +kernel)
def tX2_emit_24 := Bt_3 (q := 24) tX2_emit_21 rfl
theorem dX2_emit_24 : decode cX2_emit 24 = .ok (.iconst 1, 1) := de_04 tX2_emit_24
def tX2_emit_25 := Bt_1 (q := 25) tX2_emit_24 rfl
theorem dX2_emit_25 : decode cX2_emit 25 = .ok (.iadd, 1) := de_60 tX2_emit_25
def tX2_emit_26 := Bt_1 (q := 26) tX2_emit_25 rfl
theorem dX2_emit_26 : decode cX2_emit 26 = .ok (.putfield 30, 3) := de_b5 tX2_emit_26 (by decide +kernel)
def tX2_emit_29 := Bt_3 (q := 29) tX2_emit_26 rfl
theorem dX2_emit_29 : decode cX2_emit 29 = .ok (.return_, 1) := de_b1 tX2_emit_29
def tX2_readSum_0 := Bt_0 cX2_readSum
theorem dX2_readSum_0 : decode cX2_readSum 0 = .ok (.aload_n 0, 1) := de_2a tX2_readSum_0
def tX2_readSum_1 := Bt_1 (q := 1) tX2_readSum_0 rfl
theorem dX2_readSum_1 : decode cX2_readSum 1 = .ok (.iload_n 1, 1) := de_1b tX2_readSum_1
def tX2_readSum_2 := Bt_1 (q := 2) tX2_readSum_1 rfl
theorem dX2_readSum_2 : decode cX2_readSum 2 = .ok (.invokevirtual 55, 3) := de_b6 tX2_readSum_2 (by decide +kernel)
def tX2_readSum_5 := Bt_3 (q := 5) tX2_readSum_2 rfl
theorem dX2_readSum_5 : decode cX2_readSum 5 = .ok (.iconst 0, 1) := de_03 tX2_readSum_5
def tX2_readSum_6 := Bt_1 (q := 6) tX2_readSum_5 rfl
theorem dX2_readSum_6 : decode cX2_readSum 6 = .ok (.istore_n 2, 1) := de_3d tX2_readSum_6
def tX2_readSum_7 := Bt_1 (q := 7) tX2_readSum_6 rfl
theorem dX2_readSum_7 : decode cX2_readSum 7 = .ok (.iload_n 2, 1) := de_1c tX2_readSum_7
def tX2_readSum_8 := Bt_1 (q := 8) tX2_readSum_7 rfl
theorem dX2_readSum_8 : decode cX2_readSum 8 = .ok (.bipush 80, 2) := de_10 tX2_readSum_8 (by decide +kernel)
def tX2_readSum_10 := Bt_2 (q := 10) tX2_readSum_8 rfl
theorem dX2_readSum_10 : decode cX2_readSum 10 = .ok (.if_icmp .ge 56, 3) := de_a2 tX2_readSum_10 (by decide +kernel)
def tX2_readSum_13 := Bt_3 (q := 13) tX2_readSum_10 rfl
theorem dX2_readSum_13 : decode cX2_readSum 13 = .ok (.aload_n 0, 1) := de_2a tX2_readSum_13
def tX2_readSum_14 := Bt_1 (q := 14) tX2_readSum_13 rfl
theorem dX2_readSum_14 : decode cX2_readSum 14 = .ok (.getfield 39, 3) := de_b4 tX2_readSum_14 (by decide +kernel)
def tX2_readSum_17 := Bt_3 (q := 17) tX2_readSum_14 rfl
theorem dX2_readSum_17 : decode cX2_readSum 17 = .ok (.iconst (-1), 1) := de_02 tX2_readSum_17
def tX2_readSum_18 := Bt_1 (q := 18) tX2_readSum_17 rfl
theorem dX2_readSum_18 : decode cX2_readSum 18 = .ok (.if_icmp .ne 48, 3) := de_a0 tX2_readSum_18 (by decide +kernel)
def tX2_readSum_21 := Bt_3 (q := 21) tX2_readSum_18 rfl
theorem dX2_readSum_21 : decode cX2_readSum 21 = .ok (.aload_n 0, 1) := de_2a tX2_readSum_21
def tX2_readSum_22 := Bt_1 (q := 22) tX2_readSum_21 rfl
theorem dX2_readSum_22 : decode cX2_readSum 22 = .ok (.invokevirtual 58, 3) := de_b6 tX2_readSum_22 (by decide +kernel)
def tX2_readSum_25 := Bt_3 (q := 25) tX2_readSum_22 rfl
theorem dX2_readSum_25 : decode cX2_readSum 25 = .ok (.istore_n 3, 1) := de_3e tX2_readSum_25
def tX2_readSum_26 := Bt_1 (q := 26) tX2_readSum_25 rfl
theorem dX2_readSum_26 : decode cX2_readSum 26 = .ok (.iload_n 3, 1) := de_1d tX2_readSum_26
def tX2_readSum_27 := Bt_1 (q := 27) tX2_readSum_26 rfl
theorem dX2_readSum_27 : decode cX2_readSum 27 = .ok (.bipush 43, 2) := de_10 tX2_readSum_27 (by decide +kernel)
def tX2_readSum_29 := Bt_2 (q := 29) tX2_readSum_27 rfl
theorem dX2_readSum_29 : decode cX2_readSum 29 = .ok (.if_icmp .eq 10, 3) := de_9f tX2_readSum_29 (by decide +kernel)
def tX2_readSum_32 := Bt_3 (q := 32) tX2_readSum_29 rfl
theorem dX2_readSum_32 : decode cX2_readSum 32 = .ok (.iload_n 3, 1) := de_1d tX2_readSum_32
def tX2_readSum_33 := Bt_1 (q := 33) tX2_readSum_32 rfl
theorem dX2_readSum_33 : decode cX2_readSum 33 = .ok (.bipush 45, 2) := de_10 tX2_readSum_33 (by decide +kernel)
def tX2_readSum_35 := Bt_2 (q := 35) tX2_readSum_33 rfl
theorem dX2_readSum_35 : decode cX2_readSum 35 = .ok (.if_icmp .eq 4, 3) := de_9f tX2_readSum_35 (by decide +kernel)
def tX2_readSum_38 := Bt_3 (q := 38) tX2_readSum_35 rfl
theorem dX2_readSum_38 : decode cX2_readSum 38 = .ok (.return_, 1) := de_b1 tX2_readSum_38
def tX2_readSum_39 := Bt_1 (q := 39) tX2_readSum_38 rfl
theorem dX2_readSum_39 : decode cX2_readSum 39 = .ok (.aload_n 0, 1) := de_2a tX2_readSum_39
def tX2_readSum_40 := Bt_1 (q := 40) tX2_readSum_39 rfl
theorem dX2_readSum_40 : decode cX2_readSum 40 = .ok (.dup, 1) := de_59 tX2_readSum_40
def tX2_readSum_41 := Bt_1 (q := 41) tX2_readSum_40 rfl
theorem dX2_readSum_41 : decode cX2_readSum 41 = .ok (.getfield 36, 3) := de_b4 tX2_readSum_41 (by decide +kernel)
def tX2_readSum_44 := Bt_3 (q := 44) tX2_readSum_41 rfl
theorem dX2_readSum_44 : decode cX2_readSum 44 = .ok (.iconst 1, 1) := de_04 tX2_readSum_44
def tX2_readSum_45 := Bt_1 (q := 45) tX2_readSum_44 rfl
theorem dX2_readSum_45 : decode cX2_readSum 45 = .ok (.iadd, 1) := de_60 tX2_readSum_45
def tX2_readSum_46 := Bt_1 (q := 46) tX2_readSum_45 rfl
theorem dX2_readSum_46 : decode cX2_readSum 46 = .ok (.putfield 36, 3) := de_b5 tX2_readSum_46 (by decide +kernel)
def tX2_readSum_49 := Bt_3 (q := 49) tX2_readSum_46 rfl
theorem dX2_readSum_49 : decode cX2_readSum 49 = .ok (.aload_n 0, 1) := de_2a tX2_readSum_49
def tX2_readSum_50 := Bt_1 (q := 50) tX2_readSum_49 rfl
theorem dX2_readSum_50 : decode cX2_readSum 50 = .ok (.iload_n 1, 1) := de_1b tX2_readSum_50
def tX2_readSum_51 := Bt_1 (q := 51) tX2_readSum_50 rfl
theorem dX2_readSum_51 : decode cX2_readSum 51 = .ok (.invokevirtual 55, 3) := de_b6 tX2_readSum_51 (by decide +kernel)
def tX2_readSum_54 := Bt_3 (q := 54) tX2_readSum_51 rfl
theorem dX2_readSum_54 : decode cX2_readSum 54 = .ok (.aload_n 0, 1) := de_2a tX2_readSum_54
def tX2_readSum_55 := Bt_1 (q := 55) tX2_readSum_54 rfl
theorem dX2_readSum_55 : decode cX2_readSum 55 = .ok (.iload_n 3, 1) := de_1d tX2_readSum_55
def tX2_readSum_56 := Bt_1 (q := 56) tX2_readSum_55 rfl
theorem dX2_readSum_56 : decode cX2_readSum 56 = .ok (.ineg, 1) := de_74 tX2_readSum_56
def tX2_readSum_57 := Bt_1 (q := 57) tX2_readSum_56 rfl
theorem dX2_readSum_57 : decode cX2_readSum 57 = .ok (.invokevirtual 62, 3) := de_b6 tX2_readSum_57 (by decide +kernel)
def tX2_readSum_60 := Bt_3 (q := 60) tX2_readSum_57 rfl
theorem dX2_readSum_60 : decode cX2_readSum 60 = .ok (.iinc 2 1, 3) := de_84 tX2_readSum_60 (by decide +kernel) (by decide +kernel)
def tX2_readSum_63 := Bt_3 (q := 63) tX2_readSum_60 rfl
theorem dX2_readSum_63 : decode cX2_readSum 63 = .ok (.goto (-56), 3) := de_a7 tX2_readSum_63 (by decide +kernel)
def tX2_readSum_66 := Bt_3 (q := 66) tX2_readSum_63 rfl
theorem dX2_readSum_66 : decode cX2_readSum 66 = .ok (.return_, 1) := de_b1 tX2_readSum_66
def tX2_readTerm_0 := Bt_0 cX2_readTerm
theorem dX2_readTerm_0 : decode cX2_readTerm 0 = .ok (.aload_n 0, 1) := de_2a tX2_readTerm_0
def tX2_readTerm_1 := Bt_1 (q := 1) tX2_readTerm_0 rfl
theorem dX2_readTerm_1 : decode cX2_readTerm 1 = .ok (.iload_n 1, 1) := de_1b tX2_readTerm_1
def tX2_readTerm_2 := Bt_1 (q := 2) tX2_readTerm_1 rfl
theorem dX2_readTerm_2 : decode cX2_readTerm 2 = .ok (.invokevirtual 65, 3) := de_b6 tX2_readTerm_2 (by decide +kernel)
def tX2_readTerm_5 := Bt_3 (q := 5) tX2_readTerm_2 rfl
theorem dX2_readTerm_5 : decode cX2_readTerm 5 = .ok (.iconst 0, 1) := de_03 tX2_readTerm_5
def tX2_readTerm_6 := Bt_1 (q := 6) tX2_readTerm_5 rfl
theorem dX2_readTerm_6 : decode cX2_readTerm 6 = .ok (.istore_n 2, 1) := de_3d tX2_readTerm_6
def tX2_readTerm_7 := Bt_1 (q := 7) tX2_readTerm_6 rfl
theorem dX2_readTerm_7 : decode cX2_readTerm 7 = .ok (.iload_n 2, 1) := de_1c tX2_readTerm_7
def tX2_readTerm_8 := Bt_1 (q := 8) tX2_readTerm_7 rfl
theorem dX2_readTerm_8 : decode cX2_readTerm 8 = .ok (.bipush 80, 2) := de_10 tX2_readTerm_8 (by decide +kernel)
def tX2_readTerm_10 := Bt_2 (q := 10) tX2_readTerm_8 rfl
theorem dX2_readTerm_10 : decode cX2_readTerm 10 = .ok (.if_icmp .ge 56, 3) := de_a2 tX2_readTerm_10 (by decide +kernel)
def tX2_readTerm_13 := Bt_3 (q := 13) tX2_readTerm_10 rfl
theorem dX2_readTerm_13 : decode cX2_readTerm 13 = .ok (.aload_n 0, 1) := de_2a tX2_readTerm_13
def tX2_readTerm_14 := Bt_1 (q := 14) tX2_readTerm_13 rfl
theorem dX2_readTerm_14 : decode cX2_readTerm 14 = .ok (.getfield 39, 3) := de_b4 tX2_readTerm_14 (by decide +kernel)
def tX2_readTerm_17 := Bt_3 (q := 17) tX2_readTerm_14 rfl
theorem dX2_readTerm_17 : decode cX2_readTerm 17 = .ok (.iconst (-1), 1) := de_02 tX2_readTerm_17
def tX2_readTerm_18 := Bt_1 (q := 18) tX2_readTerm_17 rfl
theorem dX2_readTerm_18 : decode cX2_readTerm 18 = .ok (.if_icmp .ne 48, 3) := de_a0 tX2_readTerm_18 (by decide +kernel)
def tX2_readTerm_21 := Bt_3 (q := 21) tX2_readTerm_18 rfl
theorem dX2_readTerm_21 : decode cX2_readTerm 21 = .ok (.aload_n 0, 1) := de_2a tX2_readTerm_21
def tX2_readTerm_22 := Bt_1 (q := 22) tX2_readTerm_21 rfl
theorem dX2_readTerm_22 : decode cX2_readTerm 22 = .ok (.invokevirtual 58, 3) := de_b6 tX2_readTerm_22 (by decide +kernel)
def tX2_readTerm_25 := Bt_3 (q := 25) tX2_readTerm_22 rfl
theorem dX2_readTerm_25 : decode cX2_readTerm 25 = .ok (.istore_n 3, 1) := de_3e tX2_readTerm_25
def tX2_readTerm_26 := Bt_1 (q := 26) tX2_readTerm_25 rfl
theorem dX2_readTerm_26 : decode cX2_readTerm 26 = .ok (.iload_n 3, 1) := de_1d tX2_readTerm_26
def tX2_readTerm_27 := Bt_1 (q := 27) tX2_readTerm_26 rfl
theorem dX2_readTerm_27 : decode cX2_readTerm 27 = .ok (.bipush 42, 2) := de_10 tX2_readTerm_27 (by decide +kernel)
def tX2_readTerm_29 := Bt_2 (q := 29) tX2_readTerm_27 rfl
theorem dX2_readTerm_29 : decode cX2_readTerm 29 = .ok (.if_icmp .eq 10, 3) := de_9f tX2_readTerm_29 (by decide +kernel)
def tX2_readTerm_32 := Bt_3 (q := 32) tX2_readTerm_29 rfl
theorem dX2_readTerm_32 : decode cX2_readTerm 32 = .ok (.iload_n 3, 1) := de_1d tX2_readTerm_32
def tX2_readTerm_33 := Bt_1 (q := 33) tX2_readTerm_32 rfl
theorem dX2_readTerm_33 : decode cX2_readTerm 33 = .ok (.bipush 47, 2) := de_10 tX2_readTerm_33 (by decide +kernel)
def tX2_readTerm_35 := Bt_2 (q := 35) tX2_readTerm_33 rfl
theorem dX2_readTerm_35 : decode cX2_readTerm 35 = .ok (.if_icmp .eq 4, 3) := de_9f tX2_readTerm_35 (by decide +kernel)
def tX2_readTerm_38 := Bt_3 (q := 38) tX2_readTerm_35 rfl
theorem dX2_readTerm_38 : decode cX2_readTerm 38 = .ok (.return_, 1) := de_b1 tX2_readTerm_38
def tX2_readTerm_39 := Bt_1 (q := 39) tX2_readTerm_38 rfl
theorem dX2_readTerm_39 : decode cX2_readTerm 39 = .ok (.aload_n 0, 1) := de_2a tX2_readTerm_39
def tX2_readTerm_40 := Bt_1 (q := 40) tX2_readTerm_39 rfl
theorem dX2_readTerm_40 : decode cX2_readTerm 40 = .ok (.dup, 1) := de_59 tX2_readTerm_40
def tX2_readTerm_41 := Bt_1 (q := 41) tX2_readTerm_40 rfl
theorem dX2_readTerm_41 : decode cX2_readTerm 41 = .ok (.getfield 36, 3) := de_b4 tX2_readTerm_41 (by decide +kernel)
def tX2_readTerm_44 := Bt_3 (q := 44) tX2_readTerm_41 rfl
theorem dX2_readTerm_44 : decode cX2_readTerm 44 = .ok (.iconst 1, 1) := de_04 tX2_readTerm_44
def tX2_readTerm_45 := Bt_1 (q := 45) tX2_readTerm_44 rfl
theorem dX2_readTerm_45 : decode cX2_readTerm 45 = .ok (.iadd, 1) := de_60 tX2_readTerm_45
def tX2_readTerm_46 := Bt_1 (q := 46) tX2_readTerm_45 rfl
theorem dX2_readTerm_46 : decode cX2_readTerm 46 = .ok (.putfield 36, 3) := de_b5 tX2_readTerm_46 (by decide +kernel)
def tX2_readTerm_49 := Bt_3 (q := 49) tX2_readTerm_46 rfl
theorem dX2_readTerm_49 : decode cX2_readTerm 49 = .ok (.aload_n 0, 1) := de_2a tX2_readTerm_49
def tX2_readTerm_50 := Bt_1 (q := 50) tX2_readTerm_49 rfl
theorem dX2_readTerm_50 : decode cX2_readTerm 50 = .ok (.iload_n 1, 1) := de_1b tX2_readTerm_50
def tX2_readTerm_51 := Bt_1 (q := 51) tX2_readTerm_50 rfl
theorem dX2_readTerm_51 : decode cX2_readTerm 51 = .ok (.invokevirtual 65, 3) := de_b6 tX2_readTerm_51 (by decide +kernel)
def tX2_readTerm_54 := Bt_3 (q := 54) tX2_readTerm_51 rfl
theorem dX2_readTerm_54 : decode cX2_readTerm 54 = .ok (.aload_n 0, 1) := de_2a tX2_readTerm_54
def tX2_readTerm_55 := Bt_1 (q := 55) tX2_readTerm_54 rfl
theorem dX2_readTerm_55 : decode cX2_readTerm 55 = .ok (.iload_n 3, 1) := de_1d tX2_readTerm_55
def tX2_readTerm_56 := Bt_1 (q := 56) tX2_readTerm_55 rfl
theorem dX2_readTerm_56 : decode cX2_readTerm 56 = .ok (.ineg, 1) := de_74 tX2_readTerm_56
def tX2_readTerm_57 := Bt_1 (q := 57) tX2_readTerm_56 rfl
theorem dX2_readTerm_57 : decode cX2_readTerm 57 = .ok (.invokevirtual 62, 3) := de_b6 tX2_readTerm_57 (by decide +kernel)
def tX2_readTerm_60 := Bt_3 (q := 60) tX2_readTerm_57 rfl
theorem dX2_readTerm_60 : decode cX2_readTerm 60 = .ok (.iinc 2 1, 3) := de_84 tX2_readTerm_60 (by decide +kernel) (by decide +kernel)
def tX2_readTerm_63 := Bt_3 (q := 63) tX2_readTerm_60 rfl
theorem dX2_readTerm_63 : decode cX2_readTerm 63 = .ok (.goto (-56), 3) := de_a7 tX2_readTerm_63 (by decide +kernel)
def tX2_readTerm_66 := Bt_3 (q := 66) tX2_readTerm_63 rfl
theorem dX2_readTerm_66 : decode cX2_readTerm 66 = .ok (.return_, 1) := de_b1 tX2_readTerm_66
def tX2_readUnit_0 := Bt_0 cX2_readUnit
theorem dX2_readUnit_0 : decode cX2_readUnit 0 = .ok (.aload_n 0, 1) := de_2a tX2_readUnit_0
def tX2_readUnit_1 := Bt_1 (q := 1) tX2_readUnit_0 rfl
theorem dX2_readUnit_1 : decode cX2_readUnit 1 = .ok (.invokevirtual 58, 3) := de_b6 tX2_readUnit_1 (by decide +kernel)
def tX2_readUnit_4 := Bt_3 (q := 4) tX2_readUnit_1 rfl
theorem dX2_readUnit_4 : decode cX2_readUnit 4 = .ok (.istore_n 2, 1) := de_3d tX2_readUnit_4
def tX2_readUnit_5 := Bt_1 (q := 5) tX2_readUnit_4 rfl
theorem dX2_readUnit_5 : decode cX2_readUnit 5 = .ok (.iload_n 2, 1) := de_1c tX2_readUnit_5
def tX2_readUnit_6 := Bt_1 (q := 6) tX2_readUnit_5 rfl
theorem dX2_readUnit_6 : decode cX2_readUnit 6 = .ok (.invokestatic 68, 3) := de_b8 tX2_readUnit_6 (by decide +kernel)
def tX2_readUnit_9 := Bt_3 (q := 9) tX2_readUnit_6 rfl
theorem dX2_readUnit_9 : decode cX2_readUnit 9 = .ok (.ifCond .eq 10, 3) := de_99 tX2_readUnit_9 (by decide +kernel)
def tX2_readUnit_12 := Bt_3 (q := 12) tX2_readUnit_9 rfl
theorem dX2_readUnit_12 : decode cX2_readUnit 12 = .ok (.aload_n 0, 1) := de_2a tX2_readUnit_12
def tX2_readUnit_13 := Bt_1 (q := 13) tX2_readUnit_12 rfl
theorem dX2_readUnit_13 : decode cX2_readUnit 13 = .ok (.invokevirtual 72, 3) := de_b6 tX2_readUnit_13 (by decide +kernel)
def tX2_readUnit_16 := Bt_3 (q := 16) tX2_readUnit_13 rfl
theorem dX2_readUnit_16 : decode cX2_readUnit 16 = .ok (.goto 95, 3) := de_a7 tX2_readUnit_16 (by decide +kernel)
def tX2_readUnit_19 := Bt_3 (q := 19) tX2_readUnit_16 rfl
theorem dX2_readUnit_19 : decode cX2_readUnit 19 = .ok (.iload_n 2, 1) := de_1c tX2_readUnit_19
def tX2_readUnit_20 := Bt_1 (q := 20) tX2_readUnit_19 rfl
theorem dX2_readUnit_20 : decode cX2_readUnit 20 = .ok (.invokestatic 75, 3) := de_b8 tX2_readUnit_20 (by decide +kernel)
def tX2_readUnit_23 := Bt_3 (q := 23) tX2_readUnit_20 rfl
theorem dX2_readUnit_23 : decode cX2_readUnit 23 = .ok (.ifCond .eq 32, 3) := de_99 tX2_readUnit_23 (by decide +kernel)
def tX2_readUnit_26 := Bt_3 (q := 26) tX2_readUnit_23 rfl
theorem dX2_readUnit_26 : decode cX2_readUnit 26 = .ok (.aload_n 0, 1) := de_2a tX2_readUnit_26
def tX2_readUnit_27 := Bt_1 (q := 27) tX2_readUnit_26 rfl
theorem dX2_readUnit_27 : decode cX2_readUnit 27 = .ok (.dup, 1) := de_59 tX2_readUnit_27
def tX2_readUnit_28 := Bt_1 (q := 28) tX2_readUnit_27 rfl
theorem dX2_readUnit_28 : decode cX2_readUnit 28 = .ok (.getfield 36, 3) := de_b4 tX2_readUnit_28 (by decide +kernel)
def tX2_readUnit_31 := Bt_3 (q := 31) tX2_readUnit_28 rfl
theorem dX2_readUnit_31 : decode cX2_readUnit 31 = .ok (.iconst 1, 1) := de_04 tX2_readUnit_31
def tX2_readUnit_32 := Bt_1 (q := 32) tX2_readUnit_31 rfl
theorem dX2_readUnit_32 : decode cX2_readUnit 32 = .ok (.iadd, 1) := de_60 tX2_readUnit_32
def tX2_readUnit_33 := Bt_1 (q := 33) tX2_readUnit_32 rfl
theorem dX2_readUnit_33 : decode cX2_readUnit 33 = .ok (.putfield 36, 3) := de_b5 tX2_readUnit_33 (by decide +kernel)
def tX2_readUnit_36 := Bt_3 (q := 36) tX2_readUnit_33 rfl
theorem dX2_readUnit_36 : decode cX2_readUnit 36 = .ok (.aload_n 0, 1) := de_2a tX2_readUnit_36
def tX2_readUnit_37 := Bt_1 (q := 37) tX2_readUnit_36 rfl
theorem dX2_readUnit_37 : decode cX2_readUnit 37 = .ok (.dup, 1) := de_59 tX2_readUnit_37
def tX2_readUnit_38 := Bt_1 (q := 38) tX2_readUnit_37 rfl
theorem dX2_readUnit_38 : decode cX2_readUnit 38 = .ok (.getfield 33, 3) := de_b4 tX2_readUnit_38 (by decide +kernel)
def tX2_readUnit_41 := Bt_3 (q := 41) tX2_readUnit_38 rfl
theorem dX2_readUnit_41 : decode cX2_readUnit 41 = .ok (.iconst 1, 1) := de_04 tX2_readUnit_41
def tX2_readUnit_42 := Bt_1 (q := 42) tX2_readUnit_41 rfl
theorem dX2_readUnit_42 : decode cX2_readUnit 42 = .ok (.iadd, 1) := de_60 tX2_readUnit_42
def tX2_readUnit_43 := Bt_1 (q := 43) tX2_readUnit_42 rfl
theorem dX2_readUnit_43 : decode cX2_readUnit 43 = .ok (.putfield 33, 3) := de_b5 tX2_readUnit_43 (by decide +kernel)
def tX2_readUnit_46 := Bt_3 (q := 46) tX2_readUnit_43 rfl
theorem dX2_readUnit_46 : decode cX2_readUnit 46 = .ok (.aload_n 0, 1) := de_2a tX2_readUnit_46
def tX2_readUnit_47 := Bt_1 (q := 47) tX2_readUnit_46 rfl
theorem dX2_readUnit_47 : decode cX2_readUnit 47 = .ok (.iload_n 2, 1) := de_1c tX2_readUnit_47
def tX2_readUnit_48 := Bt_1 (q := 48) tX2_readUnit_47 rfl
theorem dX2_readUnit_48 : decode cX2_readUnit 48 = .ok (.ineg, 1) := de_74 tX2_readUnit_48
def tX2_readUnit_49 := Bt_1 (q := 49) tX2_readUnit_48 rfl
theorem dX2_readUnit_49 : decode cX2_readUnit 49 = .ok (.invokevirtual 62, 3) := de_b6 tX2_readUnit_49 (by decide +kernel)
def tX2_readUnit_52 := Bt_3 (q := 52) tX2_readUnit_49 rfl
theorem dX2_readUnit_52 : decode cX2_readUnit 52 = .ok (.goto 59, 3) := de_a7 tX2_readUnit_52 (by decide +kernel)
def tX2_readUnit_55 := Bt_3 (q := 55) tX2_readUnit_52 rfl
theorem dX2_readUnit_55 : decode cX2_readUnit 55 = .ok (.iload_n 2, 1) := de_1c tX2_readUnit_55
def tX2_readUnit_56 := Bt_1 (q := 56) tX2_readUnit_55 rfl
theorem dX2_readUnit_56 : decode cX2_readUnit 56 = .ok (.bipush 40, 2) := de_10 tX2_readUnit_56 (by decide +kernel)
def tX2_readUnit_58 := Bt_2 (q := 58) tX2_readUnit_56 rfl
theorem dX2_readUnit_58 : decode cX2_readUnit 58 = .ok (.if_icmp .ne 12, 3) := de_a0 tX2_readUnit_58 (by decide +kernel)
def tX2_readUnit_61 := Bt_3 (q := 61) tX2_readUnit_58 rfl
theorem dX2_readUnit_61 : decode cX2_readUnit 61 = .ok (.aload_n 0, 1) := de_2a tX2_readUnit_61
def tX2_readUnit_62 := Bt_1 (q := 62) tX2_readUnit_61 rfl
theorem dX2_readUnit_62 : decode cX2_readUnit 62 = .ok (.iload_n 1, 1) := de_1b tX2_readUnit_62
def tX2_readUnit_63 := Bt_1 (q := 63) tX2_readUnit_62 rfl
theorem dX2_readUnit_63 : decode cX2_readUnit 63 = .ok (.iconst 0, 1) := de_03 tX2_readUnit_63
def tX2_readUnit_64 := Bt_1 (q := 64) tX2_readUnit_63 rfl
theorem dX2_readUnit_64 : decode cX2_readUnit 64 = .ok (.invokevirtual 78, 3) := de_b6 tX2_readUnit_64 (by decide +kernel)
def tX2_readUnit_67 := Bt_3 (q := 67) tX2_readUnit_64 rfl
theorem dX2_readUnit_67 : decode cX2_readUnit 67 = .ok (.goto 44, 3) := de_a7 tX2_readUnit_67 (by decide +kernel)
def tX2_readUnit_70 := Bt_3 (q := 70) tX2_readUnit_67 rfl
theorem dX2_readUnit_70 : decode cX2_readUnit 70 = .ok (.iload_n 2, 1) := de_1c tX2_readUnit_70
def tX2_readUnit_71 := Bt_1 (q := 71) tX2_readUnit_70 rfl
theorem dX2_readUnit_71 : decode cX2_readUnit 71 = .ok (.bipush 60, 2) := de_10 tX2_readUnit_71 (by decide +kernel)
def tX2_readUnit_73 := Bt_2 (q := 73) tX2_readUnit_71 rfl
theorem dX2_readUnit_73 : decode cX2_readUnit 73 = .ok (.if_icmp .eq 9, 3) := de_9f tX2_readUnit_73 (by decide +kernel)
def tX2_readUnit_76 := Bt_3 (q := 76) tX2_readUnit_73 rfl
theorem dX2_readUnit_76 : decode cX2_readUnit 76 = .ok (.iload_n 2, 1) := de_1c tX2_readUnit_76
def tX2_readUnit_77 := Bt_1 (q := 77) tX2_readUnit_76 rfl
theorem dX2_readUnit_77 : decode cX2_readUnit 77 = .ok (.bipush 62, 2) := de_10 tX2_readUnit_77 (by decide +kernel)
def tX2_readUnit_79 := Bt_2 (q := 79) tX2_readUnit_77 rfl
theorem dX2_readUnit_79 : decode cX2_readUnit 79 = .ok (.if_icmp .ne 28, 3) := de_a0 tX2_readUnit_79 (by decide +kernel)
def tX2_readUnit_82 := Bt_3 (q := 82) tX2_readUnit_79 rfl
theorem dX2_readUnit_82 : decode cX2_readUnit 82 = .ok (.aload_n 0, 1) := de_2a tX2_readUnit_82
def tX2_readUnit_83 := Bt_1 (q := 83) tX2_readUnit_82 rfl
theorem dX2_readUnit_83 : decode cX2_readUnit 83 = .ok (.dup, 1) := de_59 tX2_readUnit_83
def tX2_readUnit_84 := Bt_1 (q := 84) tX2_readUnit_83 rfl
theorem dX2_readUnit_84 : decode cX2_readUnit 84 = .ok (.getfield 36, 3) := de_b4 tX2_readUnit_84 (by decide +kernel)
def tX2_readUnit_87 := Bt_3 (q := 87) tX2_readUnit_84 rfl
theorem dX2_readUnit_87 : decode cX2_readUnit 87 = .ok (.iconst 1, 1) := de_04 tX2_readUnit_87
def tX2_readUnit_88 := Bt_1 (q := 88) tX2_readUnit_87 rfl
theorem dX2_readUnit_88 : decode cX2_readUnit 88 = .ok (.iadd, 1) := de_60 tX2_readUnit_88
def tX2_readUnit_89 := Bt_1 (q := 89) tX2_readUnit_88 rfl
theorem dX2_readUnit_89 : decode cX2_readUnit 89 = .ok (.putfield 36, 3) := de_b5 tX2_readUnit_89 (by decide +kernel)
def tX2_readUnit_92 := Bt_3 (q := 92) tX2_readUnit_89 rfl
theorem dX2_readUnit_92 : decode cX2_readUnit 92 = .ok (.aload_n 0, 1) := de_2a tX2_readUnit_92
def tX2_readUnit_93 := Bt_1 (q := 93) tX2_readUnit_92 rfl
theorem dX2_readUnit_93 : decode cX2_readUnit 93 = .ok (.iload_n 1, 1) := de_1b tX2_readUnit_93
def tX2_readUnit_94 := Bt_1 (q := 94) tX2_readUnit_93 rfl
theorem dX2_readUnit_94 : decode cX2_readUnit 94 = .ok (.iconst 1, 1) := de_04 tX2_readUnit_94
def tX2_readUnit_95 := Bt_1 (q := 95) tX2_readUnit_94 rfl
theorem dX2_readUnit_95 : decode cX2_readUnit 95 = .ok (.invokevirtual 78, 3) := de_b6 tX2_readUnit_95 (by decide +kernel)
def tX2_readUnit_98 := Bt_3 (q := 98) tX2_readUnit_95 rfl
theorem dX2_readUnit_98 : decode cX2_readUnit 98 = .ok (.aload_n 0, 1) := de_2a tX2_readUnit_98
def tX2_readUnit_99 := Bt_1 (q := 99) tX2_readUnit_98 rfl
theorem dX2_readUnit_99 : decode cX2_readUnit 99 = .ok (.iload_n 2, 1) := de_1c tX2_readUnit_99
def tX2_readUnit_100 := Bt_1 (q := 100) tX2_readUnit_99 rfl
theorem dX2_readUnit_100 : decode cX2_readUnit 100 = .ok (.ineg, 1) := de_74 tX2_readUnit_100
def tX2_readUnit_101 := Bt_1 (q := 101) tX2_readUnit_100 rfl
theorem dX2_readUnit_101 : decode cX2_readUnit 101 = .ok (.invokevirtual 62, 3) := de_b6 tX2_readUnit_101 (by decide +kernel)
def tX2_readUnit_104 := Bt_3 (q := 104) tX2_readUnit_101 rfl
theorem dX2_readUnit_104 : decode cX2_readUnit 104 = .ok (.goto 7, 3) := de_a7 tX2_readUnit_104 (by decide +kernel)
def tX2_readUnit_107 := Bt_3 (q := 107) tX2_readUnit_104 rfl
theorem dX2_readUnit_107 : decode cX2_readUnit 107 = .ok (.aload_n 0, 1) := de_2a tX2_readUnit_107
def tX2_readUnit_108 := Bt_1 (q := 108) tX2_readUnit_107 rfl
theorem dX2_readUnit_108 : decode cX2_readUnit 108 = .ok (.invokevirtual 46, 3) := de_b6 tX2_readUnit_108 (by decide +kernel)
def tX2_readUnit_111 := Bt_3 (q := 111) tX2_readUnit_108 rfl
theorem dX2_readUnit_111 : decode cX2_readUnit 111 = .ok (.return_, 1) := de_b1 tX2_readUnit_111
def tX2_readNumber_0 := Bt_0 cX2_readNumber
theorem dX2_readNumber_0 : decode cX2_readNumber 0 = .ok (.iconst 0, 1) := de_03 tX2_readNumber_0
def tX2_readNumber_1 := Bt_1 (q := 1) tX2_readNumber_0 rfl
theorem dX2_readNumber_1 : decode cX2_readNumber 1 = .ok (.istore_n 1, 1) := de_3c tX2_readNumber_1
def tX2_readNumber_2 := Bt_1 (q := 2) tX2_readNumber_1 rfl
theorem dX2_readNumber_2 : decode cX2_readNumber 2 = .ok (.iconst 0, 1) := de_03 tX2_readNumber_2
def tX2_readNumber_3 := Bt_1 (q := 3) tX2_readNumber_2 rfl
theorem dX2_readNumber_3 : decode cX2_readNumber 3 = .ok (.istore_n 2, 1) := de_3d tX2_readNumber_3
def tX2_readNumber_4 := Bt_1 (q := 4) tX2_readNumber_3 rfl
theorem dX2_readNumber_4 : decode cX2_readNumber 4 = .ok (.iload_n 2, 1) := de_1c tX2_readNumber_4
def tX2_readNumber_5 := Bt_1 (q := 5) tX2_readNumber_4 rfl
theorem dX2_readNumber_5 : decode cX2_readNumber 5 = .ok (.bipush 6, 2) := de_10 tX2_readNumber_5 (by decide +kernel)
def tX2_readNumber_7 := Bt_2 (q := 7) tX2_readNumber_5 rfl
theorem dX2_readNumber_7 : decode cX2_readNumber 7 = .ok (.if_icmp .ge 42, 3) := de_a2 tX2_readNumber_7 (by decide +kernel)
def tX2_readNumber_10 := Bt_3 (q := 10) tX2_readNumber_7 rfl
theorem dX2_readNumber_10 : decode cX2_readNumber 10 = .ok (.aload_n 0, 1) := de_2a tX2_readNumber_10
def tX2_readNumber_11 := Bt_1 (q := 11) tX2_readNumber_10 rfl
theorem dX2_readNumber_11 : decode cX2_readNumber 11 = .ok (.invokevirtual 58, 3) := de_b6 tX2_readNumber_11 (by decide +kernel)
def tX2_readNumber_14 := Bt_3 (q := 14) tX2_readNumber_11 rfl
theorem dX2_readNumber_14 : decode cX2_readNumber 14 = .ok (.invokestatic 68, 3) := de_b8 tX2_readNumber_14 (by decide +kernel)
def tX2_readNumber_17 := Bt_3 (q := 17) tX2_readNumber_14 rfl
theorem dX2_readNumber_17 : decode cX2_readNumber 17 = .ok (.ifCond .eq 32, 3) := de_99 tX2_readNumber_17 (by decide +kernel)
def tX2_readNumber_20 := Bt_3 (q := 20) tX2_readNumber_17 rfl
theorem dX2_readNumber_20 : decode cX2_readNumber 20 = .ok (.iload_n 1, 1) := de_1b tX2_readNumber_20
def tX2_readNumber_21 := Bt_1 (q := 21) tX2_readNumber_20 rfl
theorem dX2_readNumber_21 : decode cX2_readNumber 21 = .ok (.bipush 10, 2) := de_10 tX2_readNumber_21 (by decide +kernel)
def tX2_readNumber_23 := Bt_2 (q := 23) tX2_readNumber_21 rfl
theorem dX2_readNumber_23 : decode cX2_readNumber 23 = .ok (.imul, 1) := de_68 tX2_readNumber_23
def tX2_readNumber_24 := Bt_1 (q := 24) tX2_readNumber_23 rfl
theorem dX2_readNumber_24 : decode cX2_readNumber 24 = .ok (.aload_n 0, 1) := de_2a tX2_readNumber_24
def tX2_readNumber_25 := Bt_1 (q := 25) tX2_readNumber_24 rfl
theorem dX2_readNumber_25 : decode cX2_readNumber 25 = .ok (.invokevirtual 58, 3) := de_b6 tX2_readNumber_25 (by decide +kernel)
def tX2_readNumber_28 := Bt_3 (q := 28) tX2_readNumber_25 rfl
theorem dX2_readNumber_28 : decode cX2_readNumber 28 = .ok (.iadd, 1) := de_60 tX2_readNumber_28
def tX2_readNumber_29 := Bt_1 (q := 29) tX2_readNumber_28 rfl
theorem dX2_readNumber_29 : decode cX2_readNumber 29 = .ok (.bipush 48, 2) := de_10 tX2_readNumber_29 (by decide +kernel)
def tX2_readNumber_31 := Bt_2 (q := 31) tX2_readNumber_29 rfl
theorem dX2_readNumber_31 : decode cX2_readNumber 31 = .ok (.isub, 1) := de_64 tX2_readNumber_31
def tX2_readNumber_32 := Bt_1 (q := 32) tX2_readNumber_31 rfl
theorem dX2_readNumber_32 : decode cX2_readNumber 32 = .ok (.istore_n 1, 1) := de_3c tX2_readNumber_32
def tX2_readNumber_33 := Bt_1 (q := 33) tX2_readNumber_32 rfl
theorem dX2_readNumber_33 : decode cX2_readNumber 33 = .ok (.aload_n 0, 1) := de_2a tX2_readNumber_33
def tX2_readNumber_34 := Bt_1 (q := 34) tX2_readNumber_33 rfl
theorem dX2_readNumber_34 : decode cX2_readNumber 34 = .ok (.dup, 1) := de_59 tX2_readNumber_34
def tX2_readNumber_35 := Bt_1 (q := 35) tX2_readNumber_34 rfl
theorem dX2_readNumber_35 : decode cX2_readNumber 35 = .ok (.getfield 36, 3) := de_b4 tX2_readNumber_35 (by decide +kernel)
def tX2_readNumber_38 := Bt_3 (q := 38) tX2_readNumber_35 rfl
theorem dX2_readNumber_38 : decode cX2_readNumber 38 = .ok (.iconst 1, 1) := de_04 tX2_readNumber_38
def tX2_readNumber_39 := Bt_1 (q := 39) tX2_readNumber_38 rfl
theorem dX2_readNumber_39 : decode cX2_readNumber 39 = .ok (.iadd, 1) := de_60 tX2_readNumber_39
def tX2_readNumber_40 := Bt_1 (q := 40) tX2_readNumber_39 rfl
theorem dX2_readNumber_40 : decode cX2_readNumber 40 = .ok (.putfield 36, 3) := de_b5 tX2_readNumber_40 (by decide +kernel)
def tX2_readNumber_43 := Bt_3 (q := 43) tX2_readNumber_40 rfl
theorem dX2_readNumber_43 : decode cX2_readNumber 43 = .ok (.iinc 2 1, 3) := de_84 tX2_readNumber_43 (by decide +kernel) (by decide +kernel)
def tX2_readNumber_46 := Bt_3 (q := 46) tX2_readNumber_43 rfl
theorem dX2_readNumber_46 : decode cX2_readNumber 46 = .ok (.goto (-42), 3) := de_a7 tX2_readNumber_46 (by decide +kernel)
def tX2_readNumber_49 := Bt_3 (q := 49) tX2_readNumber_46 rfl
theorem dX2_readNumber_49 : decode cX2_readNumber 49 = .ok (.aload_n 0, 1) := de_2a tX2_readNumber_49
def tX2_readNumber_50 := Bt_1 (q := 50) tX2_readNumber_49 rfl
theorem dX2_readNumber_50 : decode cX2_readNumber 50 = .ok (.dup, 1) := de_59 tX2_readNumber_50
def tX2_readNumber_51 := Bt_1 (q := 51) tX2_readNumber_50 rfl
theorem dX2_readNumber_51 : decode cX2_readNumber 51 = .ok (.getfield 33, 3) := de_b4 tX2_readNumber_51 (by decide +kernel)
def tX2_readNumber_54 := Bt_3 (q := 54) tX2_readNumber_51 rfl
theorem dX2_readNumber_54 : decode cX2_readNumber 54 = .ok (.iconst 1, 1) := de_04 tX2_readNumber_54
def tX2_readNumber_55 := Bt_1 (q := 55) tX2_readNumber_54 rfl
theorem dX2_readNumber_55 : decode cX2_readNumber 55 = .ok (.iadd, 1) := de_60 tX2_readNumber_55
def tX2_readNumber_56 := Bt_1 (q := 56) tX2_readNumber_55 rfl
theorem dX2_readNumber_56 : decode cX2_readNumber 56 = .ok (.putfield 33, 3) := de_b5 tX2_readNumber_56 (by decide +kernel)
def tX2_readNumber_59 := Bt_3 (q := 59) tX2_readNumber_56 rfl
theorem dX2_readNumber_59 : decode cX2_readNumber 59 = .ok (.aload_n 0, 1) := de_2a tX2_readNumber_59
def tX2_readNumber_60 := Bt_1 (q := 60) tX2_readNumber_59 rfl
theorem dX2_readNumber_60 : decode cX2_readNumber 60 = .ok (.iload_n 1, 1) := de_1b tX2_readNumber_60
def tX2_readNumber_61 := Bt_1 (q := 61) tX2_readNumber_60 rfl
theorem dX2_readNumber_61 : decode cX2_readNumber 61 = .ok (.invokevirtual 62, 3) := de_b6 tX2_readNumber_61 (by decide +kernel)
def tX2_readNumber_64 := Bt_3 (q := 64) tX2_readNumber_61 rfl
theorem dX2_readNumber_64 : decode cX2_readNumber 64 = .ok (.return_, 1) := de_b1 tX2_readNumber_64
def tX2_readBracket_0 := Bt_0 cX2_readBracket
theorem dX2_readBracket_0 : decode cX2_readBracket 0 = .ok (.aload_n 0, 1) := de_2a tX2_readBracket_0
def tX2_readBracket_1 := Bt_1 (q := 1) tX2_readBracket_0 rfl
theorem dX2_readBracket_1 : decode cX2_readBracket 1 = .ok (.invokevirtual 58, 3) := de_b6 tX2_readBracket_1 (by decide +kernel)
def tX2_readBracket_4 := Bt_3 (q := 4) tX2_readBracket_1 rfl
theorem dX2_readBracket_4 : decode cX2_readBracket 4 = .ok (.bipush 40, 2) := de_10 tX2_readBracket_4 (by decide +kernel)
def tX2_readBracket_6 := Bt_2 (q := 6) tX2_readBracket_4 rfl
theorem dX2_readBracket_6 : decode cX2_readBracket 6 = .ok (.if_icmp .ne 9, 3) := de_a0 tX2_readBracket_6 (by decide +kernel)
def tX2_readBracket_9 := Bt_3 (q := 9) tX2_readBracket_6 rfl
theorem dX2_readBracket_9 : decode cX2_readBracket 9 = .ok (.iload_n 1, 1) := de_1b tX2_readBracket_9
def tX2_readBracket_10 := Bt_1 (q := 10) tX2_readBracket_9 rfl
theorem dX2_readBracket_10 : decode cX2_readBracket 10 = .ok (.bipush 6, 2) := de_10 tX2_readBracket_10 (by decide +kernel)
def tX2_readBracket_12 := Bt_2 (q := 12) tX2_readBracket_10 rfl
theorem dX2_readBracket_12 : decode cX2_readBracket 12 = .ok (.if_icmp .lt 8, 3) := de_a1 tX2_readBracket_12 (by decide +kernel)
def tX2_readBracket_15 := Bt_3 (q := 15) tX2_readBracket_12 rfl
theorem dX2_readBracket_15 : decode cX2_readBracket 15 = .ok (.aload_n 0, 1) := de_2a tX2_readBracket_15
def tX2_readBracket_16 := Bt_1 (q := 16) tX2_readBracket_15 rfl
theorem dX2_readBracket_16 : decode cX2_readBracket 16 = .ok (.invokevirtual 46, 3) := de_b6 tX2_readBracket_16 (by decide +kernel)
def tX2_readBracket_19 := Bt_3 (q := 19) tX2_readBracket_16 rfl
theorem dX2_readBracket_19 : decode cX2_readBracket 19 = .ok (.return_, 1) := de_b1 tX2_readBracket_19
def tX2_readBracket_20 := Bt_1 (q := 20) tX2_readBracket_19 rfl
theorem dX2_readBracket_20 : decode cX2_readBracket 20 = .ok (.aload_n 0, 1) := de_2a tX2_readBracket_20
def tX2_readBracket_21 := Bt_1 (q := 21) tX2_readBracket_20 rfl
theorem dX2_readBracket_21 : decode cX2_readBracket 21 = .ok (.dup, 1) := de_59 tX2_readBracket_21
def tX2_readBracket_22 := Bt_1 (q := 22) tX2_readBracket_21 rfl
theorem dX2_readBracket_22 : decode cX2_readBracket 22 = .ok (.getfield 36, 3) := de_b4 tX2_readBracket_22 (by decide +kernel)
def tX2_readBracket_25 := Bt_3 (q := 25) tX2_readBracket_22 rfl
theorem dX2_readBracket_25 : decode cX2_readBracket 25 = .ok (.iconst 1, 1) := de_04 tX2_readBracket_25
def tX2_readBracket_26 := Bt_1 (q := 26) tX2_readBracket_25 rfl
theorem dX2_readBracket_26 : decode cX2_readBracket 26 = .ok (.iadd, 1) := de_60 tX2_readBracket_26
def tX2_readBracket_27 := Bt_1 (q := 27) tX2_readBracket_26 rfl
theorem dX2_readBracket_27 : decode cX2_readBracket 27 = .ok (.putfield 36, 3) := de_b5 tX2_readBracket_27 (by decide +kernel)
def tX2_readBracket_30 := Bt_3 (q := 30) tX2_readBracket_27 rfl
theorem dX2_readBracket_30 : decode cX2_readBracket 30 = .ok (.aload_n 0, 1) := de_2a tX2_readBracket_30
def tX2_readBracket_31 := Bt_1 (q := 31) tX2_readBracket_30 rfl
theorem dX2_readBracket_31 : decode cX2_readBracket 31 = .ok (.iload_n 1, 1) := de_1b tX2_readBracket_31
def tX2_readBracket_32 := Bt_1 (q := 32) tX2_readBracket_31 rfl
theorem dX2_readBracket_32 : decode cX2_readBracket 32 = .ok (.iconst 1, 1) := de_04 tX2_readBracket_32
def tX2_readBracket_33 := Bt_1 (q := 33) tX2_readBracket_32 rfl
theorem dX2_readBracket_33 : decode cX2_readBracket 33 = .ok (.iadd, 1) := de_60 tX2_readBracket_33
def tX2_readBracket_34 := Bt_1 (q := 34) tX2_readBracket_33 rfl
theorem dX2_readBracket_34 : decode cX2_readBracket 34 = .ok (.invokevirtual 42, 3) := de_b6 tX2_readBracket_34 (by decide +kernel)
def tX2_readBracket_37 := Bt_3 (q := 37) tX2_readBracket_34 rfl
theorem dX2_readBracket_37 : decode cX2_readBracket 37 = .ok (.iload_n 2, 1) := de_1c tX2_readBracket_37
def tX2_readBracket_38 := Bt_1 (q := 38) tX2_readBracket_37 rfl
theorem dX2_readBracket_38 : decode cX2_readBracket 38 = .ok (.ifCond .eq 24, 3) := de_99 tX2_readBracket_38 (by decide +kernel)
def tX2_readBracket_41 := Bt_3 (q := 41) tX2_readBracket_38 rfl
theorem dX2_readBracket_41 : decode cX2_readBracket 41 = .ok (.aload_n 0, 1) := de_2a tX2_readBracket_41
def tX2_readBracket_42 := Bt_1 (q := 42) tX2_readBracket_41 rfl
theorem dX2_readBracket_42 : decode cX2_readBracket 42 = .ok (.bipush 44, 2) := de_10 tX2_readBracket_42 (by decide +kernel)
def tX2_readBracket_44 := Bt_2 (q := 44) tX2_readBracket_42 rfl
theorem dX2_readBracket_44 : decode cX2_readBracket 44 = .ok (.invokevirtual 82, 3) := de_b6 tX2_readBracket_44 (by decide +kernel)
def tX2_readBracket_47 := Bt_3 (q := 47) tX2_readBracket_44 rfl
theorem dX2_readBracket_47 : decode cX2_readBracket 47 = .ok (.aload_n 0, 1) := de_2a tX2_readBracket_47
def tX2_readBracket_48 := Bt_1 (q := 48) tX2_readBracket_47 rfl
theorem dX2_readBracket_48 : decode cX2_readBracket 48 = .ok (.getfield 39, 3) := de_b4 tX2_readBracket_48 (by decide +kernel)
def tX2_readBracket_51 := Bt_3 (q := 51) tX2_readBracket_48 rfl
theorem dX2_readBracket_51 : decode cX2_readBracket 51 = .ok (.iconst (-1), 1) := de_02 tX2_readBracket_51
def tX2_readBracket_52 := Bt_1 (q := 52) tX2_readBracket_51 rfl
theorem dX2_readBracket_52 : decode cX2_readBracket 52 = .ok (.if_icmp .ne 10, 3) := de_a0 tX2_readBracket_52 (by decide +kernel)
def tX2_readBracket_55 := Bt_3 (q := 55) tX2_readBracket_52 rfl
theorem dX2_readBracket_55 : decode cX2_readBracket 55 = .ok (.aload_n 0, 1) := de_2a tX2_readBracket_55
def tX2_readBracket_56 := Bt_1 (q := 56) tX2_readBracket_55 rfl
theorem dX2_readBracket_56 : decode cX2_readBracket 56 = .ok (.iload_n 1, 1) := de_1b tX2_readBracket_56
def tX2_readBracket_57 := Bt_1 (q := 57) tX2_readBracket_56 rfl
theorem dX2_readBracket_57 : decode cX2_readBracket 57 = .ok (.iconst 1, 1) := de_04 tX2_readBracket_57
def tX2_readBracket_58 := Bt_1 (q := 58) tX2_readBracket_57 rfl
theorem dX2_readBracket_58 : decode cX2_readBracket 58 = .ok (.iadd, 1) := de_60 tX2_readBracket_58
def tX2_readBracket_59 := Bt_1 (q := 59) tX2_readBracket_58 rfl
theorem dX2_readBracket_59 : decode cX2_readBracket 59 = .ok (.invokevirtual 42, 3) := de_b6 tX2_readBracket_59 (by decide +kernel)
def tX2_readBracket_62 := Bt_3 (q := 62) tX2_readBracket_59 rfl
theorem dX2_readBracket_62 : decode cX2_readBracket 62 = .ok (.aload_n 0, 1) := de_2a tX2_readBracket_62
def tX2_readBracket_63 := Bt_1 (q := 63) tX2_readBracket_62 rfl
theorem dX2_readBracket_63 : decode cX2_readBracket 63 = .ok (.bipush 41, 2) := de_10 tX2_readBracket_63 (by decide +kernel)
def tX2_readBracket_65 := Bt_2 (q := 65) tX2_readBracket_63 rfl
theorem dX2_readBracket_65 : decode cX2_readBracket 65 = .ok (.invokevirtual 82, 3) := de_b6 tX2_readBracket_65 (by decide +kernel)
def tX2_readBracket_68 := Bt_3 (q := 68) tX2_readBracket_65 rfl
theorem dX2_readBracket_68 : decode cX2_readBracket 68 = .ok (.return_, 1) := de_b1 tX2_readBracket_68
def tX2_expect_0 := Bt_0 cX2_expect
theorem dX2_expect_0 : decode cX2_expect 0 = .ok (.aload_n 0, 1) := de_2a tX2_expect_0
def tX2_expect_1 := Bt_1 (q := 1) tX2_expect_0 rfl
theorem dX2_expect_1 : decode cX2_expect 1 = .ok (.getfield 39, 3) := de_b4 tX2_expect_1 (by decide +kernel)
def tX2_expect_4 := Bt_3 (q := 4) tX2_expect_1 rfl
theorem dX2_expect_4 : decode cX2_expect 4 = .ok (.iconst (-1), 1) := de_02 tX2_expect_4
def tX2_expect_5 := Bt_1 (q := 5) tX2_expect_4 rfl
theorem dX2_expect_5 : decode cX2_expect 5 = .ok (.if_icmp .eq 4, 3) := de_9f tX2_expect_5 (by decide +kernel)
def tX2_expect_8 := Bt_3 (q := 8) tX2_expect_5 rfl
theorem dX2_expect_8 : decode cX2_expect 8 = .ok (.return_, 1) := de_b1 tX2_expect_8
def tX2_expect_9 := Bt_1 (q := 9) tX2_expect_8 rfl
theorem dX2_expect_9 : decode cX2_expect 9 = .ok (.aload_n 0, 1) := de_2a tX2_expect_9
def tX2_expect_10 := Bt_1 (q := 10) tX2_expect_9 rfl
theorem dX2_expect_10 : decode cX2_expect 10 = .ok (.invokevirtual 58, 3) := de_b6 tX2_expect_10 (by decide +kernel)
def tX2_expect_13 := Bt_3 (q := 13) tX2_expect_10 rfl
theorem dX2_expect_13 : decode cX2_expect 13 = .ok (.iload_n 1, 1) := de_1b tX2_expect_13
def tX2_expect_14 := Bt_1 (q := 14) tX2_expect_13 rfl
theorem dX2_expect_14 : decode cX2_expect 14 = .ok (.if_icmp .ne 16, 3) := de_a0 tX2_expect_14 (by decide +kernel)
def tX2_expect_17 := Bt_3 (q := 17) tX2_expect_14 rfl
theorem dX2_expect_17 : decode cX2_expect 17 = .ok (.aload_n 0, 1) := de_2a tX2_expect_17
def tX2_expect_18 := Bt_1 (q := 18) tX2_expect_17 rfl
theorem dX2_expect_18 : decode cX2_expect 18 = .ok (.dup, 1) := de_59 tX2_expect_18
def tX2_expect_19 := Bt_1 (q := 19) tX2_expect_18 rfl
theorem dX2_expect_19 : decode cX2_expect 19 = .ok (.getfield 36, 3) := de_b4 tX2_expect_19 (by decide +kernel)
def tX2_expect_22 := Bt_3 (q := 22) tX2_expect_19 rfl
theorem dX2_expect_22 : decode cX2_expect 22 = .ok (.iconst 1, 1) := de_04 tX2_expect_22
def tX2_expect_23 := Bt_1 (q := 23) tX2_expect_22 rfl
theorem dX2_expect_23 : decode cX2_expect 23 = .ok (.iadd, 1) := de_60 tX2_expect_23
def tX2_expect_24 := Bt_1 (q := 24) tX2_expect_23 rfl
theorem dX2_expect_24 : decode cX2_expect 24 = .ok (.putfield 36, 3) := de_b5 tX2_expect_24 (by decide +kernel)
def tX2_expect_27 := Bt_3 (q := 27) tX2_expect_24 rfl
theorem dX2_expect_27 : decode cX2_expect 27 = .ok (.goto 7, 3) := de_a7 tX2_expect_27 (by decide +kernel)
def tX2_expect_30 := Bt_3 (q := 30) tX2_expect_27 rfl
theorem dX2_expect_30 : decode cX2_expect 30 = .ok (.aload_n 0, 1) := de_2a tX2_expect_30
def tX2_expect_31 := Bt_1 (q := 31) tX2_expect_30 rfl
theorem dX2_expect_31 : decode cX2_expect 31 = .ok (.invokevirtual 46, 3) := de_b6 tX2_expect_31 (by decide +kernel)
def tX2_expect_34 := Bt_3 (q := 34) tX2_expect_31 rfl
theorem dX2_expect_34 : decode cX2_expect 34 = .ok (.return_, 1) := de_b1 tX2_expect_34
def tX2_isDigit_0 := Bt_0 cX2_isDigit
theorem dX2_isDigit_0 : decode cX2_isDigit 0 = .ok (.iload_n 0, 1) := de_1a tX2_isDigit_0
def tX2_isDigit_1 := Bt_1 (q := 1) tX2_isDigit_0 rfl
theorem dX2_isDigit_1 : decode cX2_isDigit 1 = .ok (.bipush 48, 2) := de_10 tX2_isDigit_1 (by decide +kernel)
def tX2_isDigit_3 := Bt_2 (q := 3) tX2_isDigit_1 rfl
theorem dX2_isDigit_3 : decode cX2_isDigit 3 = .ok (.if_icmp .lt 13, 3) := de_a1 tX2_isDigit_3 (by decide +kernel)
def tX2_isDigit_6 := Bt_3 (q := 6) tX2_isDigit_3 rfl
theorem dX2_isDigit_6 : decode cX2_isDigit 6 = .ok (.iload_n 0, 1) := de_1a tX2_isDigit_6
def tX2_isDigit_7 := Bt_1 (q := 7) tX2_isDigit_6 rfl
theorem dX2_isDigit_7 : decode cX2_isDigit 7 = .ok (.bipush 57, 2) := de_10 tX2_isDigit_7 (by decide +kernel)
def tX2_isDigit_9 := Bt_2 (q := 9) tX2_isDigit_7 rfl
theorem dX2_isDigit_9 : decode cX2_isDigit 9 = .ok (.if_icmp .gt 7, 3) := de_a3 tX2_isDigit_9 (by decide +kernel)
def tX2_isDigit_12 := Bt_3 (q := 12) tX2_isDigit_9 rfl
theorem dX2_isDigit_12 : decode cX2_isDigit 12 = .ok (.iconst 1, 1) := de_04 tX2_isDigit_12
def tX2_isDigit_13 := Bt_1 (q := 13) tX2_isDigit_12 rfl
theorem dX2_isDigit_13 : decode cX2_isDigit 13 = .ok (.goto 4, 3) := de_a7 tX2_isDigit_13 (by decide +kernel)
def tX2_isDigit_16 := Bt_3 (q := 16) tX2_isDigit_13 rfl
theorem dX2_isDigit_16 : decode cX2_isDigit 16 = .ok (.iconst 0, 1) := de_03 tX2_isDigit_16
def tX2_isDigit_17 := Bt_1 (q := 17) tX2_isDigit_16 rfl
theorem dX2_isDigit_17 : decode cX2_isDigit 17 = .ok (.ireturn, 1) := de_ac tX2_isDigit_17
def tX2_isName_0 := Bt_0 cX2_isName
theorem dX2_isName_0 : decode cX2_isName 0 = .ok (.iload_n 0, 1) := de_1a tX2_isName_0
def tX2_isName_1 := Bt_1 (q := 1) tX2_isName_0 rfl
theorem dX2_isName_1 : decode cX2_isName 1 = .ok (.tableswitch 85 97 113 #[83, 83, 85, 85, 85, 85, 85, 83, 85, 85, 83, 83, 85, 85, 85, 83, 83], 83) := by decide +kernel
def tX2_isName_84 := Bt_n (q := 84) 83 tX2_isName_1 rfl rfl
theorem dX2_isName_84 : decode cX2_isName 84 = .ok (.iconst 1, 1) := de_04 tX2_isName_84
def tX2_isName_85 := Bt_1 (q := 85) tX2_isName_84 rfl
theorem dX2_isName_85 : decode cX2_isName 85 = .ok (.ireturn, 1) := de_ac tX2_isName_85
def tX2_isName_86 := Bt_1 (q := 86) tX2_isName_85 rfl
theorem dX2_isName_86 : decode cX2_isName 86 = .ok (.iconst 0, 1) := de_03 tX2_isName_86
def tX2_isName_87 := Bt_1 (q := 87) tX2_isName_86 rfl
theorem dX2_isName_87 : decode cX2_isName 87 = .ok (.ireturn, 1) := de_ac tX2_isName_87
def tX3_init_0 := Bt_0 cX3_init
theorem dX3_init_0 : decode cX3_init 0 = .ok (.aload_n 0, 1) := de_2a tX3_init_0
def tX3_init_1 := Bt_1 (q := 1) tX3_init_0 rfl
theorem dX3_init_1 : decode cX3_init 1 = .ok (.invokespecial 1, 3) := de_b7 tX3_init_1 (by decide +kernel)
def tX3_init_4 := Bt_3 (q := 4) tX3_init_1 rfl
theorem dX3_init_4 : decode cX3_init 4 = .ok (.aload_n 0, 1) := de_2a tX3_init_4
def tX3_init_5 := Bt_1 (q := 5) tX3_init_4 rfl
theorem dX3_init_5 : decode cX3_init 5 = .ok (.lconst 1, 1) := de_0a tX3_init_5
def tX3_init_6 := Bt_1 (q := 6) tX3_init_5 rfl
theorem dX3_init_6 : decode cX3_init 6 = .ok (.putfield 7, 3) := de_b5 tX3_init_6 (by decide +kernel)
def tX3_init_9 := Bt_3 (q := 9) tX3_init_6 rfl
theorem dX3_init_9 : decode cX3_init 9 = .ok (.return_, 1) := de_b1 tX3_init_9
def tX3_put_0 := Bt_0 cX3_put
theorem dX3_put_0 : decode cX3_put 0 = .ok (.aload_n 0, 1) := de_2a tX3_put_0
def tX3_put_1 := Bt_1 (q := 1) tX3_put_0 rfl
theorem dX3_put_1 : decode cX3_put 1 = .ok (.iconst 1, 1) := de_04 tX3_put_1
def tX3_put_2 := Bt_1 (q := 2) tX3_put_1 rfl
theorem dX3_put_2 : decode cX3_put 2 = .ok (.putfield 13, 3) := de_b5 tX3_put_2 (by decide +kernel)
def tX3_put_5 := Bt_3 (q := 5) tX3_put_2 rfl
theorem dX3_put_5 : decode cX3_put 5 = .ok (.aload_n 0, 1) := de_2a tX3_put_5
def tX3_put_6 := Bt_1 (q := 6) tX3_put_5 rfl
theorem dX3_put_6 : decode cX3_put 6 = .ok (.lconst 0, 1) := de_09 tX3_put_6
def tX3_put_7 := Bt_1 (q := 7) tX3_put_6 rfl
theorem dX3_put_7 : decode cX3_put 7 = .ok (.putfield 17, 3) := de_b5 tX3_put_7 (by decide +kernel)
def tX3_put_10 := Bt_3 (q := 10) tX3_put_7 rfl
theorem dX3_put_10 : decode cX3_put 10 = .ok (.aload_n 0, 1) := de_2a tX3_put_10
def tX3_put_11 := Bt_1 (q := 11) tX3_put_10 rfl
theorem dX3_put_11 : decode cX3_put 11 = .ok (.lconst 1, 1) := de_0a tX3_put_11
def tX3_put_12 := Bt_1 (q := 12) tX3_put_11 rfl
theorem dX3_put_12 : decode cX3_put 12 = .ok (.putfield 7, 3) := de_b5 tX3_put_12 (by decide +kernel)
def tX3_put_15 := Bt_3 (q := 15) tX3_put_12 rfl
theorem dX3_put_15 : decode cX3_put 15 = .ok (.lload_n 1, 1) := de_1f tX3_put_15
def tX3_put_16 := Bt_1 (q := 16) tX3_put_15 rfl
theorem dX3_put_16 : decode cX3_put 16 = .ok (.invokestatic 20, 3) := de_b8 tX3_put_16 (by decide +kernel)
def tX3_put_19 := Bt_3 (q := 19) tX3_put_16 rfl
theorem dX3_put_19 : decode cX3_put 19 = .ok (.lload_n 3, 1) := de_21 tX3_put_19
def tX3_put_20 := Bt_1 (q := 20) tX3_put_19 rfl
theorem dX3_put_20 : decode cX3_put 20 = .ok (.invokestatic 20, 3) := de_b8 tX3_put_20 (by decide +kernel)
def tX3_put_23 := Bt_3 (q := 23) tX3_put_20 rfl
theorem dX3_put_23 : decode cX3_put 23 = .ok (.invokestatic 26, 3) := de_b8 tX3_put_23 (by decide +kernel)
def tX3_put_26 := Bt_3 (q := 26) tX3_put_23 rfl
theorem dX3_put_26 : decode cX3_put 26 = .ok (.lstore 5, 2) := de_37 tX3_put_26 (by decide +kernel)
def tX3_put_28 := Bt_2 (q := 28) tX3_put_26 rfl
theorem dX3_put_28 : decode cX3_put 28 = .ok (.lload_n 3, 1) := de_21 tX3_put_28
def tX3_put_29 := Bt_1 (q := 29) tX3_put_28 rfl
theorem dX3_put_29 : decode cX3_put 29 = .ok (.lconst 0, 1) := de_09 tX3_put_29
def tX3_put_30 := Bt_1 (q := 30) tX3_put_29 rfl
theorem dX3_put_30 : decode cX3_put 30 = .ok (.lcmp, 1) := de_94 tX3_put_30
def tX3_put_31 := Bt_1 (q := 31) tX3_put_30 rfl
theorem dX3_put_31 : decode cX3_put 31 = .ok (.ifCond .eq 10, 3) := de_99 tX3_put_31 (by decide +kernel)
def tX3_put_34 := Bt_3 (q := 34) tX3_put_31 rfl
theorem dX3_put_34 : decode cX3_put 34 = .ok (.lload 5, 2) := de_16 tX3_put_34 (by decide +kernel)
def tX3_put_36 := Bt_2 (q := 36) tX3_put_34 rfl
theorem dX3_put_36 : decode cX3_put 36 = .ok (.lconst 0, 1) := de_09 tX3_put_36
def tX3_put_37 := Bt_1 (q := 37) tX3_put_36 rfl
theorem dX3_put_37 : decode cX3_put 37 = .ok (.lcmp, 1) := de_94 tX3_put_37
def tX3_put_38 := Bt_1 (q := 38) tX3_put_37 rfl
theorem dX3_put_38 : decode cX3_put 38 = .ok (.ifCond .ne 4, 3) := de_9a tX3_put_38 (by decide +kernel)
def tX3_put_41 := Bt_3 (q := 41) tX3_put_38 rfl
theorem dX3_put_41 : decode cX3_put 41 = .ok (.return_, 1) := de_b1 tX3_put_41
def tX3_put_42 := Bt_1 (q := 42) tX3_put_41 rfl
theorem dX3_put_42 : decode cX3_put 42 = .ok (.lload_n 3, 1) := de_21 tX3_put_42
def tX3_put_43 := Bt_1 (q := 43) tX3_put_42 rfl
theorem dX3_put_43 : decode cX3_put 43 = .ok (.lconst 0, 1) := de_09 tX3_put_43
def tX3_put_44 := Bt_1 (q := 44) tX3_put_43 rfl
theorem dX3_put_44 : decode cX3_put 44 = .ok (.lcmp, 1) := de_94 tX3_put_44
def tX3_put_45 := Bt_1 (q := 45) tX3_put_44 rfl
theorem dX3_put_45 : decode cX3_put 45 = .ok (.ifCond .ge 9, 3) := de_9c tX3_put_45 (by decide +kernel)
def tX3_put_48 := Bt_3 (q := 48) tX3_put_45 rfl
theorem dX3_put_48 : decode cX3_put 48 = .ok (.ldc2_w 30, 3) := de_14 tX3_put_48 (by decide +kernel)
def tX3_put_51 := Bt_3 (q := 51) tX3_put_48 rfl
theorem dX3_put_51 : decode cX3_put 51 = .ok (.goto 4, 3) := de_a7 tX3_put_51 (by decide +kernel)
def tX3_put_54 := Bt_3 (q := 54) tX3_put_51 rfl
theorem dX3_put_54 : decode cX3_put 54 = .ok (.lconst 1, 1) := de_0a tX3_put_54
def tX3_put_55 := Bt_1 (q := 55) tX3_put_54 rfl
theorem dX3_put_55 : decode cX3_put 55 = .ok (.lstore 7, 2) := de_37 tX3_put_55 (by decide +kernel)
def tX3_put_57 := Bt_2 (q := 57) tX3_put_55 rfl
theorem dX3_put_57 : decode cX3_put 57 = .ok (.lload 7, 2) := de_16 tX3_put_57 (by decide +kernel)
def tX3_put_59 := Bt_2 (q := 59) tX3_put_57 rfl
theorem dX3_put_59 : decode cX3_put 59 = .ok (.lload_n 1, 1) := de_1f tX3_put_59
def tX3_put_60 := Bt_1 (q := 60) tX3_put_59 rfl
theorem dX3_put_60 : decode cX3_put 60 = .ok (.lmul, 1) := de_69 tX3_put_60
def tX3_put_61 := Bt_1 (q := 61) tX3_put_60 rfl
theorem dX3_put_61 : decode cX3_put 61 = .ok (.lload 5, 2) := de_16 tX3_put_61 (by decide +kernel)
def tX3_put_63 := Bt_2 (q := 63) tX3_put_61 rfl
theorem dX3_put_63 : decode cX3_put 63 = .ok (.ldiv, 1) := de_6d tX3_put_63
def tX3_put_64 := Bt_1 (q := 64) tX3_put_63 rfl
theorem dX3_put_64 : decode cX3_put 64 = .ok (.lstore 9, 2) := de_37 tX3_put_64 (by decide +kernel)
def tX3_put_66 := Bt_2 (q := 66) tX3_put_64 rfl
theorem dX3_put_66 : decode cX3_put 66 = .ok (.lload 7, 2) := de_16 tX3_put_66 (by decide +kernel)
def tX3_put_68 := Bt_2 (q := 68) tX3_put_66 rfl
theorem dX3_put_68 : decode cX3_put 68 = .ok (.lload_n 3, 1) := de_21 tX3_put_68
def tX3_put_69 := Bt_1 (q := 69) tX3_put_68 rfl
theorem dX3_put_69 : decode cX3_put 69 = .ok (.lmul, 1) := de_69 tX3_put_69
def tX3_put_70 := Bt_1 (q := 70) tX3_put_69 rfl
theorem dX3_put_70 : decode cX3_put 70 = .ok (.lload 5, 2) := de_16 tX3_put_70 (by decide +kernel)
def tX3_put_72 := Bt_2 (q := 72) tX3_put_70 rfl
theorem dX3_put_72 : decode cX3_put 72 = .ok (.ldiv, 1) := de_6d tX3_put_72
def tX3_put_73 := Bt_1 (q := 73) tX3_put_72 rfl
theorem dX3_put_73 : decode cX3_put 73 = .ok (.lstore 11, 2) := de_37 tX3_put_73 (by decide +kernel)
def tX3_put_75 := Bt_2 (q := 75) tX3_put_73 rfl
theorem dX3_put_75 : decode cX3_put 75 = .ok (.lload 9, 2) := de_16 tX3_put_75 (by decide +kernel)
def tX3_put_77 := Bt_2 (q := 77) tX3_put_75 rfl
theorem dX3_put_77 : decode cX3_put 77 = .ok (.invokestatic 20, 3) := de_b8 tX3_put_77 (by decide +kernel)
def tX3_put_80 := Bt_3 (q := 80) tX3_put_77 rfl
theorem dX3_put_80 : decode cX3_put 80 = .ok (.ldc2_w 32, 3) := de_14 tX3_put_80 (by decide +kernel)
def tX3_put_83 := Bt_3 (q := 83) tX3_put_80 rfl
theorem dX3_put_83 : decode cX3_put 83 = .ok (.lcmp, 1) := de_94 tX3_put_83
def tX3_put_84 := Bt_1 (q := 84) tX3_put_83 rfl
theorem dX3_put_84 : decode cX3_put 84 = .ok (.ifCond .gt 29, 3) := de_9d tX3_put_84 (by decide +kernel)
def tX3_put_87 := Bt_3 (q := 87) tX3_put_84 rfl
theorem dX3_put_87 : decode cX3_put 87 = .ok (.lload 11, 2) := de_16 tX3_put_87 (by decide +kernel)
def tX3_put_89 := Bt_2 (q := 89) tX3_put_87 rfl
theorem dX3_put_89 : decode cX3_put 89 = .ok (.ldc2_w 32, 3) := de_14 tX3_put_89 (by decide +kernel)
def tX3_put_92 := Bt_3 (q := 92) tX3_put_89 rfl
theorem dX3_put_92 : decode cX3_put 92 = .ok (.lcmp, 1) := de_94 tX3_put_92
def tX3_put_93 := Bt_1 (q := 93) tX3_put_92 rfl
theorem dX3_put_93 : decode cX3_put 93 = .ok (.ifCond .gt 20, 3) := de_9d tX3_put_93 (by decide +kernel)
def tX3_put_96 := Bt_3 (q := 96) tX3_put_93 rfl
theorem dX3_put_96 : decode cX3_put 96 = .ok (.aload_n 0, 1) := de_2a tX3_put_96
def tX3_put_97 := Bt_1 (q := 97) tX3_put_96 rfl
theorem dX3_put_97 : decode cX3_put 97 = .ok (.iconst 0, 1) := de_03 tX3_put_97
def tX3_put_98 := Bt_1 (q := 98) tX3_put_97 rfl
theorem dX3_put_98 : decode cX3_put 98 = .ok (.putfield 13, 3) := de_b5 tX3_put_98 (by decide +kernel)
def tX3_put_101 := Bt_3 (q := 101) tX3_put_98 rfl
theorem dX3_put_101 : decode cX3_put 101 = .ok (.aload_n 0, 1) := de_2a tX3_put_101
def tX3_put_102 := Bt_1 (q := 102) tX3_put_101 rfl
theorem dX3_put_102 : decode cX3_put 102 = .ok (.lload 9, 2) := de_16 tX3_put_102 (by decide +kernel)
def tX3_put_104 := Bt_2 (q := 104) tX3_put_102 rfl
theorem dX3_put_104 : decode cX3_put 104 = .ok (.putfield 17, 3) := de_b5 tX3_put_104 (by decide +kernel)
def tX3_put_107 := Bt_3 (q := 107) tX3_put_104 rfl
theorem dX3_put_107 : decode cX3_put 107 = .ok (.aload_n 0, 1) := de_2a tX3_put_107
def tX3_put_108 := Bt_1 (q := 108) tX3_put_107 rfl
theorem dX3_put_108 : decode cX3_put 108 = .ok (.lload 11, 2) := de_16 tX3_put_108 (by decide +kernel)
def tX3_put_110 := Bt_2 (q := 110) tX3_put_108 rfl
theorem dX3_put_110 : decode cX3_put 110 = .ok (.putfield 7, 3) := de_b5 tX3_put_110 (by decide +kernel)
def tX3_put_113 := Bt_3 (q := 113) tX3_put_110 rfl
theorem dX3_put_113 : decode cX3_put 113 = .ok (.return_, 1) := de_b1 tX3_put_113
def tX3_commonPart_0 := Bt_0 cX3_commonPart
theorem dX3_commonPart_0 : decode cX3_commonPart 0 = .ok (.iconst 0, 1) := de_03 tX3_commonPart_0
def tX3_commonPart_1 := Bt_1 (q := 1) tX3_commonPart_0 rfl
theorem dX3_commonPart_1 : decode cX3_commonPart 1 = .ok (.istore 4, 2) := de_36 tX3_commonPart_1 (by decide +kernel)
def tX3_commonPart_3 := Bt_2 (q := 3) tX3_commonPart_1 rfl
theorem dX3_commonPart_3 : decode cX3_commonPart 3 = .ok (.iload 4, 2) := de_15 tX3_commonPart_3 (by decide +kernel)
def tX3_commonPart_5 := Bt_2 (q := 5) tX3_commonPart_3 rfl
theorem dX3_commonPart_5 : decode cX3_commonPart 5 = .ok (.sipush 200, 3) := de_11 tX3_commonPart_5 (by decide +kernel)
def tX3_commonPart_8 := Bt_3 (q := 8) tX3_commonPart_5 rfl
theorem dX3_commonPart_8 : decode cX3_commonPart 8 = .ok (.if_icmp .ge 25, 3) := de_a2 tX3_commonPart_8 (by decide +kernel)
def tX3_commonPart_11 := Bt_3 (q := 11) tX3_commonPart_8 rfl
theorem dX3_commonPart_11 : decode cX3_commonPart 11 = .ok (.lload_n 2, 1) := de_20 tX3_commonPart_11
def tX3_commonPart_12 := Bt_1 (q := 12) tX3_commonPart_11 rfl
theorem dX3_commonPart_12 : decode cX3_commonPart 12 = .ok (.lconst 0, 1) := de_09 tX3_commonPart_12
def tX3_commonPart_13 := Bt_1 (q := 13) tX3_commonPart_12 rfl
theorem dX3_commonPart_13 : decode cX3_commonPart 13 = .ok (.lcmp, 1) := de_94 tX3_commonPart_13
def tX3_commonPart_14 := Bt_1 (q := 14) tX3_commonPart_13 rfl
theorem dX3_commonPart_14 : decode cX3_commonPart 14 = .ok (.ifCond .eq 19, 3) := de_99 tX3_commonPart_14 (by decide +kernel)
def tX3_commonPart_17 := Bt_3 (q := 17) tX3_commonPart_14 rfl
theorem dX3_commonPart_17 : decode cX3_commonPart 17 = .ok (.lload_n 0, 1) := de_1e tX3_commonPart_17
def tX3_commonPart_18 := Bt_1 (q := 18) tX3_commonPart_17 rfl
theorem dX3_commonPart_18 : decode cX3_commonPart 18 = .ok (.lload_n 2, 1) := de_20 tX3_commonPart_18
def tX3_commonPart_19 := Bt_1 (q := 19) tX3_commonPart_18 rfl
theorem dX3_commonPart_19 : decode cX3_commonPart 19 = .ok (.lrem, 1) := de_71 tX3_commonPart_19
def tX3_commonPart_20 := Bt_1 (q := 20) tX3_commonPart_19 rfl
theorem dX3_commonPart_20 : decode cX3_commonPart 20 = .ok (.lstore 5, 2) := de_37 tX3_commonPart_20 (by decide +kernel)
def tX3_commonPart_22 := Bt_2 (q := 22) tX3_commonPart_20 rfl
theorem dX3_commonPart_22 : decode cX3_commonPart 22 = .ok (.lload_n 2, 1) := de_20 tX3_commonPart_22
def tX3_commonPart_23 := Bt_1 (q := 23) tX3_commonPart_22 rfl
theorem dX3_commonPart_23 : decode cX3_commonPart 23 = .ok (.lstore_n 0, 1) := de_3f tX3_commonPart_23
def tX3_commonPart_24 := Bt_1 (q := 24) tX3_commonPart_23 rfl
theorem dX3_commonPart_24 : decode cX3_commonPart 24 = .ok (.lload 5, 2) := de_16 tX3_commonPart_24 (by decide +kernel)
def tX3_commonPart_26 := Bt_2 (q := 26) tX3_commonPart_24 rfl
theorem dX3_commonPart_26 : decode cX3_commonPart 26 = .ok (.lstore_n 2, 1) := de_41 tX3_commonPart_26
def tX3_commonPart_27 := Bt_1 (q := 27) tX3_commonPart_26 rfl
theorem dX3_commonPart_27 : decode cX3_commonPart 27 = .ok (.iinc 4 1, 3) := de_84 tX3_commonPart_27 (by decide +kernel) (by decide +kernel)
def tX3_commonPart_30 := Bt_3 (q := 30) tX3_commonPart_27 rfl
theorem dX3_commonPart_30 : decode cX3_commonPart 30 = .ok (.goto (-27), 3) := de_a7 tX3_commonPart_30 (by decide +kernel)
def tX3_commonPart_33 := Bt_3 (q := 33) tX3_commonPart_30 rfl
theorem dX3_commonPart_33 : decode cX3_commonPart 33 = .ok (.lload_n 0, 1) := de_1e tX3_commonPart_33
def tX3_commonPart_34 := Bt_1 (q := 34) tX3_commonPart_33 rfl
theorem dX3_commonPart_34 : decode cX3_commonPart 34 = .ok (.lreturn, 1) := de_ad tX3_commonPart_34
def tX4_init_0 := Bt_0 cX4_init
theorem dX4_init_0 : decode cX4_init 0 = .ok (.aload_n 0, 1) := de_2a tX4_init_0
def tX4_init_1 := Bt_1 (q := 1) tX4_init_0 rfl
theorem dX4_init_1 : decode cX4_init 1 = .ok (.invokespecial 3, 3) := de_b7 tX4_init_1 (by decide +kernel)
def tX4_init_4 := Bt_3 (q := 4) tX4_init_1 rfl
theorem dX4_init_4 : decode cX4_init 4 = .ok (.aload_n 0, 1) := de_2a tX4_init_4
def tX4_init_5 := Bt_1 (q := 5) tX4_init_4 rfl
theorem dX4_init_5 : decode cX4_init 5 = .ok (.bipush 8, 2) := de_10 tX4_init_5 (by decide +kernel)
def tX4_init_7 := Bt_2 (q := 7) tX4_init_5 rfl
theorem dX4_init_7 : decode cX4_init 7 = .ok (.newarray .int, 2) := de_bc_0a tX4_init_7
def tX4_init_9 := Bt_2 (q := 9) tX4_init_7 rfl
theorem dX4_init_9 : decode cX4_init 9 = .ok (.putfield 9, 3) := de_b5 tX4_init_9 (by decide +kernel)
def tX4_init_12 := Bt_3 (q := 12) tX4_init_9 rfl
theorem dX4_init_12 : decode cX4_init 12 = .ok (.aload_n 0, 1) := de_2a tX4_init_12
def tX4_init_13 := Bt_1 (q := 13) tX4_init_12 rfl
theorem dX4_init_13 : decode cX4_init 13 = .ok (.iconst (-1), 1) := de_02 tX4_init_13
def tX4_init_14 := Bt_1 (q := 14) tX4_init_13 rfl
theorem dX4_init_14 : decode cX4_init 14 = .ok (.putfield 15, 3) := de_b5 tX4_init_14 (by decide +kernel)
def tX4_init_17 := Bt_3 (q := 17) tX4_init_14 rfl
theorem dX4_init_17 : decode cX4_init 17 = .ok (.aload_n 0, 1) := de_2a tX4_init_17
def tX4_init_18 := Bt_1 (q := 18) tX4_init_17 rfl
theorem dX4_init_18 : decode cX4_init 18 = .ok (.bipush 8, 2) := de_10 tX4_init_18 (by decide +kernel)
def tX4_init_20 := Bt_2 (q := 20) tX4_init_18 rfl
theorem dX4_init_20 : decode cX4_init 20 = .ok (.newarray .int, 2) := de_bc_0a tX4_init_20
def tX4_init_22 := Bt_2 (q := 22) tX4_init_20 rfl
theorem dX4_init_22 : decode cX4_init 22 = .ok (.putfield 19, 3) := de_b5 tX4_init_22 (by decide +kernel)
def tX4_init_25 := Bt_3 (q := 25) tX4_init_22 rfl
theorem dX4_init_25 : decode cX4_init 25 = .ok (.aload_n 0, 1) := de_2a tX4_init_25
def tX4_init_26 := Bt_1 (q := 26) tX4_init_25 rfl
theorem dX4_init_26 : decode cX4_init 26 = .ok (.iconst (-1), 1) := de_02 tX4_init_26
def tX4_init_27 := Bt_1 (q := 27) tX4_init_26 rfl
theorem dX4_init_27 : decode cX4_init 27 = .ok (.putfield 22, 3) := de_b5 tX4_init_27 (by decide +kernel)
def tX4_init_30 := Bt_3 (q := 30) tX4_init_27 rfl
theorem dX4_init_30 : decode cX4_init 30 = .ok (.aload_n 0, 1) := de_2a tX4_init_30
def tX4_init_31 := Bt_1 (q := 31) tX4_init_30 rfl
theorem dX4_init_31 : decode cX4_init 31 = .ok (.iconst (-1), 1) := de_02 tX4_init_31
def tX4_init_32 := Bt_1 (q := 32) tX4_init_31 rfl
theorem dX4_init_32 : decode cX4_init 32 = .ok (.putfield 25, 3) := de_b5 tX4_init_32 (by decide +kernel)
def tX4_init_35 := Bt_3 (q := 35) tX4_init_32 rfl
theorem dX4_init_35 : decode cX4_init 35 = .ok (.return_, 1) := de_b1 tX4_init_35
def tX4_placeOf_0 := Bt_0 cX4_placeOf
theorem dX4_placeOf_0 : decode cX4_placeOf 0 = .ok (.iconst 0, 1) := de_03 tX4_placeOf_0
def tX4_placeOf_1 := Bt_1 (q := 1) tX4_placeOf_0 rfl
theorem dX4_placeOf_1 : decode cX4_placeOf 1 = .ok (.istore_n 2, 1) := de_3d tX4_placeOf_1
def tX4_placeOf_2 := Bt_1 (q := 2) tX4_placeOf_1 rfl
theorem dX4_placeOf_2 : decode cX4_placeOf 2 = .ok (.iload_n 2, 1) := de_1c tX4_placeOf_2
def tX4_placeOf_3 := Bt_1 (q := 3) tX4_placeOf_2 rfl
theorem dX4_placeOf_3 : decode cX4_placeOf 3 = .ok (.aload_n 0, 1) := de_2a tX4_placeOf_3
def tX4_placeOf_4 := Bt_1 (q := 4) tX4_placeOf_3 rfl
theorem dX4_placeOf_4 : decode cX4_placeOf 4 = .ok (.getfield 28, 3) := de_b4 tX4_placeOf_4 (by decide +kernel)
def tX4_placeOf_7 := Bt_3 (q := 7) tX4_placeOf_4 rfl
theorem dX4_placeOf_7 : decode cX4_placeOf 7 = .ok (.if_icmp .ge 27, 3) := de_a2 tX4_placeOf_7 (by decide +kernel)
def tX4_placeOf_10 := Bt_3 (q := 10) tX4_placeOf_7 rfl
theorem dX4_placeOf_10 : decode cX4_placeOf 10 = .ok (.iload_n 2, 1) := de_1c tX4_placeOf_10
def tX4_placeOf_11 := Bt_1 (q := 11) tX4_placeOf_10 rfl
theorem dX4_placeOf_11 : decode cX4_placeOf 11 = .ok (.bipush 8, 2) := de_10 tX4_placeOf_11 (by decide +kernel)
def tX4_placeOf_13 := Bt_2 (q := 13) tX4_placeOf_11 rfl
theorem dX4_placeOf_13 : decode cX4_placeOf 13 = .ok (.if_icmp .ge 21, 3) := de_a2 tX4_placeOf_13 (by decide +kernel)
def tX4_placeOf_16 := Bt_3 (q := 16) tX4_placeOf_13 rfl
theorem dX4_placeOf_16 : decode cX4_placeOf 16 = .ok (.aload_n 0, 1) := de_2a tX4_placeOf_16
def tX4_placeOf_17 := Bt_1 (q := 17) tX4_placeOf_16 rfl
theorem dX4_placeOf_17 : decode cX4_placeOf 17 = .ok (.getfield 19, 3) := de_b4 tX4_placeOf_17 (by decide +kernel)
def tX4_placeOf_20 := Bt_3 (q := 20) tX4_placeOf_17 rfl
theorem dX4_placeOf_20 : decode cX4_placeOf 20 = .ok (.iload_n 2, 1) := de_1c tX4_placeOf_20
def tX4_placeOf_21 := Bt_1 (q := 21) tX4_placeOf_20 rfl
theorem dX4_placeOf_21 : decode cX4_placeOf 21 = .ok (.iaload, 1) := de_2e tX4_placeOf_21
def tX4_placeOf_22 := Bt_1 (q := 22) tX4_placeOf_21 rfl
theorem dX4_placeOf_22 : decode cX4_placeOf 22 = .ok (.iload_n 1, 1) := de_1b tX4_placeOf_22
def tX4_placeOf_23 := Bt_1 (q := 23) tX4_placeOf_22 rfl
theorem dX4_placeOf_23 : decode cX4_placeOf 23 = .ok (.if_icmp .ne 5, 3) := de_a0 tX4_placeOf_23 (by decide +kernel)
def tX4_placeOf_26 := Bt_3 (q := 26) tX4_placeOf_23 rfl
theorem dX4_placeOf_26 : decode cX4_placeOf 26 = .ok (.iload_n 2, 1) := de_1c tX4_placeOf_26
def tX4_placeOf_27 := Bt_1 (q := 27) tX4_placeOf_26 rfl
theorem dX4_placeOf_27 : decode cX4_placeOf 27 = .ok (.ireturn, 1) := de_ac tX4_placeOf_27
def tX4_placeOf_28 := Bt_1 (q := 28) tX4_placeOf_27 rfl
theorem dX4_placeOf_28 : decode cX4_placeOf 28 = .ok (.iinc 2 1, 3) := de_84 tX4_placeOf_28 (by decide +kernel) (by decide +kernel)
def tX4_placeOf_31 := Bt_3 (q := 31) tX4_placeOf_28 rfl
theorem dX4_placeOf_31 : decode cX4_placeOf 31 = .ok (.goto (-29), 3) := de_a7 tX4_placeOf_31 (by decide +kernel)
def tX4_placeOf_34 := Bt_3 (q := 34) tX4_placeOf_31 rfl
theorem dX4_placeOf_34 : decode cX4_placeOf 34 = .ok (.iconst (-1), 1) := de_02 tX4_placeOf_34
def tX4_placeOf_35 := Bt_1 (q := 35) tX4_placeOf_34 rfl
theorem dX4_placeOf_35 : decode cX4_placeOf 35 = .ok (.ireturn, 1) := de_ac tX4_placeOf_35
def tX4_add_0 := Bt_0 cX4_add
theorem dX4_add_0 : decode cX4_add 0 = .ok (.aload_n 0, 1) := de_2a tX4_add_0
def tX4_add_1 := Bt_1 (q := 1) tX4_add_0 rfl
theorem dX4_add_1 : decode cX4_add 1 = .ok (.getfield 28, 3) := de_b4 tX4_add_1 (by decide +kernel)
def tX4_add_4 := Bt_3 (q := 4) tX4_add_1 rfl
theorem dX4_add_4 : decode cX4_add 4 = .ok (.bipush 8, 2) := de_10 tX4_add_4 (by decide +kernel)
def tX4_add_6 := Bt_2 (q := 6) tX4_add_4 rfl
theorem dX4_add_6 : decode cX4_add 6 = .ok (.if_icmp .ge 33, 3) := de_a2 tX4_add_6 (by decide +kernel)
def tX4_add_9 := Bt_3 (q := 9) tX4_add_6 rfl
theorem dX4_add_9 : decode cX4_add 9 = .ok (.aload_n 0, 1) := de_2a tX4_add_9
def tX4_add_10 := Bt_1 (q := 10) tX4_add_9 rfl
theorem dX4_add_10 : decode cX4_add 10 = .ok (.getfield 19, 3) := de_b4 tX4_add_10 (by decide +kernel)
def tX4_add_13 := Bt_3 (q := 13) tX4_add_10 rfl
theorem dX4_add_13 : decode cX4_add 13 = .ok (.aload_n 0, 1) := de_2a tX4_add_13
def tX4_add_14 := Bt_1 (q := 14) tX4_add_13 rfl
theorem dX4_add_14 : decode cX4_add 14 = .ok (.getfield 28, 3) := de_b4 tX4_add_14 (by decide +kernel)
def tX4_add_17 := Bt_3 (q := 17) tX4_add_14 rfl
theorem dX4_add_17 : decode cX4_add 17 = .ok (.iload_n 1, 1) := de_1b tX4_add_17
def tX4_add_18 := Bt_1 (q := 18) tX4_add_17 rfl
theorem dX4_add_18 : decode cX4_add 18 = .ok (.iastore, 1) := de_4f tX4_add_18
def tX4_add_19 := Bt_1 (q := 19) tX4_add_18 rfl
theorem dX4_add_19 : decode cX4_add 19 = .ok (.aload_n 0, 1) := de_2a tX4_add_19
def tX4_add_20 := Bt_1 (q := 20) tX4_add_19 rfl
theorem dX4_add_20 : decode cX4_add 20 = .ok (.getfield 9, 3) := de_b4 tX4_add_20 (by decide +kernel)
def tX4_add_23 := Bt_3 (q := 23) tX4_add_20 rfl
theorem dX4_add_23 : decode cX4_add 23 = .ok (.aload_n 0, 1) := de_2a tX4_add_23
def tX4_add_24 := Bt_1 (q := 24) tX4_add_23 rfl
theorem dX4_add_24 : decode cX4_add 24 = .ok (.getfield 28, 3) := de_b4 tX4_add_24 (by decide +kernel)
def tX4_add_27 := Bt_3 (q := 27) tX4_add_24 rfl
theorem dX4_add_27 : decode cX4_add 27 = .ok (.iload_n 2, 1) := de_1c tX4_add_27
def tX4_add_28 := Bt_1 (q := 28) tX4_add_27 rfl
theorem dX4_add_28 : decode cX4_add 28 = .ok (.iastore, 1) := de_4f tX4_add_28
def tX4_add_29 := Bt_1 (q := 29) tX4_add_28 rfl
theorem dX4_add_29 : decode cX4_add 29 = .ok (.aload_n 0, 1) := de_2a tX4_add_29
def tX4_add_30 := Bt_1 (q := 30) tX4_add_29 rfl
theorem dX4_add_30 : decode cX4_add 30 = .ok (.dup, 1) := de_59 tX4_add_30
def tX4_add_31 := Bt_1 (q := 31) tX4_add_30 rfl
theorem dX4_add_31 : decode cX4_add 31 = .ok (.getfield 28, 3) := de_b4 tX4_add_31 (by decide +kernel)
def tX4_add_34 := Bt_3 (q := 34) tX4_add_31 rfl
theorem dX4_add_34 : decode cX4_add 34 = .ok (.iconst 1, 1) := de_04 tX4_add_34
def tX4_add_35 := Bt_1 (q := 35) tX4_add_34 rfl
theorem dX4_add_35 : decode cX4_add 35 = .ok (.iadd, 1) := de_60 tX4_add_35
def tX4_add_36 := Bt_1 (q := 36) tX4_add_35 rfl
theorem dX4_add_36 : decode cX4_add 36 = .ok (.putfield 28, 3) := de_b5 tX4_add_36 (by decide +kernel)
def tX4_add_39 := Bt_3 (q := 39) tX4_add_36 rfl
theorem dX4_add_39 : decode cX4_add 39 = .ok (.aload_n 0, 1) := de_2a tX4_add_39
def tX4_add_40 := Bt_1 (q := 40) tX4_add_39 rfl
theorem dX4_add_40 : decode cX4_add 40 = .ok (.getfield 28, 3) := de_b4 tX4_add_40 (by decide +kernel)
def tX4_add_43 := Bt_3 (q := 43) tX4_add_40 rfl
theorem dX4_add_43 : decode cX4_add 43 = .ok (.ireturn, 1) := de_ac tX4_add_43
def tX4_beginCall_0 := Bt_0 cX4_beginCall
theorem dX4_beginCall_0 : decode cX4_beginCall 0 = .ok (.aload_n 0, 1) := de_2a tX4_beginCall_0
def tX4_beginCall_1 := Bt_1 (q := 1) tX4_beginCall_0 rfl
theorem dX4_beginCall_1 : decode cX4_beginCall 1 = .ok (.iload_n 1, 1) := de_1b tX4_beginCall_1
def tX4_beginCall_2 := Bt_1 (q := 2) tX4_beginCall_1 rfl
theorem dX4_beginCall_2 : decode cX4_beginCall 2 = .ok (.putfield 31, 3) := de_b5 tX4_beginCall_2 (by decide +kernel)
def tX4_beginCall_5 := Bt_3 (q := 5) tX4_beginCall_2 rfl
theorem dX4_beginCall_5 : decode cX4_beginCall 5 = .ok (.aload_n 0, 1) := de_2a tX4_beginCall_5
def tX4_beginCall_6 := Bt_1 (q := 6) tX4_beginCall_5 rfl
theorem dX4_beginCall_6 : decode cX4_beginCall 6 = .ok (.aload_n 0, 1) := de_2a tX4_beginCall_6
def tX4_beginCall_7 := Bt_1 (q := 7) tX4_beginCall_6 rfl
theorem dX4_beginCall_7 : decode cX4_beginCall 7 = .ok (.getfield 22, 3) := de_b4 tX4_beginCall_7 (by decide +kernel)
def tX4_beginCall_10 := Bt_3 (q := 10) tX4_beginCall_7 rfl
theorem dX4_beginCall_10 : decode cX4_beginCall 10 = .ok (.iconst (-1), 1) := de_02 tX4_beginCall_10
def tX4_beginCall_11 := Bt_1 (q := 11) tX4_beginCall_10 rfl
theorem dX4_beginCall_11 : decode cX4_beginCall 11 = .ok (.invokevirtual 34, 3) := de_b6 tX4_beginCall_11 (by decide +kernel)
def tX4_beginCall_14 := Bt_3 (q := 14) tX4_beginCall_11 rfl
theorem dX4_beginCall_14 : decode cX4_beginCall 14 = .ok (.istore_n 2, 1) := de_3d tX4_beginCall_14
def tX4_beginCall_15 := Bt_1 (q := 15) tX4_beginCall_14 rfl
theorem dX4_beginCall_15 : decode cX4_beginCall 15 = .ok (.aload_n 0, 1) := de_2a tX4_beginCall_15
def tX4_beginCall_16 := Bt_1 (q := 16) tX4_beginCall_15 rfl
theorem dX4_beginCall_16 : decode cX4_beginCall 16 = .ok (.iload_n 2, 1) := de_1c tX4_beginCall_16
def tX4_beginCall_17 := Bt_1 (q := 17) tX4_beginCall_16 rfl
theorem dX4_beginCall_17 : decode cX4_beginCall 17 = .ok (.putfield 25, 3) := de_b5 tX4_beginCall_17 (by decide +kernel)
def tX4_beginCall_20 := Bt_3 (q := 20) tX4_beginCall_17 rfl
theorem dX4_beginCall_20 : decode cX4_beginCall 20 = .ok (.aload_n 0, 1) := de_2a tX4_beginCall_20
def tX4_beginCall_21 := Bt_1 (q := 21) tX4_beginCall_20 rfl
theorem dX4_beginCall_21 : decode cX4_beginCall 21 = .ok (.iload_n 2, 1) := de_1c tX4_beginCall_21
def tX4_beginCall_22 := Bt_1 (q := 22) tX4_beginCall_21 rfl
theorem dX4_beginCall_22 : decode cX4_beginCall 22 = .ok (.invokevirtual 38, 3) := de_b6 tX4_beginCall_22 (by decide +kernel)
def tX4_beginCall_25 := Bt_3 (q := 25) tX4_beginCall_22 rfl
theorem dX4_beginCall_25 : decode cX4_beginCall 25 = .ok (.ireturn, 1) := de_ac tX4_beginCall_25
def tX4_passOn_0 := Bt_0 cX4_passOn
theorem dX4_passOn_0 : decode cX4_passOn 0 = .ok (.aload_n 0, 1) := de_2a tX4_passOn_0
def tX4_passOn_1 := Bt_1 (q := 1) tX4_passOn_0 rfl
theorem dX4_passOn_1 : decode cX4_passOn 1 = .ok (.getfield 9, 3) := de_b4 tX4_passOn_1 (by decide +kernel)
def tX4_passOn_4 := Bt_3 (q := 4) tX4_passOn_1 rfl
theorem dX4_passOn_4 : decode cX4_passOn 4 = .ok (.aload_n 0, 1) := de_2a tX4_passOn_4
def tX4_passOn_5 := Bt_1 (q := 5) tX4_passOn_4 rfl
theorem dX4_passOn_5 : decode cX4_passOn 5 = .ok (.getfield 15, 3) := de_b4 tX4_passOn_5 (by decide +kernel)
def tX4_passOn_8 := Bt_3 (q := 8) tX4_passOn_5 rfl
theorem dX4_passOn_8 : decode cX4_passOn 8 = .ok (.dup2, 1) := de_5c tX4_passOn_8
def tX4_passOn_9 := Bt_1 (q := 9) tX4_passOn_8 rfl
theorem dX4_passOn_9 : decode cX4_passOn 9 = .ok (.iaload, 1) := de_2e tX4_passOn_9
def tX4_passOn_10 := Bt_1 (q := 10) tX4_passOn_9 rfl
theorem dX4_passOn_10 : decode cX4_passOn 10 = .ok (.aload_n 0, 1) := de_2a tX4_passOn_10
def tX4_passOn_11 := Bt_1 (q := 11) tX4_passOn_10 rfl
theorem dX4_passOn_11 : decode cX4_passOn 11 = .ok (.getfield 31, 3) := de_b4 tX4_passOn_11 (by decide +kernel)
def tX4_passOn_14 := Bt_3 (q := 14) tX4_passOn_11 rfl
theorem dX4_passOn_14 : decode cX4_passOn 14 = .ok (.iadd, 1) := de_60 tX4_passOn_14
def tX4_passOn_15 := Bt_1 (q := 15) tX4_passOn_14 rfl
theorem dX4_passOn_15 : decode cX4_passOn 15 = .ok (.iastore, 1) := de_4f tX4_passOn_15
def tX4_passOn_16 := Bt_1 (q := 16) tX4_passOn_15 rfl
theorem dX4_passOn_16 : decode cX4_passOn 16 = .ok (.aload_n 0, 1) := de_2a tX4_passOn_16
def tX4_passOn_17 := Bt_1 (q := 17) tX4_passOn_16 rfl
theorem dX4_passOn_17 : decode cX4_passOn 17 = .ok (.aload_n 0, 1) := de_2a tX4_passOn_17
def tX4_passOn_18 := Bt_1 (q := 18) tX4_passOn_17 rfl
theorem dX4_passOn_18 : decode cX4_passOn 18 = .ok (.aload_n 0, 1) := de_2a tX4_passOn_18
def tX4_passOn_19 := Bt_1 (q := 19) tX4_passOn_18 rfl
theorem dX4_passOn_19 : decode cX4_passOn 19 = .ok (.getfield 15, 3) := de_b4 tX4_passOn_19 (by decide +kernel)
def tX4_passOn_22 := Bt_3 (q := 22) tX4_passOn_19 rfl
theorem dX4_passOn_22 : decode cX4_passOn 22 = .ok (.aload_n 0, 1) := de_2a tX4_passOn_22
def tX4_passOn_23 := Bt_1 (q := 23) tX4_passOn_22 rfl
theorem dX4_passOn_23 : decode cX4_passOn 23 = .ok (.getfield 25, 3) := de_b4 tX4_passOn_23 (by decide +kernel)
def tX4_passOn_26 := Bt_3 (q := 26) tX4_passOn_23 rfl
theorem dX4_passOn_26 : decode cX4_passOn 26 = .ok (.invokevirtual 34, 3) := de_b6 tX4_passOn_26 (by decide +kernel)
def tX4_passOn_29 := Bt_3 (q := 29) tX4_passOn_26 rfl
theorem dX4_passOn_29 : decode cX4_passOn 29 = .ok (.invokevirtual 38, 3) := de_b6 tX4_passOn_29 (by decide +kernel)
def tX4_passOn_32 := Bt_3 (q := 32) tX4_passOn_29 rfl
theorem dX4_passOn_32 : decode cX4_passOn 32 = .ok (.ireturn, 1) := de_ac tX4_passOn_32
def tX4_nextWithRoom_0 := Bt_0 cX4_nextWithRoom
theorem dX4_nextWithRoom_0 : decode cX4_nextWithRoom 0 = .ok (.iload_n 1, 1) := de_1b tX4_nextWithRoom_0
def tX4_nextWithRoom_1 := Bt_1 (q := 1) tX4_nextWithRoom_0 rfl
theorem dX4_nextWithRoom_1 : decode cX4_nextWithRoom 1 = .ok (.istore_n 3, 1) := de_3e tX4_nextWithRoom_1
def tX4_nextWithRoom_2 := Bt_1 (q := 2) tX4_nextWithRoom_1 rfl
theorem dX4_nextWithRoom_2 : decode cX4_nextWithRoom 2 = .ok (.iconst 0, 1) := de_03 tX4_nextWithRoom_2
def tX4_nextWithRoom_3 := Bt_1 (q := 3) tX4_nextWithRoom_2 rfl
theorem dX4_nextWithRoom_3 : decode cX4_nextWithRoom 3 = .ok (.istore 4, 2) := de_36 tX4_nextWithRoom_3 (by decide +kernel)
def tX4_nextWithRoom_5 := Bt_2 (q := 5) tX4_nextWithRoom_3 rfl
theorem dX4_nextWithRoom_5 : decode cX4_nextWithRoom 5 = .ok (.iload 4, 2) := de_15 tX4_nextWithRoom_5 (by decide +kernel)
def tX4_nextWithRoom_7 := Bt_2 (q := 7) tX4_nextWithRoom_5 rfl
theorem dX4_nextWithRoom_7 : decode cX4_nextWithRoom 7 = .ok (.aload_n 0, 1) := de_2a tX4_nextWithRoom_7
def tX4_nextWithRoom_8 := Bt_1 (q := 8) tX4_nextWithRoom_7 rfl
theorem dX4_nextWithRoom_8 : decode cX4_nextWithRoom 8 = .ok (.getfield 28, 3) := de_b4 tX4_nextWithRoom_8 (by decide +kernel)
def tX4_nextWithRoom_11 := Bt_3 (q := 11) tX4_nextWithRoom_8 rfl
theorem dX4_nextWithRoom_11 : decode cX4_nextWithRoom 11 = .ok (.if_icmp .ge 49, 3) := de_a2 tX4_nextWithRoom_11 (by decide +kernel)
def tX4_nextWithRoom_14 := Bt_3 (q := 14) tX4_nextWithRoom_11 rfl
theorem dX4_nextWithRoom_14 : decode cX4_nextWithRoom 14 = .ok (.iload_n 3, 1) := de_1d tX4_nextWithRoom_14
def tX4_nextWithRoom_15 := Bt_1 (q := 15) tX4_nextWithRoom_14 rfl
theorem dX4_nextWithRoom_15 : decode cX4_nextWithRoom 15 = .ok (.iconst 1, 1) := de_04 tX4_nextWithRoom_15
def tX4_nextWithRoom_16 := Bt_1 (q := 16) tX4_nextWithRoom_15 rfl
theorem dX4_nextWithRoom_16 : decode cX4_nextWithRoom 16 = .ok (.iadd, 1) := de_60 tX4_nextWithRoom_16
def tX4_nextWithRoom_17 := Bt_1 (q := 17) tX4_nextWithRoom_16 rfl
theorem dX4_nextWithRoom_17 : decode cX4_nextWithRoom 17 = .ok (.aload_n 0, 1) := de_2a tX4_nextWithRoom_17
def tX4_nextWithRoom_18 := Bt_1 (q := 18) tX4_nextWithRoom_17 rfl
theorem dX4_nextWithRoom_18 : decode cX4_nextWithRoom 18 = .ok (.getfield 28, 3) := de_b4 tX4_nextWithRoom_18 (by decide +kernel)
def tX4_nextWithRoom_21 := Bt_3 (q := 21) tX4_nextWithRoom_18 rfl
theorem dX4_nextWithRoom_21 : decode cX4_nextWithRoom 21 = .ok (.if_icmp .ge 9, 3) := de_a2 tX4_nextWithRoom_21 (by decide +kernel)
def tX4_nextWithRoom_24 := Bt_3 (q := 24) tX4_nextWithRoom_21 rfl
theorem dX4_nextWithRoom_24 : decode cX4_nextWithRoom 24 = .ok (.iload_n 3, 1) := de_1d tX4_nextWithRoom_24
def tX4_nextWithRoom_25 := Bt_1 (q := 25) tX4_nextWithRoom_24 rfl
theorem dX4_nextWithRoom_25 : decode cX4_nextWithRoom 25 = .ok (.iconst 1, 1) := de_04 tX4_nextWithRoom_25
def tX4_nextWithRoom_26 := Bt_1 (q := 26) tX4_nextWithRoom_25 rfl
theorem dX4_nextWithRoom_26 : decode cX4_nextWithRoom 26 = .ok (.iadd, 1) := de_60 tX4_nextWithRoom_26
def tX4_nextWithRoom_27 := Bt_1 (q := 27) tX4_nextWithRoom_26 rfl
theorem dX4_nextWithRoom_27 : decode cX4_nextWithRoom 27 = .ok (.goto 4, 3) := de_a7 tX4_nextWithRoom_27 (by decide +kernel)
def tX4_nextWithRoom_30 := Bt_3 (q := 30) tX4_nextWithRoom_27 rfl
theorem dX4_nextWithRoom_30 : decode cX4_nextWithRoom 30 = .ok (.iconst 0, 1) := de_03 tX4_nextWithRoom_30
def tX4_nextWithRoom_31 := Bt_1 (q := 31) tX4_nextWithRoom_30 rfl
theorem dX4_nextWithRoom_31 : decode cX4_nextWithRoom 31 = .ok (.istore_n 3, 1) := de_3e tX4_nextWithRoom_31
def tX4_nextWithRoom_32 := Bt_1 (q := 32) tX4_nextWithRoom_31 rfl
theorem dX4_nextWithRoom_32 : decode cX4_nextWithRoom 32 = .ok (.iload_n 3, 1) := de_1d tX4_nextWithRoom_32
def tX4_nextWithRoom_33 := Bt_1 (q := 33) tX4_nextWithRoom_32 rfl
theorem dX4_nextWithRoom_33 : decode cX4_nextWithRoom 33 = .ok (.iload_n 2, 1) := de_1c tX4_nextWithRoom_33
def tX4_nextWithRoom_34 := Bt_1 (q := 34) tX4_nextWithRoom_33 rfl
theorem dX4_nextWithRoom_34 : decode cX4_nextWithRoom 34 = .ok (.if_icmp .ne 5, 3) := de_a0 tX4_nextWithRoom_34 (by decide +kernel)
def tX4_nextWithRoom_37 := Bt_3 (q := 37) tX4_nextWithRoom_34 rfl
theorem dX4_nextWithRoom_37 : decode cX4_nextWithRoom 37 = .ok (.iconst (-1), 1) := de_02 tX4_nextWithRoom_37
def tX4_nextWithRoom_38 := Bt_1 (q := 38) tX4_nextWithRoom_37 rfl
theorem dX4_nextWithRoom_38 : decode cX4_nextWithRoom 38 = .ok (.ireturn, 1) := de_ac tX4_nextWithRoom_38
def tX4_nextWithRoom_39 := Bt_1 (q := 39) tX4_nextWithRoom_38 rfl
theorem dX4_nextWithRoom_39 : decode cX4_nextWithRoom 39 = .ok (.aload_n 0, 1) := de_2a tX4_nextWithRoom_39
def tX4_nextWithRoom_40 := Bt_1 (q := 40) tX4_nextWithRoom_39 rfl
theorem dX4_nextWithRoom_40 : decode cX4_nextWithRoom 40 = .ok (.getfield 9, 3) := de_b4 tX4_nextWithRoom_40 (by decide +kernel)
def tX4_nextWithRoom_43 := Bt_3 (q := 43) tX4_nextWithRoom_40 rfl
theorem dX4_nextWithRoom_43 : decode cX4_nextWithRoom 43 = .ok (.iload_n 3, 1) := de_1d tX4_nextWithRoom_43
def tX4_nextWithRoom_44 := Bt_1 (q := 44) tX4_nextWithRoom_43 rfl
theorem dX4_nextWithRoom_44 : decode cX4_nextWithRoom 44 = .ok (.iaload, 1) := de_2e tX4_nextWithRoom_44
def tX4_nextWithRoom_45 := Bt_1 (q := 45) tX4_nextWithRoom_44 rfl
theorem dX4_nextWithRoom_45 : decode cX4_nextWithRoom 45 = .ok (.aload_n 0, 1) := de_2a tX4_nextWithRoom_45
def tX4_nextWithRoom_46 := Bt_1 (q := 46) tX4_nextWithRoom_45 rfl
theorem dX4_nextWithRoom_46 : decode cX4_nextWithRoom 46 = .ok (.getfield 31, 3) := de_b4 tX4_nextWithRoom_46 (by decide +kernel)
def tX4_nextWithRoom_49 := Bt_3 (q := 49) tX4_nextWithRoom_46 rfl
theorem dX4_nextWithRoom_49 : decode cX4_nextWithRoom 49 = .ok (.if_icmp .lt 5, 3) := de_a1 tX4_nextWithRoom_49 (by decide +kernel)
def tX4_nextWithRoom_52 := Bt_3 (q := 52) tX4_nextWithRoom_49 rfl
theorem dX4_nextWithRoom_52 : decode cX4_nextWithRoom 52 = .ok (.iload_n 3, 1) := de_1d tX4_nextWithRoom_52
def tX4_nextWithRoom_53 := Bt_1 (q := 53) tX4_nextWithRoom_52 rfl
theorem dX4_nextWithRoom_53 : decode cX4_nextWithRoom 53 = .ok (.ireturn, 1) := de_ac tX4_nextWithRoom_53
def tX4_nextWithRoom_54 := Bt_1 (q := 54) tX4_nextWithRoom_53 rfl
theorem dX4_nextWithRoom_54 : decode cX4_nextWithRoom 54 = .ok (.iinc 4 1, 3) := de_84 tX4_nextWithRoom_54 (by decide +kernel) (by decide +kernel)
def tX4_nextWithRoom_57 := Bt_3 (q := 57) tX4_nextWithRoom_54 rfl
theorem dX4_nextWithRoom_57 : decode cX4_nextWithRoom 57 = .ok (.goto (-52), 3) := de_a7 tX4_nextWithRoom_57 (by decide +kernel)
def tX4_nextWithRoom_60 := Bt_3 (q := 60) tX4_nextWithRoom_57 rfl
theorem dX4_nextWithRoom_60 : decode cX4_nextWithRoom 60 = .ok (.iconst (-1), 1) := de_02 tX4_nextWithRoom_60
def tX4_nextWithRoom_61 := Bt_1 (q := 61) tX4_nextWithRoom_60 rfl
theorem dX4_nextWithRoom_61 : decode cX4_nextWithRoom 61 = .ok (.ireturn, 1) := de_ac tX4_nextWithRoom_61
def tX4_hand_0 := Bt_0 cX4_hand
theorem dX4_hand_0 : decode cX4_hand 0 = .ok (.aload_n 0, 1) := de_2a tX4_hand_0
def tX4_hand_1 := Bt_1 (q := 1) tX4_hand_0 rfl
theorem dX4_hand_1 : decode cX4_hand 1 = .ok (.iload_n 1, 1) := de_1b tX4_hand_1
def tX4_hand_2 := Bt_1 (q := 2) tX4_hand_1 rfl
theorem dX4_hand_2 : decode cX4_hand 2 = .ok (.putfield 15, 3) := de_b5 tX4_hand_2 (by decide +kernel)
def tX4_hand_5 := Bt_3 (q := 5) tX4_hand_2 rfl
theorem dX4_hand_5 : decode cX4_hand 5 = .ok (.iload_n 1, 1) := de_1b tX4_hand_5
def tX4_hand_6 := Bt_1 (q := 6) tX4_hand_5 rfl
theorem dX4_hand_6 : decode cX4_hand 6 = .ok (.iconst (-1), 1) := de_02 tX4_hand_6
def tX4_hand_7 := Bt_1 (q := 7) tX4_hand_6 rfl
theorem dX4_hand_7 : decode cX4_hand 7 = .ok (.if_icmp .ne 6, 3) := de_a0 tX4_hand_7 (by decide +kernel)
def tX4_hand_10 := Bt_3 (q := 10) tX4_hand_7 rfl
theorem dX4_hand_10 : decode cX4_hand 10 = .ok (.bipush (-9), 2) := de_10 tX4_hand_10 (by decide +kernel)
def tX4_hand_12 := Bt_2 (q := 12) tX4_hand_10 rfl
theorem dX4_hand_12 : decode cX4_hand 12 = .ok (.ireturn, 1) := de_ac tX4_hand_12
def tX4_hand_13 := Bt_1 (q := 13) tX4_hand_12 rfl
theorem dX4_hand_13 : decode cX4_hand 13 = .ok (.aload_n 0, 1) := de_2a tX4_hand_13
def tX4_hand_14 := Bt_1 (q := 14) tX4_hand_13 rfl
theorem dX4_hand_14 : decode cX4_hand 14 = .ok (.getfield 9, 3) := de_b4 tX4_hand_14 (by decide +kernel)
def tX4_hand_17 := Bt_3 (q := 17) tX4_hand_14 rfl
theorem dX4_hand_17 : decode cX4_hand 17 = .ok (.iload_n 1, 1) := de_1b tX4_hand_17
def tX4_hand_18 := Bt_1 (q := 18) tX4_hand_17 rfl
theorem dX4_hand_18 : decode cX4_hand 18 = .ok (.dup2, 1) := de_5c tX4_hand_18
def tX4_hand_19 := Bt_1 (q := 19) tX4_hand_18 rfl
theorem dX4_hand_19 : decode cX4_hand 19 = .ok (.iaload, 1) := de_2e tX4_hand_19
def tX4_hand_20 := Bt_1 (q := 20) tX4_hand_19 rfl
theorem dX4_hand_20 : decode cX4_hand 20 = .ok (.aload_n 0, 1) := de_2a tX4_hand_20
def tX4_hand_21 := Bt_1 (q := 21) tX4_hand_20 rfl
theorem dX4_hand_21 : decode cX4_hand 21 = .ok (.getfield 31, 3) := de_b4 tX4_hand_21 (by decide +kernel)
def tX4_hand_24 := Bt_3 (q := 24) tX4_hand_21 rfl
theorem dX4_hand_24 : decode cX4_hand 24 = .ok (.isub, 1) := de_64 tX4_hand_24
def tX4_hand_25 := Bt_1 (q := 25) tX4_hand_24 rfl
theorem dX4_hand_25 : decode cX4_hand 25 = .ok (.iastore, 1) := de_4f tX4_hand_25
def tX4_hand_26 := Bt_1 (q := 26) tX4_hand_25 rfl
theorem dX4_hand_26 : decode cX4_hand 26 = .ok (.aload_n 0, 1) := de_2a tX4_hand_26
def tX4_hand_27 := Bt_1 (q := 27) tX4_hand_26 rfl
theorem dX4_hand_27 : decode cX4_hand 27 = .ok (.iload_n 1, 1) := de_1b tX4_hand_27
def tX4_hand_28 := Bt_1 (q := 28) tX4_hand_27 rfl
theorem dX4_hand_28 : decode cX4_hand 28 = .ok (.putfield 22, 3) := de_b5 tX4_hand_28 (by decide +kernel)
def tX4_hand_31 := Bt_3 (q := 31) tX4_hand_28 rfl
theorem dX4_hand_31 : decode cX4_hand 31 = .ok (.aload_n 0, 1) := de_2a tX4_hand_31
def tX4_hand_32 := Bt_1 (q := 32) tX4_hand_31 rfl
theorem dX4_hand_32 : decode cX4_hand 32 = .ok (.getfield 19, 3) := de_b4 tX4_hand_32 (by decide +kernel)
def tX4_hand_35 := Bt_3 (q := 35) tX4_hand_32 rfl
theorem dX4_hand_35 : decode cX4_hand 35 = .ok (.iload_n 1, 1) := de_1b tX4_hand_35
def tX4_hand_36 := Bt_1 (q := 36) tX4_hand_35 rfl
theorem dX4_hand_36 : decode cX4_hand 36 = .ok (.iaload, 1) := de_2e tX4_hand_36
def tX4_hand_37 := Bt_1 (q := 37) tX4_hand_36 rfl
theorem dX4_hand_37 : decode cX4_hand 37 = .ok (.ireturn, 1) := de_ac tX4_hand_37
def tX5_init_0 := Bt_0 cX5_init
theorem dX5_init_0 : decode cX5_init 0 = .ok (.aload_n 0, 1) := de_2a tX5_init_0
def tX5_init_1 := Bt_1 (q := 1) tX5_init_0 rfl
theorem dX5_init_1 : decode cX5_init 1 = .ok (.invokespecial 3, 3) := de_b7 tX5_init_1 (by decide +kernel)
def tX5_init_4 := Bt_3 (q := 4) tX5_init_1 rfl
theorem dX5_init_4 : decode cX5_init 4 = .ok (.aload_n 0, 1) := de_2a tX5_init_4
def tX5_init_5 := Bt_1 (q := 5) tX5_init_4 rfl
theorem dX5_init_5 : decode cX5_init 5 = .ok (.sipush 288, 3) := de_11 tX5_init_5 (by decide +kernel)
def tX5_init_8 := Bt_3 (q := 8) tX5_init_5 rfl
theorem dX5_init_8 : decode cX5_init 8 = .ok (.newarray .int, 2) := de_bc_0a tX5_init_8
def tX5_init_10 := Bt_2 (q := 10) tX5_init_8 rfl
theorem dX5_init_10 : decode cX5_init 10 = .ok (.putfield 9, 3) := de_b5 tX5_init_10 (by decide +kernel)
def tX5_init_13 := Bt_3 (q := 13) tX5_init_10 rfl
theorem dX5_init_13 : decode cX5_init 13 = .ok (.aload_n 0, 1) := de_2a tX5_init_13
def tX5_init_14 := Bt_1 (q := 14) tX5_init_13 rfl
theorem dX5_init_14 : decode cX5_init 14 = .ok (.bipush 48, 2) := de_10 tX5_init_14 (by decide +kernel)
def tX5_init_16 := Bt_2 (q := 16) tX5_init_14 rfl
theorem dX5_init_16 : decode cX5_init 16 = .ok (.newarray .boolean, 2) := de_bc_04 tX5_init_16
def tX5_init_18 := Bt_2 (q := 18) tX5_init_16 rfl
theorem dX5_init_18 : decode cX5_init 18 = .ok (.putfield 15, 3) := de_b5 tX5_init_18 (by decide +kernel)
def tX5_init_21 := Bt_3 (q := 21) tX5_init_18 rfl
theorem dX5_init_21 : decode cX5_init 21 = .ok (.aload_n 0, 1) := de_2a tX5_init_21
def tX5_init_22 := Bt_1 (q := 22) tX5_init_21 rfl
theorem dX5_init_22 : decode cX5_init 22 = .ok (.bipush 6, 2) := de_10 tX5_init_22 (by decide +kernel)
def tX5_init_24 := Bt_2 (q := 24) tX5_init_22 rfl
theorem dX5_init_24 : decode cX5_init 24 = .ok (.newarray .boolean, 2) := de_bc_04 tX5_init_24
def tX5_init_26 := Bt_2 (q := 26) tX5_init_24 rfl
theorem dX5_init_26 : decode cX5_init 26 = .ok (.putfield 19, 3) := de_b5 tX5_init_26 (by decide +kernel)
def tX5_init_29 := Bt_3 (q := 29) tX5_init_26 rfl
theorem dX5_init_29 : decode cX5_init 29 = .ok (.aload_n 0, 1) := de_2a tX5_init_29
def tX5_init_30 := Bt_1 (q := 30) tX5_init_29 rfl
theorem dX5_init_30 : decode cX5_init 30 = .ok (.getfield 9, 3) := de_b4 tX5_init_30 (by decide +kernel)
def tX5_init_33 := Bt_3 (q := 33) tX5_init_30 rfl
theorem dX5_init_33 : decode cX5_init 33 = .ok (.bipush (-9), 2) := de_10 tX5_init_33 (by decide +kernel)
def tX5_init_35 := Bt_2 (q := 35) tX5_init_33 rfl
theorem dX5_init_35 : decode cX5_init 35 = .ok (.invokestatic 22, 3) := de_b8 tX5_init_35 (by decide +kernel)
def tX5_init_38 := Bt_3 (q := 38) tX5_init_35 rfl
theorem dX5_init_38 : decode cX5_init 38 = .ok (.return_, 1) := de_b1 tX5_init_38
def tX5_put_0 := Bt_0 cX5_put
theorem dX5_put_0 : decode cX5_put 0 = .ok (.aload_n 0, 1) := de_2a tX5_put_0
def tX5_put_1 := Bt_1 (q := 1) tX5_put_0 rfl
theorem dX5_put_1 : decode cX5_put 1 = .ok (.getfield 9, 3) := de_b4 tX5_put_1 (by decide +kernel)
def tX5_put_4 := Bt_3 (q := 4) tX5_put_1 rfl
theorem dX5_put_4 : decode cX5_put 4 = .ok (.iload_n 1, 1) := de_1b tX5_put_4
def tX5_put_5 := Bt_1 (q := 5) tX5_put_4 rfl
theorem dX5_put_5 : decode cX5_put 5 = .ok (.bipush 48, 2) := de_10 tX5_put_5 (by decide +kernel)
def tX5_put_7 := Bt_2 (q := 7) tX5_put_5 rfl
theorem dX5_put_7 : decode cX5_put 7 = .ok (.imul, 1) := de_68 tX5_put_7
def tX5_put_8 := Bt_1 (q := 8) tX5_put_7 rfl
theorem dX5_put_8 : decode cX5_put 8 = .ok (.iload_n 2, 1) := de_1c tX5_put_8
def tX5_put_9 := Bt_1 (q := 9) tX5_put_8 rfl
theorem dX5_put_9 : decode cX5_put 9 = .ok (.iadd, 1) := de_60 tX5_put_9
def tX5_put_10 := Bt_1 (q := 10) tX5_put_9 rfl
theorem dX5_put_10 : decode cX5_put 10 = .ok (.iaload, 1) := de_2e tX5_put_10
def tX5_put_11 := Bt_1 (q := 11) tX5_put_10 rfl
theorem dX5_put_11 : decode cX5_put 11 = .ok (.istore 4, 2) := de_36 tX5_put_11 (by decide +kernel)
def tX5_put_13 := Bt_2 (q := 13) tX5_put_11 rfl
theorem dX5_put_13 : decode cX5_put 13 = .ok (.aload_n 0, 1) := de_2a tX5_put_13
def tX5_put_14 := Bt_1 (q := 14) tX5_put_13 rfl
theorem dX5_put_14 : decode cX5_put 14 = .ok (.getfield 9, 3) := de_b4 tX5_put_14 (by decide +kernel)
def tX5_put_17 := Bt_3 (q := 17) tX5_put_14 rfl
theorem dX5_put_17 : decode cX5_put 17 = .ok (.iload_n 1, 1) := de_1b tX5_put_17
def tX5_put_18 := Bt_1 (q := 18) tX5_put_17 rfl
theorem dX5_put_18 : decode cX5_put 18 = .ok (.bipush 48, 2) := de_10 tX5_put_18 (by decide +kernel)
def tX5_put_20 := Bt_2 (q := 20) tX5_put_18 rfl
theorem dX5_put_20 : decode cX5_put 20 = .ok (.imul, 1) := de_68 tX5_put_20
def tX5_put_21 := Bt_1 (q := 21) tX5_put_20 rfl
theorem dX5_put_21 : decode cX5_put 21 = .ok (.iload_n 2, 1) := de_1c tX5_put_21
def tX5_put_22 := Bt_1 (q := 22) tX5_put_21 rfl
theorem dX5_put_22 : decode cX5_put 22 = .ok (.iadd, 1) := de_60 tX5_put_22
def tX5_put_23 := Bt_1 (q := 23) tX5_put_22 rfl
theorem dX5_put_23 : decode cX5_put 23 = .ok (.iload_n 3, 1) := de_1d tX5_put_23
def tX5_put_24 := Bt_1 (q := 24) tX5_put_23 rfl
theorem dX5_put_24 : decode cX5_put 24 = .ok (.iastore, 1) := de_4f tX5_put_24
def tX5_put_25 := Bt_1 (q := 25) tX5_put_24 rfl
theorem dX5_put_25 : decode cX5_put 25 = .ok (.iload 4, 2) := de_15 tX5_put_25 (by decide +kernel)
def tX5_put_27 := Bt_2 (q := 27) tX5_put_25 rfl
theorem dX5_put_27 : decode cX5_put 27 = .ok (.ireturn, 1) := de_ac tX5_put_27
def tX5_putBar_0 := Bt_0 cX5_putBar
theorem dX5_putBar_0 : decode cX5_putBar 0 = .ok (.iload_n 1, 1) := de_1b tX5_putBar_0
def tX5_putBar_1 := Bt_1 (q := 1) tX5_putBar_0 rfl
theorem dX5_putBar_1 : decode cX5_putBar 1 = .ok (.bipush 8, 2) := de_10 tX5_putBar_1 (by decide +kernel)
def tX5_putBar_3 := Bt_2 (q := 3) tX5_putBar_1 rfl
theorem dX5_putBar_3 : decode cX5_putBar 3 = .ok (.imul, 1) := de_68 tX5_putBar_3
def tX5_putBar_4 := Bt_1 (q := 4) tX5_putBar_3 rfl
theorem dX5_putBar_4 : decode cX5_putBar 4 = .ok (.iload_n 2, 1) := de_1c tX5_putBar_4
def tX5_putBar_5 := Bt_1 (q := 5) tX5_putBar_4 rfl
theorem dX5_putBar_5 : decode cX5_putBar 5 = .ok (.iadd, 1) := de_60 tX5_putBar_5
def tX5_putBar_6 := Bt_1 (q := 6) tX5_putBar_5 rfl
theorem dX5_putBar_6 : decode cX5_putBar 6 = .ok (.istore 4, 2) := de_36 tX5_putBar_6 (by decide +kernel)
def tX5_putBar_8 := Bt_2 (q := 8) tX5_putBar_6 rfl
theorem dX5_putBar_8 : decode cX5_putBar 8 = .ok (.aload_n 0, 1) := de_2a tX5_putBar_8
def tX5_putBar_9 := Bt_1 (q := 9) tX5_putBar_8 rfl
theorem dX5_putBar_9 : decode cX5_putBar 9 = .ok (.getfield 15, 3) := de_b4 tX5_putBar_9 (by decide +kernel)
def tX5_putBar_12 := Bt_3 (q := 12) tX5_putBar_9 rfl
theorem dX5_putBar_12 : decode cX5_putBar 12 = .ok (.iload 4, 2) := de_15 tX5_putBar_12 (by decide +kernel)
def tX5_putBar_14 := Bt_2 (q := 14) tX5_putBar_12 rfl
theorem dX5_putBar_14 : decode cX5_putBar 14 = .ok (.baload, 1) := de_33 tX5_putBar_14
def tX5_putBar_15 := Bt_1 (q := 15) tX5_putBar_14 rfl
theorem dX5_putBar_15 : decode cX5_putBar 15 = .ok (.istore 5, 2) := de_36 tX5_putBar_15 (by decide +kernel)
def tX5_putBar_17 := Bt_2 (q := 17) tX5_putBar_15 rfl
theorem dX5_putBar_17 : decode cX5_putBar 17 = .ok (.aload_n 0, 1) := de_2a tX5_putBar_17
def tX5_putBar_18 := Bt_1 (q := 18) tX5_putBar_17 rfl
theorem dX5_putBar_18 : decode cX5_putBar 18 = .ok (.getfield 15, 3) := de_b4 tX5_putBar_18 (by decide +kernel)
def tX5_putBar_21 := Bt_3 (q := 21) tX5_putBar_18 rfl
theorem dX5_putBar_21 : decode cX5_putBar 21 = .ok (.iload 4, 2) := de_15 tX5_putBar_21 (by decide +kernel)
def tX5_putBar_23 := Bt_2 (q := 23) tX5_putBar_21 rfl
theorem dX5_putBar_23 : decode cX5_putBar 23 = .ok (.iload_n 3, 1) := de_1d tX5_putBar_23
def tX5_putBar_24 := Bt_1 (q := 24) tX5_putBar_23 rfl
theorem dX5_putBar_24 : decode cX5_putBar 24 = .ok (.bastore, 1) := de_54 tX5_putBar_24
def tX5_putBar_25 := Bt_1 (q := 25) tX5_putBar_24 rfl
theorem dX5_putBar_25 : decode cX5_putBar 25 = .ok (.iload 5, 2) := de_15 tX5_putBar_25 (by decide +kernel)
def tX5_putBar_27 := Bt_2 (q := 27) tX5_putBar_25 rfl
theorem dX5_putBar_27 : decode cX5_putBar 27 = .ok (.iload_n 3, 1) := de_1d tX5_putBar_27
def tX5_putBar_28 := Bt_1 (q := 28) tX5_putBar_27 rfl
theorem dX5_putBar_28 : decode cX5_putBar 28 = .ok (.if_icmp .eq 7, 3) := de_9f tX5_putBar_28 (by decide +kernel)
def tX5_putBar_31 := Bt_3 (q := 31) tX5_putBar_28 rfl
theorem dX5_putBar_31 : decode cX5_putBar 31 = .ok (.iconst 1, 1) := de_04 tX5_putBar_31
def tX5_putBar_32 := Bt_1 (q := 32) tX5_putBar_31 rfl
theorem dX5_putBar_32 : decode cX5_putBar 32 = .ok (.goto 4, 3) := de_a7 tX5_putBar_32 (by decide +kernel)
def tX5_putBar_35 := Bt_3 (q := 35) tX5_putBar_32 rfl
theorem dX5_putBar_35 : decode cX5_putBar 35 = .ok (.iconst 0, 1) := de_03 tX5_putBar_35
def tX5_putBar_36 := Bt_1 (q := 36) tX5_putBar_35 rfl
theorem dX5_putBar_36 : decode cX5_putBar 36 = .ok (.ireturn, 1) := de_ac tX5_putBar_36
def tX5_clearLot_0 := Bt_0 cX5_clearLot
theorem dX5_clearLot_0 : decode cX5_clearLot 0 = .ok (.iconst 0, 1) := de_03 tX5_clearLot_0
def tX5_clearLot_1 := Bt_1 (q := 1) tX5_clearLot_0 rfl
theorem dX5_clearLot_1 : decode cX5_clearLot 1 = .ok (.istore_n 2, 1) := de_3d tX5_clearLot_1
def tX5_clearLot_2 := Bt_1 (q := 2) tX5_clearLot_1 rfl
theorem dX5_clearLot_2 : decode cX5_clearLot 2 = .ok (.iload_n 2, 1) := de_1c tX5_clearLot_2
def tX5_clearLot_3 := Bt_1 (q := 3) tX5_clearLot_2 rfl
theorem dX5_clearLot_3 : decode cX5_clearLot 3 = .ok (.aload_n 0, 1) := de_2a tX5_clearLot_3
def tX5_clearLot_4 := Bt_1 (q := 4) tX5_clearLot_3 rfl
theorem dX5_clearLot_4 : decode cX5_clearLot 4 = .ok (.getfield 9, 3) := de_b4 tX5_clearLot_4 (by decide +kernel)
def tX5_clearLot_7 := Bt_3 (q := 7) tX5_clearLot_4 rfl
theorem dX5_clearLot_7 : decode cX5_clearLot 7 = .ok (.arraylength, 1) := de_be tX5_clearLot_7
def tX5_clearLot_8 := Bt_1 (q := 8) tX5_clearLot_7 rfl
theorem dX5_clearLot_8 : decode cX5_clearLot 8 = .ok (.if_icmp .ge 25, 3) := de_a2 tX5_clearLot_8 (by decide +kernel)
def tX5_clearLot_11 := Bt_3 (q := 11) tX5_clearLot_8 rfl
theorem dX5_clearLot_11 : decode cX5_clearLot 11 = .ok (.iload_n 2, 1) := de_1c tX5_clearLot_11
def tX5_clearLot_12 := Bt_1 (q := 12) tX5_clearLot_11 rfl
theorem dX5_clearLot_12 : decode cX5_clearLot 12 = .ok (.bipush 6, 2) := de_10 tX5_clearLot_12 (by decide +kernel)
def tX5_clearLot_14 := Bt_2 (q := 14) tX5_clearLot_12 rfl
theorem dX5_clearLot_14 : decode cX5_clearLot 14 = .ok (.irem, 1) := de_70 tX5_clearLot_14
def tX5_clearLot_15 := Bt_1 (q := 15) tX5_clearLot_14 rfl
theorem dX5_clearLot_15 : decode cX5_clearLot 15 = .ok (.iload_n 1, 1) := de_1b tX5_clearLot_15
def tX5_clearLot_16 := Bt_1 (q := 16) tX5_clearLot_15 rfl
theorem dX5_clearLot_16 : decode cX5_clearLot 16 = .ok (.if_icmp .ne 11, 3) := de_a0 tX5_clearLot_16 (by decide +kernel)
def tX5_clearLot_19 := Bt_3 (q := 19) tX5_clearLot_16 rfl
theorem dX5_clearLot_19 : decode cX5_clearLot 19 = .ok (.aload_n 0, 1) := de_2a tX5_clearLot_19
def tX5_clearLot_20 := Bt_1 (q := 20) tX5_clearLot_19 rfl
theorem dX5_clearLot_20 : decode cX5_clearLot 20 = .ok (.getfield 9, 3) := de_b4 tX5_clearLot_20 (by decide +kernel)
def tX5_clearLot_23 := Bt_3 (q := 23) tX5_clearLot_20 rfl
theorem dX5_clearLot_23 : decode cX5_clearLot 23 = .ok (.iload_n 2, 1) := de_1c tX5_clearLot_23
def tX5_clearLot_24 := Bt_1 (q := 24) tX5_clearLot_23 rfl
theorem dX5_clearLot_24 : decode cX5_clearLot 24 = .ok (.bipush (-9), 2) := de_10 tX5_clearLot_24 (by decide +kernel)
def tX5_clearLot_26 := Bt_2 (q := 26) tX5_clearLot_24 rfl
theorem dX5_clearLot_26 : decode cX5_clearLot 26 = .ok (.iastore, 1) := de_4f tX5_clearLot_26
def tX5_clearLot_27 := Bt_1 (q := 27) tX5_clearLot_26 rfl
theorem dX5_clearLot_27 : decode cX5_clearLot 27 = .ok (.iinc 2 1, 3) := de_84 tX5_clearLot_27 (by decide +kernel) (by decide +kernel)
def tX5_clearLot_30 := Bt_3 (q := 30) tX5_clearLot_27 rfl
theorem dX5_clearLot_30 : decode cX5_clearLot 30 = .ok (.goto (-28), 3) := de_a7 tX5_clearLot_30 (by decide +kernel)
def tX5_clearLot_33 := Bt_3 (q := 33) tX5_clearLot_30 rfl
theorem dX5_clearLot_33 : decode cX5_clearLot 33 = .ok (.return_, 1) := de_b1 tX5_clearLot_33
def tX5_findSilent_0 := Bt_0 cX5_findSilent
theorem dX5_findSilent_0 : decode cX5_findSilent 0 = .ok (.iconst 0, 1) := de_03 tX5_findSilent_0
def tX5_findSilent_1 := Bt_1 (q := 1) tX5_findSilent_0 rfl
theorem dX5_findSilent_1 : decode cX5_findSilent 1 = .ok (.istore_n 2, 1) := de_3d tX5_findSilent_1
def tX5_findSilent_2 := Bt_1 (q := 2) tX5_findSilent_1 rfl
theorem dX5_findSilent_2 : decode cX5_findSilent 2 = .ok (.iload_n 2, 1) := de_1c tX5_findSilent_2
def tX5_findSilent_3 := Bt_1 (q := 3) tX5_findSilent_2 rfl
theorem dX5_findSilent_3 : decode cX5_findSilent 3 = .ok (.bipush 6, 2) := de_10 tX5_findSilent_3 (by decide +kernel)
def tX5_findSilent_5 := Bt_2 (q := 5) tX5_findSilent_3 rfl
theorem dX5_findSilent_5 : decode cX5_findSilent 5 = .ok (.if_icmp .ge 63, 3) := de_a2 tX5_findSilent_5 (by decide +kernel)
def tX5_findSilent_8 := Bt_3 (q := 8) tX5_findSilent_5 rfl
theorem dX5_findSilent_8 : decode cX5_findSilent 8 = .ok (.aload_n 0, 1) := de_2a tX5_findSilent_8
def tX5_findSilent_9 := Bt_1 (q := 9) tX5_findSilent_8 rfl
theorem dX5_findSilent_9 : decode cX5_findSilent 9 = .ok (.getfield 19, 3) := de_b4 tX5_findSilent_9 (by decide +kernel)
def tX5_findSilent_12 := Bt_3 (q := 12) tX5_findSilent_9 rfl
theorem dX5_findSilent_12 : decode cX5_findSilent 12 = .ok (.iload_n 2, 1) := de_1c tX5_findSilent_12
def tX5_findSilent_13 := Bt_1 (q := 13) tX5_findSilent_12 rfl
theorem dX5_findSilent_13 : decode cX5_findSilent 13 = .ok (.iconst 0, 1) := de_03 tX5_findSilent_13
def tX5_findSilent_14 := Bt_1 (q := 14) tX5_findSilent_13 rfl
theorem dX5_findSilent_14 : decode cX5_findSilent 14 = .ok (.bastore, 1) := de_54 tX5_findSilent_14
def tX5_findSilent_15 := Bt_1 (q := 15) tX5_findSilent_14 rfl
theorem dX5_findSilent_15 : decode cX5_findSilent 15 = .ok (.iconst 0, 1) := de_03 tX5_findSilent_15
def tX5_findSilent_16 := Bt_1 (q := 16) tX5_findSilent_15 rfl
theorem dX5_findSilent_16 : decode cX5_findSilent 16 = .ok (.istore_n 3, 1) := de_3e tX5_findSilent_16
def tX5_findSilent_17 := Bt_1 (q := 17) tX5_findSilent_16 rfl
theorem dX5_findSilent_17 : decode cX5_findSilent 17 = .ok (.iload_n 3, 1) := de_1d tX5_findSilent_17
def tX5_findSilent_18 := Bt_1 (q := 18) tX5_findSilent_17 rfl
theorem dX5_findSilent_18 : decode cX5_findSilent 18 = .ok (.bipush 8, 2) := de_10 tX5_findSilent_18 (by decide +kernel)
def tX5_findSilent_20 := Bt_2 (q := 20) tX5_findSilent_18 rfl
theorem dX5_findSilent_20 : decode cX5_findSilent 20 = .ok (.if_icmp .ge 42, 3) := de_a2 tX5_findSilent_20 (by decide +kernel)
def tX5_findSilent_23 := Bt_3 (q := 23) tX5_findSilent_20 rfl
theorem dX5_findSilent_23 : decode cX5_findSilent 23 = .ok (.iload_n 3, 1) := de_1d tX5_findSilent_23
def tX5_findSilent_24 := Bt_1 (q := 24) tX5_findSilent_23 rfl
theorem dX5_findSilent_24 : decode cX5_findSilent 24 = .ok (.aload_n 1, 1) := de_2b tX5_findSilent_24
def tX5_findSilent_25 := Bt_1 (q := 25) tX5_findSilent_24 rfl
theorem dX5_findSilent_25 : decode cX5_findSilent 25 = .ok (.arraylength, 1) := de_be tX5_findSilent_25
def tX5_findSilent_26 := Bt_1 (q := 26) tX5_findSilent_25 rfl
theorem dX5_findSilent_26 : decode cX5_findSilent 26 = .ok (.if_icmp .ge 36, 3) := de_a2 tX5_findSilent_26 (by decide +kernel)
def tX5_findSilent_29 := Bt_3 (q := 29) tX5_findSilent_26 rfl
theorem dX5_findSilent_29 : decode cX5_findSilent 29 = .ok (.aload_n 1, 1) := de_2b tX5_findSilent_29
def tX5_findSilent_30 := Bt_1 (q := 30) tX5_findSilent_29 rfl
theorem dX5_findSilent_30 : decode cX5_findSilent 30 = .ok (.iload_n 3, 1) := de_1d tX5_findSilent_30
def tX5_findSilent_31 := Bt_1 (q := 31) tX5_findSilent_30 rfl
theorem dX5_findSilent_31 : decode cX5_findSilent 31 = .ok (.baload, 1) := de_33 tX5_findSilent_31
def tX5_findSilent_32 := Bt_1 (q := 32) tX5_findSilent_31 rfl
theorem dX5_findSilent_32 : decode cX5_findSilent 32 = .ok (.ifCond .eq 24, 3) := de_99 tX5_findSilent_32 (by decide +kernel)
def tX5_findSilent_35 := Bt_3 (q := 35) tX5_findSilent_32 rfl
theorem dX5_findSilent_35 : decode cX5_findSilent 35 = .ok (.aload_n 0, 1) := de_2a tX5_findSilent_35
def tX5_findSilent_36 := Bt_1 (q := 36) tX5_findSilent_35 rfl
theorem dX5_findSilent_36 : decode cX5_findSilent 36 = .ok (.getfield 15, 3) := de_b4 tX5_findSilent_36 (by decide +kernel)
def tX5_findSilent_39 := Bt_3 (q := 39) tX5_findSilent_36 rfl
theorem dX5_findSilent_39 : decode cX5_findSilent 39 = .ok (.iload_n 2, 1) := de_1c tX5_findSilent_39
def tX5_findSilent_40 := Bt_1 (q := 40) tX5_findSilent_39 rfl
theorem dX5_findSilent_40 : decode cX5_findSilent 40 = .ok (.bipush 8, 2) := de_10 tX5_findSilent_40 (by decide +kernel)
def tX5_findSilent_42 := Bt_2 (q := 42) tX5_findSilent_40 rfl
theorem dX5_findSilent_42 : decode cX5_findSilent 42 = .ok (.imul, 1) := de_68 tX5_findSilent_42
def tX5_findSilent_43 := Bt_1 (q := 43) tX5_findSilent_42 rfl
theorem dX5_findSilent_43 : decode cX5_findSilent 43 = .ok (.iload_n 3, 1) := de_1d tX5_findSilent_43
def tX5_findSilent_44 := Bt_1 (q := 44) tX5_findSilent_43 rfl
theorem dX5_findSilent_44 : decode cX5_findSilent 44 = .ok (.iadd, 1) := de_60 tX5_findSilent_44
def tX5_findSilent_45 := Bt_1 (q := 45) tX5_findSilent_44 rfl
theorem dX5_findSilent_45 : decode cX5_findSilent 45 = .ok (.baload, 1) := de_33 tX5_findSilent_45
def tX5_findSilent_46 := Bt_1 (q := 46) tX5_findSilent_45 rfl
theorem dX5_findSilent_46 : decode cX5_findSilent 46 = .ok (.ifCond .eq 10, 3) := de_99 tX5_findSilent_46 (by decide +kernel)
def tX5_findSilent_49 := Bt_3 (q := 49) tX5_findSilent_46 rfl
theorem dX5_findSilent_49 : decode cX5_findSilent 49 = .ok (.aload_n 0, 1) := de_2a tX5_findSilent_49
def tX5_findSilent_50 := Bt_1 (q := 50) tX5_findSilent_49 rfl
theorem dX5_findSilent_50 : decode cX5_findSilent 50 = .ok (.getfield 19, 3) := de_b4 tX5_findSilent_50 (by decide +kernel)
def tX5_findSilent_53 := Bt_3 (q := 53) tX5_findSilent_50 rfl
theorem dX5_findSilent_53 : decode cX5_findSilent 53 = .ok (.iload_n 2, 1) := de_1c tX5_findSilent_53
def tX5_findSilent_54 := Bt_1 (q := 54) tX5_findSilent_53 rfl
theorem dX5_findSilent_54 : decode cX5_findSilent 54 = .ok (.iconst 1, 1) := de_04 tX5_findSilent_54
def tX5_findSilent_55 := Bt_1 (q := 55) tX5_findSilent_54 rfl
theorem dX5_findSilent_55 : decode cX5_findSilent 55 = .ok (.bastore, 1) := de_54 tX5_findSilent_55
def tX5_findSilent_56 := Bt_1 (q := 56) tX5_findSilent_55 rfl
theorem dX5_findSilent_56 : decode cX5_findSilent 56 = .ok (.iinc 3 1, 3) := de_84 tX5_findSilent_56 (by decide +kernel) (by decide +kernel)
def tX5_findSilent_59 := Bt_3 (q := 59) tX5_findSilent_56 rfl
theorem dX5_findSilent_59 : decode cX5_findSilent 59 = .ok (.goto (-42), 3) := de_a7 tX5_findSilent_59 (by decide +kernel)
def tX5_findSilent_62 := Bt_3 (q := 62) tX5_findSilent_59 rfl
theorem dX5_findSilent_62 : decode cX5_findSilent 62 = .ok (.iinc 2 1, 3) := de_84 tX5_findSilent_62 (by decide +kernel) (by decide +kernel)
def tX5_findSilent_65 := Bt_3 (q := 65) tX5_findSilent_62 rfl
theorem dX5_findSilent_65 : decode cX5_findSilent 65 = .ok (.goto (-63), 3) := de_a7 tX5_findSilent_65 (by decide +kernel)
def tX5_findSilent_68 := Bt_3 (q := 68) tX5_findSilent_65 rfl
theorem dX5_findSilent_68 : decode cX5_findSilent 68 = .ok (.return_, 1) := de_b1 tX5_findSilent_68
def tX5_weigh_0 := Bt_0 cX5_weigh
theorem dX5_weigh_0 : decode cX5_weigh 0 = .ok (.iconst 0, 1) := de_03 tX5_weigh_0
def tX5_weigh_1 := Bt_1 (q := 1) tX5_weigh_0 rfl
theorem dX5_weigh_1 : decode cX5_weigh 1 = .ok (.istore_n 3, 1) := de_3e tX5_weigh_1
def tX5_weigh_2 := Bt_1 (q := 2) tX5_weigh_1 rfl
theorem dX5_weigh_2 : decode cX5_weigh 2 = .ok (.iconst 0, 1) := de_03 tX5_weigh_2
def tX5_weigh_3 := Bt_1 (q := 3) tX5_weigh_2 rfl
theorem dX5_weigh_3 : decode cX5_weigh 3 = .ok (.istore 4, 2) := de_36 tX5_weigh_3 (by decide +kernel)
def tX5_weigh_5 := Bt_2 (q := 5) tX5_weigh_3 rfl
theorem dX5_weigh_5 : decode cX5_weigh 5 = .ok (.bipush 100, 2) := de_10 tX5_weigh_5 (by decide +kernel)
def tX5_weigh_7 := Bt_2 (q := 7) tX5_weigh_5 rfl
theorem dX5_weigh_7 : decode cX5_weigh 7 = .ok (.istore 5, 2) := de_36 tX5_weigh_7 (by decide +kernel)
def tX5_weigh_9 := Bt_2 (q := 9) tX5_weigh_7 rfl
theorem dX5_weigh_9 : decode cX5_weigh 9 = .ok (.iconst 0, 1) := de_03 tX5_weigh_9
def tX5_weigh_10 := Bt_1 (q := 10) tX5_weigh_9 rfl
theorem dX5_weigh_10 : decode cX5_weigh 10 = .ok (.istore 6, 2) := de_36 tX5_weigh_10 (by decide +kernel)
def tX5_weigh_12 := Bt_2 (q := 12) tX5_weigh_10 rfl
theorem dX5_weigh_12 : decode cX5_weigh 12 = .ok (.iconst 0, 1) := de_03 tX5_weigh_12
def tX5_weigh_13 := Bt_1 (q := 13) tX5_weigh_12 rfl
theorem dX5_weigh_13 : decode cX5_weigh 13 = .ok (.istore 7, 2) := de_36 tX5_weigh_13 (by decide +kernel)
def tX5_weigh_15 := Bt_2 (q := 15) tX5_weigh_13 rfl
theorem dX5_weigh_15 : decode cX5_weigh 15 = .ok (.iload 7, 2) := de_15 tX5_weigh_15 (by decide +kernel)
def tX5_weigh_17 := Bt_2 (q := 17) tX5_weigh_15 rfl
theorem dX5_weigh_17 : decode cX5_weigh 17 = .ok (.bipush 6, 2) := de_10 tX5_weigh_17 (by decide +kernel)
def tX5_weigh_19 := Bt_2 (q := 19) tX5_weigh_17 rfl
theorem dX5_weigh_19 : decode cX5_weigh 19 = .ok (.if_icmp .ge 68, 3) := de_a2 tX5_weigh_19 (by decide +kernel)
def tX5_weigh_22 := Bt_3 (q := 22) tX5_weigh_19 rfl
theorem dX5_weigh_22 : decode cX5_weigh 22 = .ok (.aload_n 0, 1) := de_2a tX5_weigh_22
def tX5_weigh_23 := Bt_1 (q := 23) tX5_weigh_22 rfl
theorem dX5_weigh_23 : decode cX5_weigh 23 = .ok (.getfield 9, 3) := de_b4 tX5_weigh_23 (by decide +kernel)
def tX5_weigh_26 := Bt_3 (q := 26) tX5_weigh_23 rfl
theorem dX5_weigh_26 : decode cX5_weigh 26 = .ok (.iload 7, 2) := de_15 tX5_weigh_26 (by decide +kernel)
def tX5_weigh_28 := Bt_2 (q := 28) tX5_weigh_26 rfl
theorem dX5_weigh_28 : decode cX5_weigh 28 = .ok (.bipush 48, 2) := de_10 tX5_weigh_28 (by decide +kernel)
def tX5_weigh_30 := Bt_2 (q := 30) tX5_weigh_28 rfl
theorem dX5_weigh_30 : decode cX5_weigh 30 = .ok (.imul, 1) := de_68 tX5_weigh_30
def tX5_weigh_31 := Bt_1 (q := 31) tX5_weigh_30 rfl
theorem dX5_weigh_31 : decode cX5_weigh 31 = .ok (.iload_n 1, 1) := de_1b tX5_weigh_31
def tX5_weigh_32 := Bt_1 (q := 32) tX5_weigh_31 rfl
theorem dX5_weigh_32 : decode cX5_weigh 32 = .ok (.iadd, 1) := de_60 tX5_weigh_32
def tX5_weigh_33 := Bt_1 (q := 33) tX5_weigh_32 rfl
theorem dX5_weigh_33 : decode cX5_weigh 33 = .ok (.iaload, 1) := de_2e tX5_weigh_33
def tX5_weigh_34 := Bt_1 (q := 34) tX5_weigh_33 rfl
theorem dX5_weigh_34 : decode cX5_weigh 34 = .ok (.istore 8, 2) := de_36 tX5_weigh_34 (by decide +kernel)
def tX5_weigh_36 := Bt_2 (q := 36) tX5_weigh_34 rfl
theorem dX5_weigh_36 : decode cX5_weigh 36 = .ok (.iload 8, 2) := de_15 tX5_weigh_36 (by decide +kernel)
def tX5_weigh_38 := Bt_2 (q := 38) tX5_weigh_36 rfl
theorem dX5_weigh_38 : decode cX5_weigh 38 = .ok (.bipush (-9), 2) := de_10 tX5_weigh_38 (by decide +kernel)
def tX5_weigh_40 := Bt_2 (q := 40) tX5_weigh_38 rfl
theorem dX5_weigh_40 : decode cX5_weigh 40 = .ok (.if_icmp .eq 41, 3) := de_9f tX5_weigh_40 (by decide +kernel)
def tX5_weigh_43 := Bt_3 (q := 43) tX5_weigh_40 rfl
theorem dX5_weigh_43 : decode cX5_weigh 43 = .ok (.aload_n 0, 1) := de_2a tX5_weigh_43
def tX5_weigh_44 := Bt_1 (q := 44) tX5_weigh_43 rfl
theorem dX5_weigh_44 : decode cX5_weigh 44 = .ok (.getfield 19, 3) := de_b4 tX5_weigh_44 (by decide +kernel)
def tX5_weigh_47 := Bt_3 (q := 47) tX5_weigh_44 rfl
theorem dX5_weigh_47 : decode cX5_weigh 47 = .ok (.iload 7, 2) := de_15 tX5_weigh_47 (by decide +kernel)
def tX5_weigh_49 := Bt_2 (q := 49) tX5_weigh_47 rfl
theorem dX5_weigh_49 : decode cX5_weigh 49 = .ok (.baload, 1) := de_33 tX5_weigh_49
def tX5_weigh_50 := Bt_1 (q := 50) tX5_weigh_49 rfl
theorem dX5_weigh_50 : decode cX5_weigh 50 = .ok (.ifCond .ne 31, 3) := de_9a tX5_weigh_50 (by decide +kernel)
def tX5_weigh_53 := Bt_3 (q := 53) tX5_weigh_50 rfl
theorem dX5_weigh_53 : decode cX5_weigh 53 = .ok (.iinc 3 1, 3) := de_84 tX5_weigh_53 (by decide +kernel) (by decide +kernel)
def tX5_weigh_56 := Bt_3 (q := 56) tX5_weigh_53 rfl
theorem dX5_weigh_56 : decode cX5_weigh 56 = .ok (.iload 4, 2) := de_15 tX5_weigh_56 (by decide +kernel)
def tX5_weigh_58 := Bt_2 (q := 58) tX5_weigh_56 rfl
theorem dX5_weigh_58 : decode cX5_weigh 58 = .ok (.iload 8, 2) := de_15 tX5_weigh_58 (by decide +kernel)
def tX5_weigh_60 := Bt_2 (q := 60) tX5_weigh_58 rfl
theorem dX5_weigh_60 : decode cX5_weigh 60 = .ok (.iadd, 1) := de_60 tX5_weigh_60
def tX5_weigh_61 := Bt_1 (q := 61) tX5_weigh_60 rfl
theorem dX5_weigh_61 : decode cX5_weigh 61 = .ok (.istore 4, 2) := de_36 tX5_weigh_61 (by decide +kernel)
def tX5_weigh_63 := Bt_2 (q := 63) tX5_weigh_61 rfl
theorem dX5_weigh_63 : decode cX5_weigh 63 = .ok (.iload 5, 2) := de_15 tX5_weigh_63 (by decide +kernel)
def tX5_weigh_65 := Bt_2 (q := 65) tX5_weigh_63 rfl
theorem dX5_weigh_65 : decode cX5_weigh 65 = .ok (.iload 8, 2) := de_15 tX5_weigh_65 (by decide +kernel)
def tX5_weigh_67 := Bt_2 (q := 67) tX5_weigh_65 rfl
theorem dX5_weigh_67 : decode cX5_weigh 67 = .ok (.invokestatic 28, 3) := de_b8 tX5_weigh_67 (by decide +kernel)
def tX5_weigh_70 := Bt_3 (q := 70) tX5_weigh_67 rfl
theorem dX5_weigh_70 : decode cX5_weigh 70 = .ok (.istore 5, 2) := de_36 tX5_weigh_70 (by decide +kernel)
def tX5_weigh_72 := Bt_2 (q := 72) tX5_weigh_70 rfl
theorem dX5_weigh_72 : decode cX5_weigh 72 = .ok (.iload 6, 2) := de_15 tX5_weigh_72 (by decide +kernel)
def tX5_weigh_74 := Bt_2 (q := 74) tX5_weigh_72 rfl
theorem dX5_weigh_74 : decode cX5_weigh 74 = .ok (.iload 8, 2) := de_15 tX5_weigh_74 (by decide +kernel)
def tX5_weigh_76 := Bt_2 (q := 76) tX5_weigh_74 rfl
theorem dX5_weigh_76 : decode cX5_weigh 76 = .ok (.invokestatic 34, 3) := de_b8 tX5_weigh_76 (by decide +kernel)
def tX5_weigh_79 := Bt_3 (q := 79) tX5_weigh_76 rfl
theorem dX5_weigh_79 : decode cX5_weigh 79 = .ok (.istore 6, 2) := de_36 tX5_weigh_79 (by decide +kernel)
def tX5_weigh_81 := Bt_2 (q := 81) tX5_weigh_79 rfl
theorem dX5_weigh_81 : decode cX5_weigh 81 = .ok (.iinc 7 1, 3) := de_84 tX5_weigh_81 (by decide +kernel) (by decide +kernel)
def tX5_weigh_84 := Bt_3 (q := 84) tX5_weigh_81 rfl
theorem dX5_weigh_84 : decode cX5_weigh 84 = .ok (.goto (-69), 3) := de_a7 tX5_weigh_84 (by decide +kernel)
def tX5_weigh_87 := Bt_3 (q := 87) tX5_weigh_84 rfl
theorem dX5_weigh_87 : decode cX5_weigh 87 = .ok (.iload_n 3, 1) := de_1d tX5_weigh_87
def tX5_weigh_88 := Bt_1 (q := 88) tX5_weigh_87 rfl
theorem dX5_weigh_88 : decode cX5_weigh 88 = .ok (.iconst 4, 1) := de_07 tX5_weigh_88
def tX5_weigh_89 := Bt_1 (q := 89) tX5_weigh_88 rfl
theorem dX5_weigh_89 : decode cX5_weigh 89 = .ok (.if_icmp .lt 16, 3) := de_a1 tX5_weigh_89 (by decide +kernel)
def tX5_weigh_92 := Bt_3 (q := 92) tX5_weigh_89 rfl
theorem dX5_weigh_92 : decode cX5_weigh 92 = .ok (.iinc 3 (-2), 3) := de_84 tX5_weigh_92 (by decide +kernel) (by decide +kernel)
def tX5_weigh_95 := Bt_3 (q := 95) tX5_weigh_92 rfl
theorem dX5_weigh_95 : decode cX5_weigh 95 = .ok (.iload 4, 2) := de_15 tX5_weigh_95 (by decide +kernel)
def tX5_weigh_97 := Bt_2 (q := 97) tX5_weigh_95 rfl
theorem dX5_weigh_97 : decode cX5_weigh 97 = .ok (.iload 5, 2) := de_15 tX5_weigh_97 (by decide +kernel)
def tX5_weigh_99 := Bt_2 (q := 99) tX5_weigh_97 rfl
theorem dX5_weigh_99 : decode cX5_weigh 99 = .ok (.iload 6, 2) := de_15 tX5_weigh_99 (by decide +kernel)
def tX5_weigh_101 := Bt_2 (q := 101) tX5_weigh_99 rfl
theorem dX5_weigh_101 : decode cX5_weigh 101 = .ok (.iadd, 1) := de_60 tX5_weigh_101
def tX5_weigh_102 := Bt_1 (q := 102) tX5_weigh_101 rfl
theorem dX5_weigh_102 : decode cX5_weigh 102 = .ok (.isub, 1) := de_64 tX5_weigh_102
def tX5_weigh_103 := Bt_1 (q := 103) tX5_weigh_102 rfl
theorem dX5_weigh_103 : decode cX5_weigh 103 = .ok (.istore 4, 2) := de_36 tX5_weigh_103 (by decide +kernel)
def tX5_weigh_105 := Bt_2 (q := 105) tX5_weigh_103 rfl
theorem dX5_weigh_105 : decode cX5_weigh 105 = .ok (.aload_n 2, 1) := de_2c tX5_weigh_105
def tX5_weigh_106 := Bt_1 (q := 106) tX5_weigh_105 rfl
theorem dX5_weigh_106 : decode cX5_weigh 106 = .ok (.iload 4, 2) := de_15 tX5_weigh_106 (by decide +kernel)
def tX5_weigh_108 := Bt_2 (q := 108) tX5_weigh_106 rfl
theorem dX5_weigh_108 : decode cX5_weigh 108 = .ok (.i2l, 1) := de_85 tX5_weigh_108
def tX5_weigh_109 := Bt_1 (q := 109) tX5_weigh_108 rfl
theorem dX5_weigh_109 : decode cX5_weigh 109 = .ok (.iconst 1, 1) := de_04 tX5_weigh_109
def tX5_weigh_110 := Bt_1 (q := 110) tX5_weigh_109 rfl
theorem dX5_weigh_110 : decode cX5_weigh 110 = .ok (.iload_n 3, 1) := de_1d tX5_weigh_110
def tX5_weigh_111 := Bt_1 (q := 111) tX5_weigh_110 rfl
theorem dX5_weigh_111 : decode cX5_weigh 111 = .ok (.invokestatic 34, 3) := de_b8 tX5_weigh_111 (by decide +kernel)
def tX5_weigh_114 := Bt_3 (q := 114) tX5_weigh_111 rfl
theorem dX5_weigh_114 : decode cX5_weigh 114 = .ok (.i2l, 1) := de_85 tX5_weigh_114
def tX5_weigh_115 := Bt_1 (q := 115) tX5_weigh_114 rfl
theorem dX5_weigh_115 : decode cX5_weigh 115 = .ok (.invokevirtual 37, 3) := de_b6 tX5_weigh_115 (by decide +kernel)
def tX5_weigh_118 := Bt_3 (q := 118) tX5_weigh_115 rfl
theorem dX5_weigh_118 : decode cX5_weigh 118 = .ok (.return_, 1) := de_b1 tX5_weigh_118
def tX6_likenessOf_0 := Bt_0 cX6_likenessOf
theorem dX6_likenessOf_0 : decode cX6_likenessOf 0 = .ok (.aload_n 0, 1) := de_2a tX6_likenessOf_0
def tX6_likenessOf_1 := Bt_1 (q := 1) tX6_likenessOf_0 rfl
theorem dX6_likenessOf_1 : decode cX6_likenessOf 1 = .ok (.iload_n 1, 1) := de_1b tX6_likenessOf_1
def tX6_likenessOf_2 := Bt_1 (q := 2) tX6_likenessOf_1 rfl
theorem dX6_likenessOf_2 : decode cX6_likenessOf 2 = .ok (.iload_n 2, 1) := de_1c tX6_likenessOf_2
def tX6_likenessOf_3 := Bt_1 (q := 3) tX6_likenessOf_2 rfl
theorem dX6_likenessOf_3 : decode cX6_likenessOf 3 = .ok (.iconst 0, 1) := de_03 tX6_likenessOf_3
def tX6_likenessOf_4 := Bt_1 (q := 4) tX6_likenessOf_3 rfl
theorem dX6_likenessOf_4 : decode cX6_likenessOf 4 = .ok (.iconst 1, 1) := de_04 tX6_likenessOf_4
def tX6_likenessOf_5 := Bt_1 (q := 5) tX6_likenessOf_4 rfl
theorem dX6_likenessOf_5 : decode cX6_likenessOf 5 = .ok (.iconst 2, 1) := de_05 tX6_likenessOf_5
def tX6_likenessOf_6 := Bt_1 (q := 6) tX6_likenessOf_5 rfl
theorem dX6_likenessOf_6 : decode cX6_likenessOf 6 = .ok (.invokestatic 9, 3) := de_b8 tX6_likenessOf_6 (by decide +kernel)
def tX6_likenessOf_9 := Bt_3 (q := 9) tX6_likenessOf_6 rfl
theorem dX6_likenessOf_9 : decode cX6_likenessOf 9 = .ok (.lreturn, 1) := de_ad tX6_likenessOf_9
def tX6_likenessInOrder_0 := Bt_0 cX6_likenessInOrder
theorem dX6_likenessInOrder_0 : decode cX6_likenessInOrder 0 = .ok (.aload_n 0, 1) := de_2a tX6_likenessInOrder_0
def tX6_likenessInOrder_1 := Bt_1 (q := 1) tX6_likenessInOrder_0 rfl
theorem dX6_likenessInOrder_1 : decode cX6_likenessInOrder 1 = .ok (.iload_n 1, 1) := de_1b tX6_likenessInOrder_1
def tX6_likenessInOrder_2 := Bt_1 (q := 2) tX6_likenessInOrder_1 rfl
theorem dX6_likenessInOrder_2 : decode cX6_likenessInOrder 2 = .ok (.invokevirtual 15, 3) := de_b6 tX6_likenessInOrder_2 (by decide +kernel)
def tX6_likenessInOrder_5 := Bt_3 (q := 5) tX6_likenessInOrder_2 rfl
theorem dX6_likenessInOrder_5 : decode cX6_likenessInOrder 5 = .ok (.i2l, 1) := de_85 tX6_likenessInOrder_5
def tX6_likenessInOrder_6 := Bt_1 (q := 6) tX6_likenessInOrder_5 rfl
theorem dX6_likenessInOrder_6 : decode cX6_likenessInOrder 6 = .ok (.lstore 6, 2) := de_37 tX6_likenessInOrder_6 (by decide +kernel)
def tX6_likenessInOrder_8 := Bt_2 (q := 8) tX6_likenessInOrder_6 rfl
theorem dX6_likenessInOrder_8 : decode cX6_likenessInOrder 8 = .ok (.aload_n 0, 1) := de_2a tX6_likenessInOrder_8
def tX6_likenessInOrder_9 := Bt_1 (q := 9) tX6_likenessInOrder_8 rfl
theorem dX6_likenessInOrder_9 : decode cX6_likenessInOrder 9 = .ok (.iload_n 2, 1) := de_1c tX6_likenessInOrder_9
def tX6_likenessInOrder_10 := Bt_1 (q := 10) tX6_likenessInOrder_9 rfl
theorem dX6_likenessInOrder_10 : decode cX6_likenessInOrder 10 = .ok (.invokevirtual 15, 3) := de_b6 tX6_likenessInOrder_10 (by decide +kernel)
def tX6_likenessInOrder_13 := Bt_3 (q := 13) tX6_likenessInOrder_10 rfl
theorem dX6_likenessInOrder_13 : decode cX6_likenessInOrder 13 = .ok (.i2l, 1) := de_85 tX6_likenessInOrder_13
def tX6_likenessInOrder_14 := Bt_1 (q := 14) tX6_likenessInOrder_13 rfl
theorem dX6_likenessInOrder_14 : decode cX6_likenessInOrder 14 = .ok (.lstore 8, 2) := de_37 tX6_likenessInOrder_14 (by decide +kernel)
def tX6_likenessInOrder_16 := Bt_2 (q := 16) tX6_likenessInOrder_14 rfl
theorem dX6_likenessInOrder_16 : decode cX6_likenessInOrder 16 = .ok (.iload_n 1, 1) := de_1b tX6_likenessInOrder_16
def tX6_likenessInOrder_17 := Bt_1 (q := 17) tX6_likenessInOrder_16 rfl
theorem dX6_likenessInOrder_17 : decode cX6_likenessInOrder 17 = .ok (.iconst 4, 1) := de_07 tX6_likenessInOrder_17
def tX6_likenessInOrder_18 := Bt_1 (q := 18) tX6_likenessInOrder_17 rfl
theorem dX6_likenessInOrder_18 : decode cX6_likenessInOrder 18 = .ok (.imul, 1) := de_68 tX6_likenessInOrder_18
def tX6_likenessInOrder_19 := Bt_1 (q := 19) tX6_likenessInOrder_18 rfl
theorem dX6_likenessInOrder_19 : decode cX6_likenessInOrder 19 = .ok (.istore 10, 2) := de_36 tX6_likenessInOrder_19 (by decide +kernel)
def tX6_likenessInOrder_21 := Bt_2 (q := 21) tX6_likenessInOrder_19 rfl
theorem dX6_likenessInOrder_21 : decode cX6_likenessInOrder 21 = .ok (.iload_n 2, 1) := de_1c tX6_likenessInOrder_21
def tX6_likenessInOrder_22 := Bt_1 (q := 22) tX6_likenessInOrder_21 rfl
theorem dX6_likenessInOrder_22 : decode cX6_likenessInOrder 22 = .ok (.iconst 4, 1) := de_07 tX6_likenessInOrder_22
def tX6_likenessInOrder_23 := Bt_1 (q := 23) tX6_likenessInOrder_22 rfl
theorem dX6_likenessInOrder_23 : decode cX6_likenessInOrder 23 = .ok (.imul, 1) := de_68 tX6_likenessInOrder_23
def tX6_likenessInOrder_24 := Bt_1 (q := 24) tX6_likenessInOrder_23 rfl
theorem dX6_likenessInOrder_24 : decode cX6_likenessInOrder 24 = .ok (.istore 11, 2) := de_36 tX6_likenessInOrder_24 (by decide +kernel)
def tX6_likenessInOrder_26 := Bt_2 (q := 26) tX6_likenessInOrder_24 rfl
theorem dX6_likenessInOrder_26 : decode cX6_likenessInOrder 26 = .ok (.bipush 6, 2) := de_10 tX6_likenessInOrder_26 (by decide +kernel)
def tX6_likenessInOrder_28 := Bt_2 (q := 28) tX6_likenessInOrder_26 rfl
theorem dX6_likenessInOrder_28 : decode cX6_likenessInOrder 28 = .ok (.iload_n 3, 1) := de_1d tX6_likenessInOrder_28
def tX6_likenessInOrder_29 := Bt_1 (q := 29) tX6_likenessInOrder_28 rfl
theorem dX6_likenessInOrder_29 : decode cX6_likenessInOrder 29 = .ok (.isub, 1) := de_64 tX6_likenessInOrder_29
def tX6_likenessInOrder_30 := Bt_1 (q := 30) tX6_likenessInOrder_29 rfl
theorem dX6_likenessInOrder_30 : decode cX6_likenessInOrder 30 = .ok (.iload 4, 2) := de_15 tX6_likenessInOrder_30 (by decide +kernel)
def tX6_likenessInOrder_32 := Bt_2 (q := 32) tX6_likenessInOrder_30 rfl
theorem dX6_likenessInOrder_32 : decode cX6_likenessInOrder 32 = .ok (.isub, 1) := de_64 tX6_likenessInOrder_32
def tX6_likenessInOrder_33 := Bt_1 (q := 33) tX6_likenessInOrder_32 rfl
theorem dX6_likenessInOrder_33 : decode cX6_likenessInOrder 33 = .ok (.iload 5, 2) := de_15 tX6_likenessInOrder_33 (by decide +kernel)
def tX6_likenessInOrder_35 := Bt_2 (q := 35) tX6_likenessInOrder_33 rfl
theorem dX6_likenessInOrder_35 : decode cX6_likenessInOrder 35 = .ok (.isub, 1) := de_64 tX6_likenessInOrder_35
def tX6_likenessInOrder_36 := Bt_1 (q := 36) tX6_likenessInOrder_35 rfl
theorem dX6_likenessInOrder_36 : decode cX6_likenessInOrder 36 = .ok (.istore 12, 2) := de_36 tX6_likenessInOrder_36 (by decide +kernel)
def tX6_likenessInOrder_38 := Bt_2 (q := 38) tX6_likenessInOrder_36 rfl
theorem dX6_likenessInOrder_38 : decode cX6_likenessInOrder 38 = .ok (.aload_n 0, 1) := de_2a tX6_likenessInOrder_38
def tX6_likenessInOrder_39 := Bt_1 (q := 39) tX6_likenessInOrder_38 rfl
theorem dX6_likenessInOrder_39 : decode cX6_likenessInOrder 39 = .ok (.getfield 21, 3) := de_b4 tX6_likenessInOrder_39 (by decide +kernel)
def tX6_likenessInOrder_42 := Bt_3 (q := 42) tX6_likenessInOrder_39 rfl
theorem dX6_likenessInOrder_42 : decode cX6_likenessInOrder 42 = .ok (.iload 10, 2) := de_15 tX6_likenessInOrder_42 (by decide +kernel)
def tX6_likenessInOrder_44 := Bt_2 (q := 44) tX6_likenessInOrder_42 rfl
theorem dX6_likenessInOrder_44 : decode cX6_likenessInOrder 44 = .ok (.iaload, 1) := de_2e tX6_likenessInOrder_44
def tX6_likenessInOrder_45 := Bt_1 (q := 45) tX6_likenessInOrder_44 rfl
theorem dX6_likenessInOrder_45 : decode cX6_likenessInOrder 45 = .ok (.i2l, 1) := de_85 tX6_likenessInOrder_45
def tX6_likenessInOrder_46 := Bt_1 (q := 46) tX6_likenessInOrder_45 rfl
theorem dX6_likenessInOrder_46 : decode cX6_likenessInOrder 46 = .ok (.lload 8, 2) := de_16 tX6_likenessInOrder_46 (by decide +kernel)
def tX6_likenessInOrder_48 := Bt_2 (q := 48) tX6_likenessInOrder_46 rfl
theorem dX6_likenessInOrder_48 : decode cX6_likenessInOrder 48 = .ok (.lmul, 1) := de_69 tX6_likenessInOrder_48
def tX6_likenessInOrder_49 := Bt_1 (q := 49) tX6_likenessInOrder_48 rfl
theorem dX6_likenessInOrder_49 : decode cX6_likenessInOrder 49 = .ok (.aload_n 0, 1) := de_2a tX6_likenessInOrder_49
def tX6_likenessInOrder_50 := Bt_1 (q := 50) tX6_likenessInOrder_49 rfl
theorem dX6_likenessInOrder_50 : decode cX6_likenessInOrder 50 = .ok (.getfield 21, 3) := de_b4 tX6_likenessInOrder_50 (by decide +kernel)
def tX6_likenessInOrder_53 := Bt_3 (q := 53) tX6_likenessInOrder_50 rfl
theorem dX6_likenessInOrder_53 : decode cX6_likenessInOrder 53 = .ok (.iload 11, 2) := de_15 tX6_likenessInOrder_53 (by decide +kernel)
def tX6_likenessInOrder_55 := Bt_2 (q := 55) tX6_likenessInOrder_53 rfl
theorem dX6_likenessInOrder_55 : decode cX6_likenessInOrder 55 = .ok (.iload_n 3, 1) := de_1d tX6_likenessInOrder_55
def tX6_likenessInOrder_56 := Bt_1 (q := 56) tX6_likenessInOrder_55 rfl
theorem dX6_likenessInOrder_56 : decode cX6_likenessInOrder 56 = .ok (.iadd, 1) := de_60 tX6_likenessInOrder_56
def tX6_likenessInOrder_57 := Bt_1 (q := 57) tX6_likenessInOrder_56 rfl
theorem dX6_likenessInOrder_57 : decode cX6_likenessInOrder 57 = .ok (.iaload, 1) := de_2e tX6_likenessInOrder_57
def tX6_likenessInOrder_58 := Bt_1 (q := 58) tX6_likenessInOrder_57 rfl
theorem dX6_likenessInOrder_58 : decode cX6_likenessInOrder 58 = .ok (.i2l, 1) := de_85 tX6_likenessInOrder_58
def tX6_likenessInOrder_59 := Bt_1 (q := 59) tX6_likenessInOrder_58 rfl
theorem dX6_likenessInOrder_59 : decode cX6_likenessInOrder 59 = .ok (.lload 6, 2) := de_16 tX6_likenessInOrder_59 (by decide +kernel)
def tX6_likenessInOrder_61 := Bt_2 (q := 61) tX6_likenessInOrder_59 rfl
theorem dX6_likenessInOrder_61 : decode cX6_likenessInOrder 61 = .ok (.lmul, 1) := de_69 tX6_likenessInOrder_61
def tX6_likenessInOrder_62 := Bt_1 (q := 62) tX6_likenessInOrder_61 rfl
theorem dX6_likenessInOrder_62 : decode cX6_likenessInOrder 62 = .ok (.lsub, 1) := de_65 tX6_likenessInOrder_62
def tX6_likenessInOrder_63 := Bt_1 (q := 63) tX6_likenessInOrder_62 rfl
theorem dX6_likenessInOrder_63 : decode cX6_likenessInOrder 63 = .ok (.invokestatic 25, 3) := de_b8 tX6_likenessInOrder_63 (by decide +kernel)
def tX6_likenessInOrder_66 := Bt_3 (q := 66) tX6_likenessInOrder_63 rfl
theorem dX6_likenessInOrder_66 : decode cX6_likenessInOrder 66 = .ok (.aload_n 0, 1) := de_2a tX6_likenessInOrder_66
def tX6_likenessInOrder_67 := Bt_1 (q := 67) tX6_likenessInOrder_66 rfl
theorem dX6_likenessInOrder_67 : decode cX6_likenessInOrder 67 = .ok (.getfield 21, 3) := de_b4 tX6_likenessInOrder_67 (by decide +kernel)
def tX6_likenessInOrder_70 := Bt_3 (q := 70) tX6_likenessInOrder_67 rfl
theorem dX6_likenessInOrder_70 : decode cX6_likenessInOrder 70 = .ok (.iload 10, 2) := de_15 tX6_likenessInOrder_70 (by decide +kernel)
def tX6_likenessInOrder_72 := Bt_2 (q := 72) tX6_likenessInOrder_70 rfl
theorem dX6_likenessInOrder_72 : decode cX6_likenessInOrder 72 = .ok (.iconst 1, 1) := de_04 tX6_likenessInOrder_72
def tX6_likenessInOrder_73 := Bt_1 (q := 73) tX6_likenessInOrder_72 rfl
theorem dX6_likenessInOrder_73 : decode cX6_likenessInOrder 73 = .ok (.iadd, 1) := de_60 tX6_likenessInOrder_73
def tX6_likenessInOrder_74 := Bt_1 (q := 74) tX6_likenessInOrder_73 rfl
theorem dX6_likenessInOrder_74 : decode cX6_likenessInOrder 74 = .ok (.iaload, 1) := de_2e tX6_likenessInOrder_74
def tX6_likenessInOrder_75 := Bt_1 (q := 75) tX6_likenessInOrder_74 rfl
theorem dX6_likenessInOrder_75 : decode cX6_likenessInOrder 75 = .ok (.i2l, 1) := de_85 tX6_likenessInOrder_75
def tX6_likenessInOrder_76 := Bt_1 (q := 76) tX6_likenessInOrder_75 rfl
theorem dX6_likenessInOrder_76 : decode cX6_likenessInOrder 76 = .ok (.lload 8, 2) := de_16 tX6_likenessInOrder_76 (by decide +kernel)
def tX6_likenessInOrder_78 := Bt_2 (q := 78) tX6_likenessInOrder_76 rfl
theorem dX6_likenessInOrder_78 : decode cX6_likenessInOrder 78 = .ok (.lmul, 1) := de_69 tX6_likenessInOrder_78
def tX6_likenessInOrder_79 := Bt_1 (q := 79) tX6_likenessInOrder_78 rfl
theorem dX6_likenessInOrder_79 : decode cX6_likenessInOrder 79 = .ok (.aload_n 0, 1) := de_2a tX6_likenessInOrder_79
def tX6_likenessInOrder_80 := Bt_1 (q := 80) tX6_likenessInOrder_79 rfl
theorem dX6_likenessInOrder_80 : decode cX6_likenessInOrder 80 = .ok (.getfield 21, 3) := de_b4 tX6_likenessInOrder_80 (by decide +kernel)
def tX6_likenessInOrder_83 := Bt_3 (q := 83) tX6_likenessInOrder_80 rfl
theorem dX6_likenessInOrder_83 : decode cX6_likenessInOrder 83 = .ok (.iload 11, 2) := de_15 tX6_likenessInOrder_83 (by decide +kernel)
def tX6_likenessInOrder_85 := Bt_2 (q := 85) tX6_likenessInOrder_83 rfl
theorem dX6_likenessInOrder_85 : decode cX6_likenessInOrder 85 = .ok (.iload 4, 2) := de_15 tX6_likenessInOrder_85 (by decide +kernel)
def tX6_likenessInOrder_87 := Bt_2 (q := 87) tX6_likenessInOrder_85 rfl
theorem dX6_likenessInOrder_87 : decode cX6_likenessInOrder 87 = .ok (.iadd, 1) := de_60 tX6_likenessInOrder_87
def tX6_likenessInOrder_88 := Bt_1 (q := 88) tX6_likenessInOrder_87 rfl
theorem dX6_likenessInOrder_88 : decode cX6_likenessInOrder 88 = .ok (.iaload, 1) := de_2e tX6_likenessInOrder_88
def tX6_likenessInOrder_89 := Bt_1 (q := 89) tX6_likenessInOrder_88 rfl
theorem dX6_likenessInOrder_89 : decode cX6_likenessInOrder 89 = .ok (.i2l, 1) := de_85 tX6_likenessInOrder_89
def tX6_likenessInOrder_90 := Bt_1 (q := 90) tX6_likenessInOrder_89 rfl
theorem dX6_likenessInOrder_90 : decode cX6_likenessInOrder 90 = .ok (.lload 6, 2) := de_16 tX6_likenessInOrder_90 (by decide +kernel)
def tX6_likenessInOrder_92 := Bt_2 (q := 92) tX6_likenessInOrder_90 rfl
theorem dX6_likenessInOrder_92 : decode cX6_likenessInOrder 92 = .ok (.lmul, 1) := de_69 tX6_likenessInOrder_92
def tX6_likenessInOrder_93 := Bt_1 (q := 93) tX6_likenessInOrder_92 rfl
theorem dX6_likenessInOrder_93 : decode cX6_likenessInOrder 93 = .ok (.lsub, 1) := de_65 tX6_likenessInOrder_93
def tX6_likenessInOrder_94 := Bt_1 (q := 94) tX6_likenessInOrder_93 rfl
theorem dX6_likenessInOrder_94 : decode cX6_likenessInOrder 94 = .ok (.invokestatic 25, 3) := de_b8 tX6_likenessInOrder_94 (by decide +kernel)
def tX6_likenessInOrder_97 := Bt_3 (q := 97) tX6_likenessInOrder_94 rfl
theorem dX6_likenessInOrder_97 : decode cX6_likenessInOrder 97 = .ok (.ladd, 1) := de_61 tX6_likenessInOrder_97
def tX6_likenessInOrder_98 := Bt_1 (q := 98) tX6_likenessInOrder_97 rfl
theorem dX6_likenessInOrder_98 : decode cX6_likenessInOrder 98 = .ok (.aload_n 0, 1) := de_2a tX6_likenessInOrder_98
def tX6_likenessInOrder_99 := Bt_1 (q := 99) tX6_likenessInOrder_98 rfl
theorem dX6_likenessInOrder_99 : decode cX6_likenessInOrder 99 = .ok (.getfield 21, 3) := de_b4 tX6_likenessInOrder_99 (by decide +kernel)
def tX6_likenessInOrder_102 := Bt_3 (q := 102) tX6_likenessInOrder_99 rfl
theorem dX6_likenessInOrder_102 : decode cX6_likenessInOrder 102 = .ok (.iload 10, 2) := de_15 tX6_likenessInOrder_102 (by decide +kernel)
def tX6_likenessInOrder_104 := Bt_2 (q := 104) tX6_likenessInOrder_102 rfl
theorem dX6_likenessInOrder_104 : decode cX6_likenessInOrder 104 = .ok (.iconst 2, 1) := de_05 tX6_likenessInOrder_104
def tX6_likenessInOrder_105 := Bt_1 (q := 105) tX6_likenessInOrder_104 rfl
theorem dX6_likenessInOrder_105 : decode cX6_likenessInOrder 105 = .ok (.iadd, 1) := de_60 tX6_likenessInOrder_105
def tX6_likenessInOrder_106 := Bt_1 (q := 106) tX6_likenessInOrder_105 rfl
theorem dX6_likenessInOrder_106 : decode cX6_likenessInOrder 106 = .ok (.iaload, 1) := de_2e tX6_likenessInOrder_106
def tX6_likenessInOrder_107 := Bt_1 (q := 107) tX6_likenessInOrder_106 rfl
theorem dX6_likenessInOrder_107 : decode cX6_likenessInOrder 107 = .ok (.i2l, 1) := de_85 tX6_likenessInOrder_107
def tX6_likenessInOrder_108 := Bt_1 (q := 108) tX6_likenessInOrder_107 rfl
theorem dX6_likenessInOrder_108 : decode cX6_likenessInOrder 108 = .ok (.lload 8, 2) := de_16 tX6_likenessInOrder_108 (by decide +kernel)
def tX6_likenessInOrder_110 := Bt_2 (q := 110) tX6_likenessInOrder_108 rfl
theorem dX6_likenessInOrder_110 : decode cX6_likenessInOrder 110 = .ok (.lmul, 1) := de_69 tX6_likenessInOrder_110
def tX6_likenessInOrder_111 := Bt_1 (q := 111) tX6_likenessInOrder_110 rfl
theorem dX6_likenessInOrder_111 : decode cX6_likenessInOrder 111 = .ok (.aload_n 0, 1) := de_2a tX6_likenessInOrder_111
def tX6_likenessInOrder_112 := Bt_1 (q := 112) tX6_likenessInOrder_111 rfl
theorem dX6_likenessInOrder_112 : decode cX6_likenessInOrder 112 = .ok (.getfield 21, 3) := de_b4 tX6_likenessInOrder_112 (by decide +kernel)
def tX6_likenessInOrder_115 := Bt_3 (q := 115) tX6_likenessInOrder_112 rfl
theorem dX6_likenessInOrder_115 : decode cX6_likenessInOrder 115 = .ok (.iload 11, 2) := de_15 tX6_likenessInOrder_115 (by decide +kernel)
def tX6_likenessInOrder_117 := Bt_2 (q := 117) tX6_likenessInOrder_115 rfl
theorem dX6_likenessInOrder_117 : decode cX6_likenessInOrder 117 = .ok (.iload 5, 2) := de_15 tX6_likenessInOrder_117 (by decide +kernel)
def tX6_likenessInOrder_119 := Bt_2 (q := 119) tX6_likenessInOrder_117 rfl
theorem dX6_likenessInOrder_119 : decode cX6_likenessInOrder 119 = .ok (.iadd, 1) := de_60 tX6_likenessInOrder_119
def tX6_likenessInOrder_120 := Bt_1 (q := 120) tX6_likenessInOrder_119 rfl
theorem dX6_likenessInOrder_120 : decode cX6_likenessInOrder 120 = .ok (.iaload, 1) := de_2e tX6_likenessInOrder_120
def tX6_likenessInOrder_121 := Bt_1 (q := 121) tX6_likenessInOrder_120 rfl
theorem dX6_likenessInOrder_121 : decode cX6_likenessInOrder 121 = .ok (.i2l, 1) := de_85 tX6_likenessInOrder_121
def tX6_likenessInOrder_122 := Bt_1 (q := 122) tX6_likenessInOrder_121 rfl
theorem dX6_likenessInOrder_122 : decode cX6_likenessInOrder 122 = .ok (.lload 6, 2) := de_16 tX6_likenessInOrder_122 (by decide +kernel)
def tX6_likenessInOrder_124 := Bt_2 (q := 124) tX6_likenessInOrder_122 rfl
theorem dX6_likenessInOrder_124 : decode cX6_likenessInOrder 124 = .ok (.lmul, 1) := de_69 tX6_likenessInOrder_124
def tX6_likenessInOrder_125 := Bt_1 (q := 125) tX6_likenessInOrder_124 rfl
theorem dX6_likenessInOrder_125 : decode cX6_likenessInOrder 125 = .ok (.lsub, 1) := de_65 tX6_likenessInOrder_125
def tX6_likenessInOrder_126 := Bt_1 (q := 126) tX6_likenessInOrder_125 rfl
theorem dX6_likenessInOrder_126 : decode cX6_likenessInOrder 126 = .ok (.invokestatic 25, 3) := de_b8 tX6_likenessInOrder_126 (by decide +kernel)
def tX6_likenessInOrder_129 := Bt_3 (q := 129) tX6_likenessInOrder_126 rfl
theorem dX6_likenessInOrder_129 : decode cX6_likenessInOrder 129 = .ok (.ladd, 1) := de_61 tX6_likenessInOrder_129
def tX6_likenessInOrder_130 := Bt_1 (q := 130) tX6_likenessInOrder_129 rfl
theorem dX6_likenessInOrder_130 : decode cX6_likenessInOrder 130 = .ok (.aload_n 0, 1) := de_2a tX6_likenessInOrder_130
def tX6_likenessInOrder_131 := Bt_1 (q := 131) tX6_likenessInOrder_130 rfl
theorem dX6_likenessInOrder_131 : decode cX6_likenessInOrder 131 = .ok (.getfield 21, 3) := de_b4 tX6_likenessInOrder_131 (by decide +kernel)
def tX6_likenessInOrder_134 := Bt_3 (q := 134) tX6_likenessInOrder_131 rfl
theorem dX6_likenessInOrder_134 : decode cX6_likenessInOrder 134 = .ok (.iload 10, 2) := de_15 tX6_likenessInOrder_134 (by decide +kernel)
def tX6_likenessInOrder_136 := Bt_2 (q := 136) tX6_likenessInOrder_134 rfl
theorem dX6_likenessInOrder_136 : decode cX6_likenessInOrder 136 = .ok (.iconst 3, 1) := de_06 tX6_likenessInOrder_136
def tX6_likenessInOrder_137 := Bt_1 (q := 137) tX6_likenessInOrder_136 rfl
theorem dX6_likenessInOrder_137 : decode cX6_likenessInOrder 137 = .ok (.iadd, 1) := de_60 tX6_likenessInOrder_137
def tX6_likenessInOrder_138 := Bt_1 (q := 138) tX6_likenessInOrder_137 rfl
theorem dX6_likenessInOrder_138 : decode cX6_likenessInOrder 138 = .ok (.iaload, 1) := de_2e tX6_likenessInOrder_138
def tX6_likenessInOrder_139 := Bt_1 (q := 139) tX6_likenessInOrder_138 rfl
theorem dX6_likenessInOrder_139 : decode cX6_likenessInOrder 139 = .ok (.i2l, 1) := de_85 tX6_likenessInOrder_139
def tX6_likenessInOrder_140 := Bt_1 (q := 140) tX6_likenessInOrder_139 rfl
theorem dX6_likenessInOrder_140 : decode cX6_likenessInOrder 140 = .ok (.lload 8, 2) := de_16 tX6_likenessInOrder_140 (by decide +kernel)
def tX6_likenessInOrder_142 := Bt_2 (q := 142) tX6_likenessInOrder_140 rfl
theorem dX6_likenessInOrder_142 : decode cX6_likenessInOrder 142 = .ok (.lmul, 1) := de_69 tX6_likenessInOrder_142
def tX6_likenessInOrder_143 := Bt_1 (q := 143) tX6_likenessInOrder_142 rfl
theorem dX6_likenessInOrder_143 : decode cX6_likenessInOrder 143 = .ok (.aload_n 0, 1) := de_2a tX6_likenessInOrder_143
def tX6_likenessInOrder_144 := Bt_1 (q := 144) tX6_likenessInOrder_143 rfl
theorem dX6_likenessInOrder_144 : decode cX6_likenessInOrder 144 = .ok (.getfield 21, 3) := de_b4 tX6_likenessInOrder_144 (by decide +kernel)
def tX6_likenessInOrder_147 := Bt_3 (q := 147) tX6_likenessInOrder_144 rfl
theorem dX6_likenessInOrder_147 : decode cX6_likenessInOrder 147 = .ok (.iload 11, 2) := de_15 tX6_likenessInOrder_147 (by decide +kernel)
def tX6_likenessInOrder_149 := Bt_2 (q := 149) tX6_likenessInOrder_147 rfl
theorem dX6_likenessInOrder_149 : decode cX6_likenessInOrder 149 = .ok (.iload 12, 2) := de_15 tX6_likenessInOrder_149 (by decide +kernel)
def tX6_likenessInOrder_151 := Bt_2 (q := 151) tX6_likenessInOrder_149 rfl
theorem dX6_likenessInOrder_151 : decode cX6_likenessInOrder 151 = .ok (.iadd, 1) := de_60 tX6_likenessInOrder_151
def tX6_likenessInOrder_152 := Bt_1 (q := 152) tX6_likenessInOrder_151 rfl
theorem dX6_likenessInOrder_152 : decode cX6_likenessInOrder 152 = .ok (.iaload, 1) := de_2e tX6_likenessInOrder_152
def tX6_likenessInOrder_153 := Bt_1 (q := 153) tX6_likenessInOrder_152 rfl
theorem dX6_likenessInOrder_153 : decode cX6_likenessInOrder 153 = .ok (.i2l, 1) := de_85 tX6_likenessInOrder_153
def tX6_likenessInOrder_154 := Bt_1 (q := 154) tX6_likenessInOrder_153 rfl
theorem dX6_likenessInOrder_154 : decode cX6_likenessInOrder 154 = .ok (.lload 6, 2) := de_16 tX6_likenessInOrder_154 (by decide +kernel)
def tX6_likenessInOrder_156 := Bt_2 (q := 156) tX6_likenessInOrder_154 rfl
theorem dX6_likenessInOrder_156 : decode cX6_likenessInOrder 156 = .ok (.lmul, 1) := de_69 tX6_likenessInOrder_156
def tX6_likenessInOrder_157 := Bt_1 (q := 157) tX6_likenessInOrder_156 rfl
theorem dX6_likenessInOrder_157 : decode cX6_likenessInOrder 157 = .ok (.lsub, 1) := de_65 tX6_likenessInOrder_157
def tX6_likenessInOrder_158 := Bt_1 (q := 158) tX6_likenessInOrder_157 rfl
theorem dX6_likenessInOrder_158 : decode cX6_likenessInOrder 158 = .ok (.invokestatic 25, 3) := de_b8 tX6_likenessInOrder_158 (by decide +kernel)
def tX6_likenessInOrder_161 := Bt_3 (q := 161) tX6_likenessInOrder_158 rfl
theorem dX6_likenessInOrder_161 : decode cX6_likenessInOrder 161 = .ok (.ladd, 1) := de_61 tX6_likenessInOrder_161
def tX6_likenessInOrder_162 := Bt_1 (q := 162) tX6_likenessInOrder_161 rfl
theorem dX6_likenessInOrder_162 : decode cX6_likenessInOrder 162 = .ok (.lreturn, 1) := de_ad tX6_likenessInOrder_162
def tX6_chanceOf_0 := Bt_0 cX6_chanceOf
theorem dX6_chanceOf_0 : decode cX6_chanceOf 0 = .ok (.aload_n 0, 1) := de_2a tX6_chanceOf_0
def tX6_chanceOf_1 := Bt_1 (q := 1) tX6_chanceOf_0 rfl
theorem dX6_chanceOf_1 : decode cX6_chanceOf 1 = .ok (.iload_n 1, 1) := de_1b tX6_chanceOf_1
def tX6_chanceOf_2 := Bt_1 (q := 2) tX6_chanceOf_1 rfl
theorem dX6_chanceOf_2 : decode cX6_chanceOf 2 = .ok (.iload_n 2, 1) := de_1c tX6_chanceOf_2
def tX6_chanceOf_3 := Bt_1 (q := 3) tX6_chanceOf_2 rfl
theorem dX6_chanceOf_3 : decode cX6_chanceOf 3 = .ok (.invokestatic 31, 3) := de_b8 tX6_chanceOf_3 (by decide +kernel)
def tX6_chanceOf_6 := Bt_3 (q := 6) tX6_chanceOf_3 rfl
theorem dX6_chanceOf_6 : decode cX6_chanceOf 6 = .ok (.lstore_n 3, 1) := de_42 tX6_chanceOf_6
def tX6_chanceOf_7 := Bt_1 (q := 7) tX6_chanceOf_6 rfl
theorem dX6_chanceOf_7 : decode cX6_chanceOf 7 = .ok (.iconst 0, 1) := de_03 tX6_chanceOf_7
def tX6_chanceOf_8 := Bt_1 (q := 8) tX6_chanceOf_7 rfl
theorem dX6_chanceOf_8 : decode cX6_chanceOf 8 = .ok (.istore 5, 2) := de_36 tX6_chanceOf_8 (by decide +kernel)
def tX6_chanceOf_10 := Bt_2 (q := 10) tX6_chanceOf_8 rfl
theorem dX6_chanceOf_10 : decode cX6_chanceOf 10 = .ok (.iconst 0, 1) := de_03 tX6_chanceOf_10
def tX6_chanceOf_11 := Bt_1 (q := 11) tX6_chanceOf_10 rfl
theorem dX6_chanceOf_11 : decode cX6_chanceOf 11 = .ok (.istore 6, 2) := de_36 tX6_chanceOf_11 (by decide +kernel)
def tX6_chanceOf_13 := Bt_2 (q := 13) tX6_chanceOf_11 rfl
theorem dX6_chanceOf_13 : decode cX6_chanceOf 13 = .ok (.iload 6, 2) := de_15 tX6_chanceOf_13 (by decide +kernel)
def tX6_chanceOf_15 := Bt_2 (q := 15) tX6_chanceOf_13 rfl
theorem dX6_chanceOf_15 : decode cX6_chanceOf 15 = .ok (.iconst 4, 1) := de_07 tX6_chanceOf_15
def tX6_chanceOf_16 := Bt_1 (q := 16) tX6_chanceOf_15 rfl
theorem dX6_chanceOf_16 : decode cX6_chanceOf 16 = .ok (.if_icmp .ge 92, 3) := de_a2 tX6_chanceOf_16 (by decide +kernel)
def tX6_chanceOf_19 := Bt_3 (q := 19) tX6_chanceOf_16 rfl
theorem dX6_chanceOf_19 : decode cX6_chanceOf 19 = .ok (.iconst 0, 1) := de_03 tX6_chanceOf_19
def tX6_chanceOf_20 := Bt_1 (q := 20) tX6_chanceOf_19 rfl
theorem dX6_chanceOf_20 : decode cX6_chanceOf 20 = .ok (.istore 7, 2) := de_36 tX6_chanceOf_20 (by decide +kernel)
def tX6_chanceOf_22 := Bt_2 (q := 22) tX6_chanceOf_20 rfl
theorem dX6_chanceOf_22 : decode cX6_chanceOf 22 = .ok (.iload 7, 2) := de_15 tX6_chanceOf_22 (by decide +kernel)
def tX6_chanceOf_24 := Bt_2 (q := 24) tX6_chanceOf_22 rfl
theorem dX6_chanceOf_24 : decode cX6_chanceOf 24 = .ok (.iconst 4, 1) := de_07 tX6_chanceOf_24
def tX6_chanceOf_25 := Bt_1 (q := 25) tX6_chanceOf_24 rfl
theorem dX6_chanceOf_25 : decode cX6_chanceOf 25 = .ok (.if_icmp .ge 77, 3) := de_a2 tX6_chanceOf_25 (by decide +kernel)
def tX6_chanceOf_28 := Bt_3 (q := 28) tX6_chanceOf_25 rfl
theorem dX6_chanceOf_28 : decode cX6_chanceOf 28 = .ok (.iconst 0, 1) := de_03 tX6_chanceOf_28
def tX6_chanceOf_29 := Bt_1 (q := 29) tX6_chanceOf_28 rfl
theorem dX6_chanceOf_29 : decode cX6_chanceOf 29 = .ok (.istore 8, 2) := de_36 tX6_chanceOf_29 (by decide +kernel)
def tX6_chanceOf_31 := Bt_2 (q := 31) tX6_chanceOf_29 rfl
theorem dX6_chanceOf_31 : decode cX6_chanceOf 31 = .ok (.iload 8, 2) := de_15 tX6_chanceOf_31 (by decide +kernel)
def tX6_chanceOf_33 := Bt_2 (q := 33) tX6_chanceOf_31 rfl
theorem dX6_chanceOf_33 : decode cX6_chanceOf 33 = .ok (.iconst 4, 1) := de_07 tX6_chanceOf_33
def tX6_chanceOf_34 := Bt_1 (q := 34) tX6_chanceOf_33 rfl
theorem dX6_chanceOf_34 : decode cX6_chanceOf 34 = .ok (.if_icmp .ge 62, 3) := de_a2 tX6_chanceOf_34 (by decide +kernel)
def tX6_chanceOf_37 := Bt_3 (q := 37) tX6_chanceOf_34 rfl
theorem dX6_chanceOf_37 : decode cX6_chanceOf 37 = .ok (.iload 6, 2) := de_15 tX6_chanceOf_37 (by decide +kernel)
def tX6_chanceOf_39 := Bt_2 (q := 39) tX6_chanceOf_37 rfl
theorem dX6_chanceOf_39 : decode cX6_chanceOf 39 = .ok (.iload 7, 2) := de_15 tX6_chanceOf_39 (by decide +kernel)
def tX6_chanceOf_41 := Bt_2 (q := 41) tX6_chanceOf_39 rfl
theorem dX6_chanceOf_41 : decode cX6_chanceOf 41 = .ok (.if_icmp .eq 21, 3) := de_9f tX6_chanceOf_41 (by decide +kernel)
def tX6_chanceOf_44 := Bt_3 (q := 44) tX6_chanceOf_41 rfl
theorem dX6_chanceOf_44 : decode cX6_chanceOf 44 = .ok (.iload 6, 2) := de_15 tX6_chanceOf_44 (by decide +kernel)
def tX6_chanceOf_46 := Bt_2 (q := 46) tX6_chanceOf_44 rfl
theorem dX6_chanceOf_46 : decode cX6_chanceOf 46 = .ok (.iload 8, 2) := de_15 tX6_chanceOf_46 (by decide +kernel)
def tX6_chanceOf_48 := Bt_2 (q := 48) tX6_chanceOf_46 rfl
theorem dX6_chanceOf_48 : decode cX6_chanceOf 48 = .ok (.if_icmp .eq 14, 3) := de_9f tX6_chanceOf_48 (by decide +kernel)
def tX6_chanceOf_51 := Bt_3 (q := 51) tX6_chanceOf_48 rfl
theorem dX6_chanceOf_51 : decode cX6_chanceOf 51 = .ok (.iload 7, 2) := de_15 tX6_chanceOf_51 (by decide +kernel)
def tX6_chanceOf_53 := Bt_2 (q := 53) tX6_chanceOf_51 rfl
theorem dX6_chanceOf_53 : decode cX6_chanceOf 53 = .ok (.iload 8, 2) := de_15 tX6_chanceOf_53 (by decide +kernel)
def tX6_chanceOf_55 := Bt_2 (q := 55) tX6_chanceOf_53 rfl
theorem dX6_chanceOf_55 : decode cX6_chanceOf 55 = .ok (.if_icmp .eq 7, 3) := de_9f tX6_chanceOf_55 (by decide +kernel)
def tX6_chanceOf_58 := Bt_3 (q := 58) tX6_chanceOf_55 rfl
theorem dX6_chanceOf_58 : decode cX6_chanceOf 58 = .ok (.iconst 1, 1) := de_04 tX6_chanceOf_58
def tX6_chanceOf_59 := Bt_1 (q := 59) tX6_chanceOf_58 rfl
theorem dX6_chanceOf_59 : decode cX6_chanceOf 59 = .ok (.goto 4, 3) := de_a7 tX6_chanceOf_59 (by decide +kernel)
def tX6_chanceOf_62 := Bt_3 (q := 62) tX6_chanceOf_59 rfl
theorem dX6_chanceOf_62 : decode cX6_chanceOf 62 = .ok (.iconst 0, 1) := de_03 tX6_chanceOf_62
def tX6_chanceOf_63 := Bt_1 (q := 63) tX6_chanceOf_62 rfl
theorem dX6_chanceOf_63 : decode cX6_chanceOf 63 = .ok (.istore 9, 2) := de_36 tX6_chanceOf_63 (by decide +kernel)
def tX6_chanceOf_65 := Bt_2 (q := 65) tX6_chanceOf_63 rfl
theorem dX6_chanceOf_65 : decode cX6_chanceOf 65 = .ok (.iload 9, 2) := de_15 tX6_chanceOf_65 (by decide +kernel)
def tX6_chanceOf_67 := Bt_2 (q := 67) tX6_chanceOf_65 rfl
theorem dX6_chanceOf_67 : decode cX6_chanceOf 67 = .ok (.ifCond .eq 23, 3) := de_99 tX6_chanceOf_67 (by decide +kernel)
def tX6_chanceOf_70 := Bt_3 (q := 70) tX6_chanceOf_67 rfl
theorem dX6_chanceOf_70 : decode cX6_chanceOf 70 = .ok (.aload_n 0, 1) := de_2a tX6_chanceOf_70
def tX6_chanceOf_71 := Bt_1 (q := 71) tX6_chanceOf_70 rfl
theorem dX6_chanceOf_71 : decode cX6_chanceOf 71 = .ok (.iload_n 1, 1) := de_1b tX6_chanceOf_71
def tX6_chanceOf_72 := Bt_1 (q := 72) tX6_chanceOf_71 rfl
theorem dX6_chanceOf_72 : decode cX6_chanceOf 72 = .ok (.iload_n 2, 1) := de_1c tX6_chanceOf_72
def tX6_chanceOf_73 := Bt_1 (q := 73) tX6_chanceOf_72 rfl
theorem dX6_chanceOf_73 : decode cX6_chanceOf 73 = .ok (.iload 6, 2) := de_15 tX6_chanceOf_73 (by decide +kernel)
def tX6_chanceOf_75 := Bt_2 (q := 75) tX6_chanceOf_73 rfl
theorem dX6_chanceOf_75 : decode cX6_chanceOf 75 = .ok (.iload 7, 2) := de_15 tX6_chanceOf_75 (by decide +kernel)
def tX6_chanceOf_77 := Bt_2 (q := 77) tX6_chanceOf_75 rfl
theorem dX6_chanceOf_77 : decode cX6_chanceOf 77 = .ok (.iload 8, 2) := de_15 tX6_chanceOf_77 (by decide +kernel)
def tX6_chanceOf_79 := Bt_2 (q := 79) tX6_chanceOf_77 rfl
theorem dX6_chanceOf_79 : decode cX6_chanceOf 79 = .ok (.invokestatic 9, 3) := de_b8 tX6_chanceOf_79 (by decide +kernel)
def tX6_chanceOf_82 := Bt_3 (q := 82) tX6_chanceOf_79 rfl
theorem dX6_chanceOf_82 : decode cX6_chanceOf 82 = .ok (.lload_n 3, 1) := de_21 tX6_chanceOf_82
def tX6_chanceOf_83 := Bt_1 (q := 83) tX6_chanceOf_82 rfl
theorem dX6_chanceOf_83 : decode cX6_chanceOf 83 = .ok (.lcmp, 1) := de_94 tX6_chanceOf_83
def tX6_chanceOf_84 := Bt_1 (q := 84) tX6_chanceOf_83 rfl
theorem dX6_chanceOf_84 : decode cX6_chanceOf 84 = .ok (.ifCond .gt 6, 3) := de_9d tX6_chanceOf_84 (by decide +kernel)
def tX6_chanceOf_87 := Bt_3 (q := 87) tX6_chanceOf_84 rfl
theorem dX6_chanceOf_87 : decode cX6_chanceOf 87 = .ok (.iinc 5 1, 3) := de_84 tX6_chanceOf_87 (by decide +kernel) (by decide +kernel)
def tX6_chanceOf_90 := Bt_3 (q := 90) tX6_chanceOf_87 rfl
theorem dX6_chanceOf_90 : decode cX6_chanceOf 90 = .ok (.iinc 8 1, 3) := de_84 tX6_chanceOf_90 (by decide +kernel) (by decide +kernel)
def tX6_chanceOf_93 := Bt_3 (q := 93) tX6_chanceOf_90 rfl
theorem dX6_chanceOf_93 : decode cX6_chanceOf 93 = .ok (.goto (-62), 3) := de_a7 tX6_chanceOf_93 (by decide +kernel)
def tX6_chanceOf_96 := Bt_3 (q := 96) tX6_chanceOf_93 rfl
theorem dX6_chanceOf_96 : decode cX6_chanceOf 96 = .ok (.iinc 7 1, 3) := de_84 tX6_chanceOf_96 (by decide +kernel) (by decide +kernel)
def tX6_chanceOf_99 := Bt_3 (q := 99) tX6_chanceOf_96 rfl
theorem dX6_chanceOf_99 : decode cX6_chanceOf 99 = .ok (.goto (-77), 3) := de_a7 tX6_chanceOf_99 (by decide +kernel)
def tX6_chanceOf_102 := Bt_3 (q := 102) tX6_chanceOf_99 rfl
theorem dX6_chanceOf_102 : decode cX6_chanceOf 102 = .ok (.iinc 6 1, 3) := de_84 tX6_chanceOf_102 (by decide +kernel) (by decide +kernel)
def tX6_chanceOf_105 := Bt_3 (q := 105) tX6_chanceOf_102 rfl
theorem dX6_chanceOf_105 : decode cX6_chanceOf 105 = .ok (.goto (-92), 3) := de_a7 tX6_chanceOf_105 (by decide +kernel)
def tX6_chanceOf_108 := Bt_3 (q := 108) tX6_chanceOf_105 rfl
theorem dX6_chanceOf_108 : decode cX6_chanceOf 108 = .ok (.iload 5, 2) := de_15 tX6_chanceOf_108 (by decide +kernel)
def tX6_chanceOf_110 := Bt_2 (q := 110) tX6_chanceOf_108 rfl
theorem dX6_chanceOf_110 : decode cX6_chanceOf 110 = .ok (.ireturn, 1) := de_ac tX6_chanceOf_110
def tX6_areJoined_0 := Bt_0 cX6_areJoined
theorem dX6_areJoined_0 : decode cX6_areJoined 0 = .ok (.aload_n 0, 1) := de_2a tX6_areJoined_0
def tX6_areJoined_1 := Bt_1 (q := 1) tX6_areJoined_0 rfl
theorem dX6_areJoined_1 : decode cX6_areJoined 1 = .ok (.iload_n 1, 1) := de_1b tX6_areJoined_1
def tX6_areJoined_2 := Bt_1 (q := 2) tX6_areJoined_1 rfl
theorem dX6_areJoined_2 : decode cX6_areJoined 2 = .ok (.iload_n 2, 1) := de_1c tX6_areJoined_2
def tX6_areJoined_3 := Bt_1 (q := 3) tX6_areJoined_2 rfl
theorem dX6_areJoined_3 : decode cX6_areJoined 3 = .ok (.invokestatic 31, 3) := de_b8 tX6_areJoined_3 (by decide +kernel)
def tX6_areJoined_6 := Bt_3 (q := 6) tX6_areJoined_3 rfl
theorem dX6_areJoined_6 : decode cX6_areJoined 6 = .ok (.lstore_n 3, 1) := de_42 tX6_areJoined_6
def tX6_areJoined_7 := Bt_1 (q := 7) tX6_areJoined_6 rfl
theorem dX6_areJoined_7 : decode cX6_areJoined 7 = .ok (.aload_n 0, 1) := de_2a tX6_areJoined_7
def tX6_areJoined_8 := Bt_1 (q := 8) tX6_areJoined_7 rfl
theorem dX6_areJoined_8 : decode cX6_areJoined 8 = .ok (.iload_n 1, 1) := de_1b tX6_areJoined_8
def tX6_areJoined_9 := Bt_1 (q := 9) tX6_areJoined_8 rfl
theorem dX6_areJoined_9 : decode cX6_areJoined 9 = .ok (.invokevirtual 15, 3) := de_b6 tX6_areJoined_9 (by decide +kernel)
def tX6_areJoined_12 := Bt_3 (q := 12) tX6_areJoined_9 rfl
theorem dX6_areJoined_12 : decode cX6_areJoined 12 = .ok (.i2l, 1) := de_85 tX6_areJoined_12
def tX6_areJoined_13 := Bt_1 (q := 13) tX6_areJoined_12 rfl
theorem dX6_areJoined_13 : decode cX6_areJoined 13 = .ok (.aload_n 0, 1) := de_2a tX6_areJoined_13
def tX6_areJoined_14 := Bt_1 (q := 14) tX6_areJoined_13 rfl
theorem dX6_areJoined_14 : decode cX6_areJoined 14 = .ok (.iload_n 2, 1) := de_1c tX6_areJoined_14
def tX6_areJoined_15 := Bt_1 (q := 15) tX6_areJoined_14 rfl
theorem dX6_areJoined_15 : decode cX6_areJoined 15 = .ok (.invokevirtual 15, 3) := de_b6 tX6_areJoined_15 (by decide +kernel)
def tX6_areJoined_18 := Bt_3 (q := 18) tX6_areJoined_15 rfl
theorem dX6_areJoined_18 : decode cX6_areJoined 18 = .ok (.i2l, 1) := de_85 tX6_areJoined_18
def tX6_areJoined_19 := Bt_1 (q := 19) tX6_areJoined_18 rfl
theorem dX6_areJoined_19 : decode cX6_areJoined 19 = .ok (.lmul, 1) := de_69 tX6_areJoined_19
def tX6_areJoined_20 := Bt_1 (q := 20) tX6_areJoined_19 rfl
theorem dX6_areJoined_20 : decode cX6_areJoined 20 = .ok (.lstore 5, 2) := de_37 tX6_areJoined_20 (by decide +kernel)
def tX6_areJoined_22 := Bt_2 (q := 22) tX6_areJoined_20 rfl
theorem dX6_areJoined_22 : decode cX6_areJoined 22 = .ok (.lload_n 3, 1) := de_21 tX6_areJoined_22
def tX6_areJoined_23 := Bt_1 (q := 23) tX6_areJoined_22 rfl
theorem dX6_areJoined_23 : decode cX6_areJoined 23 = .ok (.ldc2_w 35, 3) := de_14 tX6_areJoined_23 (by decide +kernel)
def tX6_areJoined_26 := Bt_3 (q := 26) tX6_areJoined_23 rfl
theorem dX6_areJoined_26 : decode cX6_areJoined 26 = .ok (.lmul, 1) := de_69 tX6_areJoined_26
def tX6_areJoined_27 := Bt_1 (q := 27) tX6_areJoined_26 rfl
theorem dX6_areJoined_27 : decode cX6_areJoined 27 = .ok (.lload 5, 2) := de_16 tX6_areJoined_27 (by decide +kernel)
def tX6_areJoined_29 := Bt_2 (q := 29) tX6_areJoined_27 rfl
theorem dX6_areJoined_29 : decode cX6_areJoined 29 = .ok (.lcmp, 1) := de_94 tX6_areJoined_29
def tX6_areJoined_30 := Bt_1 (q := 30) tX6_areJoined_29 rfl
theorem dX6_areJoined_30 : decode cX6_areJoined 30 = .ok (.ifCond .le 5, 3) := de_9e tX6_areJoined_30 (by decide +kernel)
def tX6_areJoined_33 := Bt_3 (q := 33) tX6_areJoined_30 rfl
theorem dX6_areJoined_33 : decode cX6_areJoined 33 = .ok (.iconst 0, 1) := de_03 tX6_areJoined_33
def tX6_areJoined_34 := Bt_1 (q := 34) tX6_areJoined_33 rfl
theorem dX6_areJoined_34 : decode cX6_areJoined 34 = .ok (.ireturn, 1) := de_ac tX6_areJoined_34
def tX6_areJoined_35 := Bt_1 (q := 35) tX6_areJoined_34 rfl
theorem dX6_areJoined_35 : decode cX6_areJoined 35 = .ok (.lload_n 3, 1) := de_21 tX6_areJoined_35
def tX6_areJoined_36 := Bt_1 (q := 36) tX6_areJoined_35 rfl
theorem dX6_areJoined_36 : decode cX6_areJoined 36 = .ok (.lconst 0, 1) := de_09 tX6_areJoined_36
def tX6_areJoined_37 := Bt_1 (q := 37) tX6_areJoined_36 rfl
theorem dX6_areJoined_37 : decode cX6_areJoined 37 = .ok (.lcmp, 1) := de_94 tX6_areJoined_37
def tX6_areJoined_38 := Bt_1 (q := 38) tX6_areJoined_37 rfl
theorem dX6_areJoined_38 : decode cX6_areJoined 38 = .ok (.ifCond .eq 13, 3) := de_99 tX6_areJoined_38 (by decide +kernel)
def tX6_areJoined_41 := Bt_3 (q := 41) tX6_areJoined_38 rfl
theorem dX6_areJoined_41 : decode cX6_areJoined 41 = .ok (.aload_n 0, 1) := de_2a tX6_areJoined_41
def tX6_areJoined_42 := Bt_1 (q := 42) tX6_areJoined_41 rfl
theorem dX6_areJoined_42 : decode cX6_areJoined 42 = .ok (.iload_n 1, 1) := de_1b tX6_areJoined_42
def tX6_areJoined_43 := Bt_1 (q := 43) tX6_areJoined_42 rfl
theorem dX6_areJoined_43 : decode cX6_areJoined 43 = .ok (.iload_n 2, 1) := de_1c tX6_areJoined_43
def tX6_areJoined_44 := Bt_1 (q := 44) tX6_areJoined_43 rfl
theorem dX6_areJoined_44 : decode cX6_areJoined 44 = .ok (.invokestatic 37, 3) := de_b8 tX6_areJoined_44 (by decide +kernel)
def tX6_areJoined_47 := Bt_3 (q := 47) tX6_areJoined_44 rfl
theorem dX6_areJoined_47 : decode cX6_areJoined 47 = .ok (.iconst 1, 1) := de_04 tX6_areJoined_47
def tX6_areJoined_48 := Bt_1 (q := 48) tX6_areJoined_47 rfl
theorem dX6_areJoined_48 : decode cX6_areJoined 48 = .ok (.if_icmp .ne 7, 3) := de_a0 tX6_areJoined_48 (by decide +kernel)
def tX6_areJoined_51 := Bt_3 (q := 51) tX6_areJoined_48 rfl
theorem dX6_areJoined_51 : decode cX6_areJoined 51 = .ok (.iconst 1, 1) := de_04 tX6_areJoined_51
def tX6_areJoined_52 := Bt_1 (q := 52) tX6_areJoined_51 rfl
theorem dX6_areJoined_52 : decode cX6_areJoined 52 = .ok (.goto 4, 3) := de_a7 tX6_areJoined_52 (by decide +kernel)
def tX6_areJoined_55 := Bt_3 (q := 55) tX6_areJoined_52 rfl
theorem dX6_areJoined_55 : decode cX6_areJoined 55 = .ok (.iconst 0, 1) := de_03 tX6_areJoined_55
def tX6_areJoined_56 := Bt_1 (q := 56) tX6_areJoined_55 rfl
theorem dX6_areJoined_56 : decode cX6_areJoined 56 = .ok (.ireturn, 1) := de_ac tX6_areJoined_56
def tX6_leastJoined_0 := Bt_0 cX6_leastJoined
theorem dX6_leastJoined_0 : decode cX6_leastJoined 0 = .ok (.iconst 1, 1) := de_04 tX6_leastJoined_0
def tX6_leastJoined_1 := Bt_1 (q := 1) tX6_leastJoined_0 rfl
theorem dX6_leastJoined_1 : decode cX6_leastJoined 1 = .ok (.iload_n 2, 1) := de_1c tX6_leastJoined_1
def tX6_leastJoined_2 := Bt_1 (q := 2) tX6_leastJoined_1 rfl
theorem dX6_leastJoined_2 : decode cX6_leastJoined 2 = .ok (.ishl, 1) := de_78 tX6_leastJoined_2
def tX6_leastJoined_3 := Bt_1 (q := 3) tX6_leastJoined_2 rfl
theorem dX6_leastJoined_3 : decode cX6_leastJoined 3 = .ok (.istore_n 3, 1) := de_3e tX6_leastJoined_3
def tX6_leastJoined_4 := Bt_1 (q := 4) tX6_leastJoined_3 rfl
theorem dX6_leastJoined_4 : decode cX6_leastJoined 4 = .ok (.iconst 0, 1) := de_03 tX6_leastJoined_4
def tX6_leastJoined_5 := Bt_1 (q := 5) tX6_leastJoined_4 rfl
theorem dX6_leastJoined_5 : decode cX6_leastJoined 5 = .ok (.istore 4, 2) := de_36 tX6_leastJoined_5 (by decide +kernel)
def tX6_leastJoined_7 := Bt_2 (q := 7) tX6_leastJoined_5 rfl
theorem dX6_leastJoined_7 : decode cX6_leastJoined 7 = .ok (.iconst 0, 1) := de_03 tX6_leastJoined_7
def tX6_leastJoined_8 := Bt_1 (q := 8) tX6_leastJoined_7 rfl
theorem dX6_leastJoined_8 : decode cX6_leastJoined 8 = .ok (.istore 5, 2) := de_36 tX6_leastJoined_8 (by decide +kernel)
def tX6_leastJoined_10 := Bt_2 (q := 10) tX6_leastJoined_8 rfl
theorem dX6_leastJoined_10 : decode cX6_leastJoined 10 = .ok (.iload 5, 2) := de_15 tX6_leastJoined_10 (by decide +kernel)
def tX6_leastJoined_12 := Bt_2 (q := 12) tX6_leastJoined_10 rfl
theorem dX6_leastJoined_12 : decode cX6_leastJoined 12 = .ok (.bipush 8, 2) := de_10 tX6_leastJoined_12 (by decide +kernel)
def tX6_leastJoined_14 := Bt_2 (q := 14) tX6_leastJoined_12 rfl
theorem dX6_leastJoined_14 : decode cX6_leastJoined 14 = .ok (.if_icmp .ge 46, 3) := de_a2 tX6_leastJoined_14 (by decide +kernel)
def tX6_leastJoined_17 := Bt_3 (q := 17) tX6_leastJoined_14 rfl
theorem dX6_leastJoined_17 : decode cX6_leastJoined 17 = .ok (.iload 4, 2) := de_15 tX6_leastJoined_17 (by decide +kernel)
def tX6_leastJoined_19 := Bt_2 (q := 19) tX6_leastJoined_17 rfl
theorem dX6_leastJoined_19 : decode cX6_leastJoined 19 = .ok (.iload_n 3, 1) := de_1d tX6_leastJoined_19
def tX6_leastJoined_20 := Bt_1 (q := 20) tX6_leastJoined_19 rfl
theorem dX6_leastJoined_20 : decode cX6_leastJoined 20 = .ok (.if_icmp .eq 40, 3) := de_9f tX6_leastJoined_20 (by decide +kernel)
def tX6_leastJoined_23 := Bt_3 (q := 23) tX6_leastJoined_20 rfl
theorem dX6_leastJoined_23 : decode cX6_leastJoined 23 = .ok (.iload_n 3, 1) := de_1d tX6_leastJoined_23
def tX6_leastJoined_24 := Bt_1 (q := 24) tX6_leastJoined_23 rfl
theorem dX6_leastJoined_24 : decode cX6_leastJoined 24 = .ok (.iload 4, 2) := de_15 tX6_leastJoined_24 (by decide +kernel)
def tX6_leastJoined_26 := Bt_2 (q := 26) tX6_leastJoined_24 rfl
theorem dX6_leastJoined_26 : decode cX6_leastJoined 26 = .ok (.iconst (-1), 1) := de_02 tX6_leastJoined_26
def tX6_leastJoined_27 := Bt_1 (q := 27) tX6_leastJoined_26 rfl
theorem dX6_leastJoined_27 : decode cX6_leastJoined 27 = .ok (.ixor, 1) := de_82 tX6_leastJoined_27
def tX6_leastJoined_28 := Bt_1 (q := 28) tX6_leastJoined_27 rfl
theorem dX6_leastJoined_28 : decode cX6_leastJoined 28 = .ok (.iand, 1) := de_7e tX6_leastJoined_28
def tX6_leastJoined_29 := Bt_1 (q := 29) tX6_leastJoined_28 rfl
theorem dX6_leastJoined_29 : decode cX6_leastJoined 29 = .ok (.invokestatic 41, 3) := de_b8 tX6_leastJoined_29 (by decide +kernel)
def tX6_leastJoined_32 := Bt_3 (q := 32) tX6_leastJoined_29 rfl
theorem dX6_leastJoined_32 : decode cX6_leastJoined 32 = .ok (.istore 6, 2) := de_36 tX6_leastJoined_32 (by decide +kernel)
def tX6_leastJoined_34 := Bt_2 (q := 34) tX6_leastJoined_32 rfl
theorem dX6_leastJoined_34 : decode cX6_leastJoined 34 = .ok (.iload 4, 2) := de_15 tX6_leastJoined_34 (by decide +kernel)
def tX6_leastJoined_36 := Bt_2 (q := 36) tX6_leastJoined_34 rfl
theorem dX6_leastJoined_36 : decode cX6_leastJoined 36 = .ok (.iconst 1, 1) := de_04 tX6_leastJoined_36
def tX6_leastJoined_37 := Bt_1 (q := 37) tX6_leastJoined_36 rfl
theorem dX6_leastJoined_37 : decode cX6_leastJoined 37 = .ok (.iload 6, 2) := de_15 tX6_leastJoined_37 (by decide +kernel)
def tX6_leastJoined_39 := Bt_2 (q := 39) tX6_leastJoined_37 rfl
theorem dX6_leastJoined_39 : decode cX6_leastJoined 39 = .ok (.ishl, 1) := de_78 tX6_leastJoined_39
def tX6_leastJoined_40 := Bt_1 (q := 40) tX6_leastJoined_39 rfl
theorem dX6_leastJoined_40 : decode cX6_leastJoined 40 = .ok (.ior, 1) := de_80 tX6_leastJoined_40
def tX6_leastJoined_41 := Bt_1 (q := 41) tX6_leastJoined_40 rfl
theorem dX6_leastJoined_41 : decode cX6_leastJoined 41 = .ok (.istore 4, 2) := de_36 tX6_leastJoined_41 (by decide +kernel)
def tX6_leastJoined_43 := Bt_2 (q := 43) tX6_leastJoined_41 rfl
theorem dX6_leastJoined_43 : decode cX6_leastJoined 43 = .ok (.iload_n 3, 1) := de_1d tX6_leastJoined_43
def tX6_leastJoined_44 := Bt_1 (q := 44) tX6_leastJoined_43 rfl
theorem dX6_leastJoined_44 : decode cX6_leastJoined 44 = .ok (.aload_n 0, 1) := de_2a tX6_leastJoined_44
def tX6_leastJoined_45 := Bt_1 (q := 45) tX6_leastJoined_44 rfl
theorem dX6_leastJoined_45 : decode cX6_leastJoined 45 = .ok (.iload_n 1, 1) := de_1b tX6_leastJoined_45
def tX6_leastJoined_46 := Bt_1 (q := 46) tX6_leastJoined_45 rfl
theorem dX6_leastJoined_46 : decode cX6_leastJoined 46 = .ok (.iload 6, 2) := de_15 tX6_leastJoined_46 (by decide +kernel)
def tX6_leastJoined_48 := Bt_2 (q := 48) tX6_leastJoined_46 rfl
theorem dX6_leastJoined_48 : decode cX6_leastJoined 48 = .ok (.iload_n 3, 1) := de_1d tX6_leastJoined_48
def tX6_leastJoined_49 := Bt_1 (q := 49) tX6_leastJoined_48 rfl
theorem dX6_leastJoined_49 : decode cX6_leastJoined 49 = .ok (.invokestatic 46, 3) := de_b8 tX6_leastJoined_49 (by decide +kernel)
def tX6_leastJoined_52 := Bt_3 (q := 52) tX6_leastJoined_49 rfl
theorem dX6_leastJoined_52 : decode cX6_leastJoined 52 = .ok (.ior, 1) := de_80 tX6_leastJoined_52
def tX6_leastJoined_53 := Bt_1 (q := 53) tX6_leastJoined_52 rfl
theorem dX6_leastJoined_53 : decode cX6_leastJoined 53 = .ok (.istore_n 3, 1) := de_3e tX6_leastJoined_53
def tX6_leastJoined_54 := Bt_1 (q := 54) tX6_leastJoined_53 rfl
theorem dX6_leastJoined_54 : decode cX6_leastJoined 54 = .ok (.iinc 5 1, 3) := de_84 tX6_leastJoined_54 (by decide +kernel) (by decide +kernel)
def tX6_leastJoined_57 := Bt_3 (q := 57) tX6_leastJoined_54 rfl
theorem dX6_leastJoined_57 : decode cX6_leastJoined 57 = .ok (.goto (-47), 3) := de_a7 tX6_leastJoined_57 (by decide +kernel)
def tX6_leastJoined_60 := Bt_3 (q := 60) tX6_leastJoined_57 rfl
theorem dX6_leastJoined_60 : decode cX6_leastJoined 60 = .ok (.iload_n 3, 1) := de_1d tX6_leastJoined_60
def tX6_leastJoined_61 := Bt_1 (q := 61) tX6_leastJoined_60 rfl
theorem dX6_leastJoined_61 : decode cX6_leastJoined 61 = .ok (.invokestatic 41, 3) := de_b8 tX6_leastJoined_61 (by decide +kernel)
def tX6_leastJoined_64 := Bt_3 (q := 64) tX6_leastJoined_61 rfl
theorem dX6_leastJoined_64 : decode cX6_leastJoined 64 = .ok (.ireturn, 1) := de_ac tX6_leastJoined_64
def tX6_joinedWith_0 := Bt_0 cX6_joinedWith
theorem dX6_joinedWith_0 : decode cX6_joinedWith 0 = .ok (.iconst 0, 1) := de_03 tX6_joinedWith_0
def tX6_joinedWith_1 := Bt_1 (q := 1) tX6_joinedWith_0 rfl
theorem dX6_joinedWith_1 : decode cX6_joinedWith 1 = .ok (.istore 4, 2) := de_36 tX6_joinedWith_1 (by decide +kernel)
def tX6_joinedWith_3 := Bt_2 (q := 3) tX6_joinedWith_1 rfl
theorem dX6_joinedWith_3 : decode cX6_joinedWith 3 = .ok (.iconst 0, 1) := de_03 tX6_joinedWith_3
def tX6_joinedWith_4 := Bt_1 (q := 4) tX6_joinedWith_3 rfl
theorem dX6_joinedWith_4 : decode cX6_joinedWith 4 = .ok (.istore 5, 2) := de_36 tX6_joinedWith_4 (by decide +kernel)
def tX6_joinedWith_6 := Bt_2 (q := 6) tX6_joinedWith_4 rfl
theorem dX6_joinedWith_6 : decode cX6_joinedWith 6 = .ok (.iload 5, 2) := de_15 tX6_joinedWith_6 (by decide +kernel)
def tX6_joinedWith_8 := Bt_2 (q := 8) tX6_joinedWith_6 rfl
theorem dX6_joinedWith_8 : decode cX6_joinedWith 8 = .ok (.bipush 8, 2) := de_10 tX6_joinedWith_8 (by decide +kernel)
def tX6_joinedWith_10 := Bt_2 (q := 10) tX6_joinedWith_8 rfl
theorem dX6_joinedWith_10 : decode cX6_joinedWith 10 = .ok (.if_icmp .ge 71, 3) := de_a2 tX6_joinedWith_10 (by decide +kernel)
def tX6_joinedWith_13 := Bt_3 (q := 13) tX6_joinedWith_10 rfl
theorem dX6_joinedWith_13 : decode cX6_joinedWith 13 = .ok (.iload 5, 2) := de_15 tX6_joinedWith_13 (by decide +kernel)
def tX6_joinedWith_15 := Bt_2 (q := 15) tX6_joinedWith_13 rfl
theorem dX6_joinedWith_15 : decode cX6_joinedWith 15 = .ok (.iload_n 1, 1) := de_1b tX6_joinedWith_15
def tX6_joinedWith_16 := Bt_1 (q := 16) tX6_joinedWith_15 rfl
theorem dX6_joinedWith_16 : decode cX6_joinedWith 16 = .ok (.invokestatic 50, 3) := de_b8 tX6_joinedWith_16 (by decide +kernel)
def tX6_joinedWith_19 := Bt_3 (q := 19) tX6_joinedWith_16 rfl
theorem dX6_joinedWith_19 : decode cX6_joinedWith 19 = .ok (.istore 6, 2) := de_36 tX6_joinedWith_19 (by decide +kernel)
def tX6_joinedWith_21 := Bt_2 (q := 21) tX6_joinedWith_19 rfl
theorem dX6_joinedWith_21 : decode cX6_joinedWith 21 = .ok (.iload_n 3, 1) := de_1d tX6_joinedWith_21
def tX6_joinedWith_22 := Bt_1 (q := 22) tX6_joinedWith_21 rfl
theorem dX6_joinedWith_22 : decode cX6_joinedWith 22 = .ok (.iload 5, 2) := de_15 tX6_joinedWith_22 (by decide +kernel)
def tX6_joinedWith_24 := Bt_2 (q := 24) tX6_joinedWith_22 rfl
theorem dX6_joinedWith_24 : decode cX6_joinedWith 24 = .ok (.ishr, 1) := de_7a tX6_joinedWith_24
def tX6_joinedWith_25 := Bt_1 (q := 25) tX6_joinedWith_24 rfl
theorem dX6_joinedWith_25 : decode cX6_joinedWith 25 = .ok (.iconst 1, 1) := de_04 tX6_joinedWith_25
def tX6_joinedWith_26 := Bt_1 (q := 26) tX6_joinedWith_25 rfl
theorem dX6_joinedWith_26 : decode cX6_joinedWith 26 = .ok (.iand, 1) := de_7e tX6_joinedWith_26
def tX6_joinedWith_27 := Bt_1 (q := 27) tX6_joinedWith_26 rfl
theorem dX6_joinedWith_27 : decode cX6_joinedWith 27 = .ok (.ifCond .ne 7, 3) := de_9a tX6_joinedWith_27 (by decide +kernel)
def tX6_joinedWith_30 := Bt_3 (q := 30) tX6_joinedWith_27 rfl
theorem dX6_joinedWith_30 : decode cX6_joinedWith 30 = .ok (.iconst 1, 1) := de_04 tX6_joinedWith_30
def tX6_joinedWith_31 := Bt_1 (q := 31) tX6_joinedWith_30 rfl
theorem dX6_joinedWith_31 : decode cX6_joinedWith 31 = .ok (.goto 4, 3) := de_a7 tX6_joinedWith_31 (by decide +kernel)
def tX6_joinedWith_34 := Bt_3 (q := 34) tX6_joinedWith_31 rfl
theorem dX6_joinedWith_34 : decode cX6_joinedWith 34 = .ok (.iconst 0, 1) := de_03 tX6_joinedWith_34
def tX6_joinedWith_35 := Bt_1 (q := 35) tX6_joinedWith_34 rfl
theorem dX6_joinedWith_35 : decode cX6_joinedWith 35 = .ok (.istore 7, 2) := de_36 tX6_joinedWith_35 (by decide +kernel)
def tX6_joinedWith_37 := Bt_2 (q := 37) tX6_joinedWith_35 rfl
theorem dX6_joinedWith_37 : decode cX6_joinedWith 37 = .ok (.iload 7, 2) := de_15 tX6_joinedWith_37 (by decide +kernel)
def tX6_joinedWith_39 := Bt_2 (q := 39) tX6_joinedWith_37 rfl
theorem dX6_joinedWith_39 : decode cX6_joinedWith 39 = .ok (.ifCond .eq 36, 3) := de_99 tX6_joinedWith_39 (by decide +kernel)
def tX6_joinedWith_42 := Bt_3 (q := 42) tX6_joinedWith_39 rfl
theorem dX6_joinedWith_42 : decode cX6_joinedWith 42 = .ok (.aload_n 0, 1) := de_2a tX6_joinedWith_42
def tX6_joinedWith_43 := Bt_1 (q := 43) tX6_joinedWith_42 rfl
theorem dX6_joinedWith_43 : decode cX6_joinedWith 43 = .ok (.getfield 54, 3) := de_b4 tX6_joinedWith_43 (by decide +kernel)
def tX6_joinedWith_46 := Bt_3 (q := 46) tX6_joinedWith_43 rfl
theorem dX6_joinedWith_46 : decode cX6_joinedWith 46 = .ok (.iload 6, 2) := de_15 tX6_joinedWith_46 (by decide +kernel)
def tX6_joinedWith_48 := Bt_2 (q := 48) tX6_joinedWith_46 rfl
theorem dX6_joinedWith_48 : decode cX6_joinedWith 48 = .ok (.baload, 1) := de_33 tX6_joinedWith_48
def tX6_joinedWith_49 := Bt_1 (q := 49) tX6_joinedWith_48 rfl
theorem dX6_joinedWith_49 : decode cX6_joinedWith 49 = .ok (.ifCond .eq 26, 3) := de_99 tX6_joinedWith_49 (by decide +kernel)
def tX6_joinedWith_52 := Bt_3 (q := 52) tX6_joinedWith_49 rfl
theorem dX6_joinedWith_52 : decode cX6_joinedWith 52 = .ok (.aload_n 0, 1) := de_2a tX6_joinedWith_52
def tX6_joinedWith_53 := Bt_1 (q := 53) tX6_joinedWith_52 rfl
theorem dX6_joinedWith_53 : decode cX6_joinedWith 53 = .ok (.iload_n 2, 1) := de_1c tX6_joinedWith_53
def tX6_joinedWith_54 := Bt_1 (q := 54) tX6_joinedWith_53 rfl
theorem dX6_joinedWith_54 : decode cX6_joinedWith 54 = .ok (.iload_n 1, 1) := de_1b tX6_joinedWith_54
def tX6_joinedWith_55 := Bt_1 (q := 55) tX6_joinedWith_54 rfl
theorem dX6_joinedWith_55 : decode cX6_joinedWith 55 = .ok (.invokestatic 50, 3) := de_b8 tX6_joinedWith_55 (by decide +kernel)
def tX6_joinedWith_58 := Bt_3 (q := 58) tX6_joinedWith_55 rfl
theorem dX6_joinedWith_58 : decode cX6_joinedWith 58 = .ok (.iload 6, 2) := de_15 tX6_joinedWith_58 (by decide +kernel)
def tX6_joinedWith_60 := Bt_2 (q := 60) tX6_joinedWith_58 rfl
theorem dX6_joinedWith_60 : decode cX6_joinedWith 60 = .ok (.invokestatic 58, 3) := de_b8 tX6_joinedWith_60 (by decide +kernel)
def tX6_joinedWith_63 := Bt_3 (q := 63) tX6_joinedWith_60 rfl
theorem dX6_joinedWith_63 : decode cX6_joinedWith 63 = .ok (.ifCond .eq 12, 3) := de_99 tX6_joinedWith_63 (by decide +kernel)
def tX6_joinedWith_66 := Bt_3 (q := 66) tX6_joinedWith_63 rfl
theorem dX6_joinedWith_66 : decode cX6_joinedWith 66 = .ok (.iload 4, 2) := de_15 tX6_joinedWith_66 (by decide +kernel)
def tX6_joinedWith_68 := Bt_2 (q := 68) tX6_joinedWith_66 rfl
theorem dX6_joinedWith_68 : decode cX6_joinedWith 68 = .ok (.iconst 1, 1) := de_04 tX6_joinedWith_68
def tX6_joinedWith_69 := Bt_1 (q := 69) tX6_joinedWith_68 rfl
theorem dX6_joinedWith_69 : decode cX6_joinedWith 69 = .ok (.iload 5, 2) := de_15 tX6_joinedWith_69 (by decide +kernel)
def tX6_joinedWith_71 := Bt_2 (q := 71) tX6_joinedWith_69 rfl
theorem dX6_joinedWith_71 : decode cX6_joinedWith 71 = .ok (.ishl, 1) := de_78 tX6_joinedWith_71
def tX6_joinedWith_72 := Bt_1 (q := 72) tX6_joinedWith_71 rfl
theorem dX6_joinedWith_72 : decode cX6_joinedWith 72 = .ok (.ior, 1) := de_80 tX6_joinedWith_72
def tX6_joinedWith_73 := Bt_1 (q := 73) tX6_joinedWith_72 rfl
theorem dX6_joinedWith_73 : decode cX6_joinedWith 73 = .ok (.istore 4, 2) := de_36 tX6_joinedWith_73 (by decide +kernel)
def tX6_joinedWith_75 := Bt_2 (q := 75) tX6_joinedWith_73 rfl
theorem dX6_joinedWith_75 : decode cX6_joinedWith 75 = .ok (.iinc 5 1, 3) := de_84 tX6_joinedWith_75 (by decide +kernel) (by decide +kernel)
def tX6_joinedWith_78 := Bt_3 (q := 78) tX6_joinedWith_75 rfl
theorem dX6_joinedWith_78 : decode cX6_joinedWith 78 = .ok (.goto (-72), 3) := de_a7 tX6_joinedWith_78 (by decide +kernel)
def tX6_joinedWith_81 := Bt_3 (q := 81) tX6_joinedWith_78 rfl
theorem dX6_joinedWith_81 : decode cX6_joinedWith 81 = .ok (.iload 4, 2) := de_15 tX6_joinedWith_81 (by decide +kernel)
def tX6_joinedWith_83 := Bt_2 (q := 83) tX6_joinedWith_81 rfl
theorem dX6_joinedWith_83 : decode cX6_joinedWith 83 = .ok (.ireturn, 1) := de_ac tX6_joinedWith_83
def tX7_init_0 := Bt_0 cX7_init
theorem dX7_init_0 : decode cX7_init 0 = .ok (.aload_n 0, 1) := de_2a tX7_init_0
def tX7_init_1 := Bt_1 (q := 1) tX7_init_0 rfl
theorem dX7_init_1 : decode cX7_init 1 = .ok (.invokespecial 3, 3) := de_b7 tX7_init_1 (by decide +kernel)
def tX7_init_4 := Bt_3 (q := 4) tX7_init_1 rfl
theorem dX7_init_4 : decode cX7_init 4 = .ok (.aload_n 0, 1) := de_2a tX7_init_4
def tX7_init_5 := Bt_1 (q := 5) tX7_init_4 rfl
theorem dX7_init_5 : decode cX7_init 5 = .ok (.new 9, 3) := de_bb tX7_init_5 (by decide +kernel)
def tX7_init_8 := Bt_3 (q := 8) tX7_init_5 rfl
theorem dX7_init_8 : decode cX7_init 8 = .ok (.dup, 1) := de_59 tX7_init_8
def tX7_init_9 := Bt_1 (q := 9) tX7_init_8 rfl
theorem dX7_init_9 : decode cX7_init 9 = .ok (.invokespecial 11, 3) := de_b7 tX7_init_9 (by decide +kernel)
def tX7_init_12 := Bt_3 (q := 12) tX7_init_9 rfl
theorem dX7_init_12 : decode cX7_init 12 = .ok (.putfield 12, 3) := de_b5 tX7_init_12 (by decide +kernel)
def tX7_init_15 := Bt_3 (q := 15) tX7_init_12 rfl
theorem dX7_init_15 : decode cX7_init 15 = .ok (.aload_n 0, 1) := de_2a tX7_init_15
def tX7_init_16 := Bt_1 (q := 16) tX7_init_15 rfl
theorem dX7_init_16 : decode cX7_init 16 = .ok (.bipush 8, 2) := de_10 tX7_init_16 (by decide +kernel)
def tX7_init_18 := Bt_2 (q := 18) tX7_init_16 rfl
theorem dX7_init_18 : decode cX7_init 18 = .ok (.newarray .boolean, 2) := de_bc_04 tX7_init_18
def tX7_init_20 := Bt_2 (q := 20) tX7_init_18 rfl
theorem dX7_init_20 : decode cX7_init 20 = .ok (.putfield 18, 3) := de_b5 tX7_init_20 (by decide +kernel)
def tX7_init_23 := Bt_3 (q := 23) tX7_init_20 rfl
theorem dX7_init_23 : decode cX7_init 23 = .ok (.aload_n 0, 1) := de_2a tX7_init_23
def tX7_init_24 := Bt_1 (q := 24) tX7_init_23 rfl
theorem dX7_init_24 : decode cX7_init 24 = .ok (.bipush 8, 2) := de_10 tX7_init_24 (by decide +kernel)
def tX7_init_26 := Bt_2 (q := 26) tX7_init_24 rfl
theorem dX7_init_26 : decode cX7_init 26 = .ok (.newarray .int, 2) := de_bc_0a tX7_init_26
def tX7_init_28 := Bt_2 (q := 28) tX7_init_26 rfl
theorem dX7_init_28 : decode cX7_init 28 = .ok (.putfield 22, 3) := de_b5 tX7_init_28 (by decide +kernel)
def tX7_init_31 := Bt_3 (q := 31) tX7_init_28 rfl
theorem dX7_init_31 : decode cX7_init 31 = .ok (.aload_n 0, 1) := de_2a tX7_init_31
def tX7_init_32 := Bt_1 (q := 32) tX7_init_31 rfl
theorem dX7_init_32 : decode cX7_init 32 = .ok (.bipush 8, 2) := de_10 tX7_init_32 (by decide +kernel)
def tX7_init_34 := Bt_2 (q := 34) tX7_init_32 rfl
theorem dX7_init_34 : decode cX7_init 34 = .ok (.newarray .long, 2) := de_bc_0b tX7_init_34
def tX7_init_36 := Bt_2 (q := 36) tX7_init_34 rfl
theorem dX7_init_36 : decode cX7_init 36 = .ok (.putfield 26, 3) := de_b5 tX7_init_36 (by decide +kernel)
def tX7_init_39 := Bt_3 (q := 39) tX7_init_36 rfl
theorem dX7_init_39 : decode cX7_init 39 = .ok (.aload_n 0, 1) := de_2a tX7_init_39
def tX7_init_40 := Bt_1 (q := 40) tX7_init_39 rfl
theorem dX7_init_40 : decode cX7_init 40 = .ok (.bipush 8, 2) := de_10 tX7_init_40 (by decide +kernel)
def tX7_init_42 := Bt_2 (q := 42) tX7_init_40 rfl
theorem dX7_init_42 : decode cX7_init 42 = .ok (.newarray .long, 2) := de_bc_0b tX7_init_42
def tX7_init_44 := Bt_2 (q := 44) tX7_init_42 rfl
theorem dX7_init_44 : decode cX7_init 44 = .ok (.putfield 30, 3) := de_b5 tX7_init_44 (by decide +kernel)
def tX7_init_47 := Bt_3 (q := 47) tX7_init_44 rfl
theorem dX7_init_47 : decode cX7_init 47 = .ok (.aload_n 0, 1) := de_2a tX7_init_47
def tX7_init_48 := Bt_1 (q := 48) tX7_init_47 rfl
theorem dX7_init_48 : decode cX7_init 48 = .ok (.bipush 8, 2) := de_10 tX7_init_48 (by decide +kernel)
def tX7_init_50 := Bt_2 (q := 50) tX7_init_48 rfl
theorem dX7_init_50 : decode cX7_init 50 = .ok (.newarray .long, 2) := de_bc_0b tX7_init_50
def tX7_init_52 := Bt_2 (q := 52) tX7_init_50 rfl
theorem dX7_init_52 : decode cX7_init 52 = .ok (.putfield 33, 3) := de_b5 tX7_init_52 (by decide +kernel)
def tX7_init_55 := Bt_3 (q := 55) tX7_init_52 rfl
theorem dX7_init_55 : decode cX7_init 55 = .ok (.aload_n 0, 1) := de_2a tX7_init_55
def tX7_init_56 := Bt_1 (q := 56) tX7_init_55 rfl
theorem dX7_init_56 : decode cX7_init 56 = .ok (.bipush 8, 2) := de_10 tX7_init_56 (by decide +kernel)
def tX7_init_58 := Bt_2 (q := 58) tX7_init_56 rfl
theorem dX7_init_58 : decode cX7_init 58 = .ok (.newarray .long, 2) := de_bc_0b tX7_init_58
def tX7_init_60 := Bt_2 (q := 60) tX7_init_58 rfl
theorem dX7_init_60 : decode cX7_init 60 = .ok (.putfield 36, 3) := de_b5 tX7_init_60 (by decide +kernel)
def tX7_init_63 := Bt_3 (q := 63) tX7_init_60 rfl
theorem dX7_init_63 : decode cX7_init 63 = .ok (.aload_n 0, 1) := de_2a tX7_init_63
def tX7_init_64 := Bt_1 (q := 64) tX7_init_63 rfl
theorem dX7_init_64 : decode cX7_init 64 = .ok (.bipush 8, 2) := de_10 tX7_init_64 (by decide +kernel)
def tX7_init_66 := Bt_2 (q := 66) tX7_init_64 rfl
theorem dX7_init_66 : decode cX7_init 66 = .ok (.newarray .boolean, 2) := de_bc_04 tX7_init_66
def tX7_init_68 := Bt_2 (q := 68) tX7_init_66 rfl
theorem dX7_init_68 : decode cX7_init 68 = .ok (.putfield 39, 3) := de_b5 tX7_init_68 (by decide +kernel)
def tX7_init_71 := Bt_3 (q := 71) tX7_init_68 rfl
theorem dX7_init_71 : decode cX7_init 71 = .ok (.aload_n 0, 1) := de_2a tX7_init_71
def tX7_init_72 := Bt_1 (q := 72) tX7_init_71 rfl
theorem dX7_init_72 : decode cX7_init 72 = .ok (.bipush 8, 2) := de_10 tX7_init_72 (by decide +kernel)
def tX7_init_74 := Bt_2 (q := 74) tX7_init_72 rfl
theorem dX7_init_74 : decode cX7_init 74 = .ok (.newarray .int, 2) := de_bc_0a tX7_init_74
def tX7_init_76 := Bt_2 (q := 76) tX7_init_74 rfl
theorem dX7_init_76 : decode cX7_init 76 = .ok (.putfield 42, 3) := de_b5 tX7_init_76 (by decide +kernel)
def tX7_init_79 := Bt_3 (q := 79) tX7_init_76 rfl
theorem dX7_init_79 : decode cX7_init 79 = .ok (.aload_n 0, 1) := de_2a tX7_init_79
def tX7_init_80 := Bt_1 (q := 80) tX7_init_79 rfl
theorem dX7_init_80 : decode cX7_init 80 = .ok (.bipush 80, 2) := de_10 tX7_init_80 (by decide +kernel)
def tX7_init_82 := Bt_2 (q := 82) tX7_init_80 rfl
theorem dX7_init_82 : decode cX7_init 82 = .ok (.newarray .long, 2) := de_bc_0b tX7_init_82
def tX7_init_84 := Bt_2 (q := 84) tX7_init_82 rfl
theorem dX7_init_84 : decode cX7_init 84 = .ok (.putfield 45, 3) := de_b5 tX7_init_84 (by decide +kernel)
def tX7_init_87 := Bt_3 (q := 87) tX7_init_84 rfl
theorem dX7_init_87 : decode cX7_init 87 = .ok (.aload_n 0, 1) := de_2a tX7_init_87
def tX7_init_88 := Bt_1 (q := 88) tX7_init_87 rfl
theorem dX7_init_88 : decode cX7_init 88 = .ok (.bipush 80, 2) := de_10 tX7_init_88 (by decide +kernel)
def tX7_init_90 := Bt_2 (q := 90) tX7_init_88 rfl
theorem dX7_init_90 : decode cX7_init 90 = .ok (.newarray .long, 2) := de_bc_0b tX7_init_90
def tX7_init_92 := Bt_2 (q := 92) tX7_init_90 rfl
theorem dX7_init_92 : decode cX7_init 92 = .ok (.putfield 48, 3) := de_b5 tX7_init_92 (by decide +kernel)
def tX7_init_95 := Bt_3 (q := 95) tX7_init_92 rfl
theorem dX7_init_95 : decode cX7_init 95 = .ok (.return_, 1) := de_b1 tX7_init_95
def tX7_lay_0 := Bt_0 cX7_lay
theorem dX7_lay_0 : decode cX7_lay 0 = .ok (.iconst 0, 1) := de_03 tX7_lay_0
def tX7_lay_1 := Bt_1 (q := 1) tX7_lay_0 rfl
theorem dX7_lay_1 : decode cX7_lay 1 = .ok (.istore 5, 2) := de_36 tX7_lay_1 (by decide +kernel)
def tX7_lay_3 := Bt_2 (q := 3) tX7_lay_1 rfl
theorem dX7_lay_3 : decode cX7_lay 3 = .ok (.iload 5, 2) := de_15 tX7_lay_3 (by decide +kernel)
def tX7_lay_5 := Bt_2 (q := 5) tX7_lay_3 rfl
theorem dX7_lay_5 : decode cX7_lay 5 = .ok (.bipush 8, 2) := de_10 tX7_lay_5 (by decide +kernel)
def tX7_lay_7 := Bt_2 (q := 7) tX7_lay_5 rfl
theorem dX7_lay_7 : decode cX7_lay 7 = .ok (.if_icmp .ge 72, 3) := de_a2 tX7_lay_7 (by decide +kernel)
def tX7_lay_10 := Bt_3 (q := 10) tX7_lay_7 rfl
theorem dX7_lay_10 : decode cX7_lay 10 = .ok (.iload 5, 2) := de_15 tX7_lay_10 (by decide +kernel)
def tX7_lay_12 := Bt_2 (q := 12) tX7_lay_10 rfl
theorem dX7_lay_12 : decode cX7_lay 12 = .ok (.iload_n 3, 1) := de_1d tX7_lay_12
def tX7_lay_13 := Bt_1 (q := 13) tX7_lay_12 rfl
theorem dX7_lay_13 : decode cX7_lay 13 = .ok (.invokestatic 51, 3) := de_b8 tX7_lay_13 (by decide +kernel)
def tX7_lay_16 := Bt_3 (q := 16) tX7_lay_13 rfl
theorem dX7_lay_16 : decode cX7_lay 16 = .ok (.istore 6, 2) := de_36 tX7_lay_16 (by decide +kernel)
def tX7_lay_18 := Bt_2 (q := 18) tX7_lay_16 rfl
theorem dX7_lay_18 : decode cX7_lay 18 = .ok (.aload_n 0, 1) := de_2a tX7_lay_18
def tX7_lay_19 := Bt_1 (q := 19) tX7_lay_18 rfl
theorem dX7_lay_19 : decode cX7_lay 19 = .ok (.getfield 18, 3) := de_b4 tX7_lay_19 (by decide +kernel)
def tX7_lay_22 := Bt_3 (q := 22) tX7_lay_19 rfl
theorem dX7_lay_22 : decode cX7_lay 22 = .ok (.iload 5, 2) := de_15 tX7_lay_22 (by decide +kernel)
def tX7_lay_24 := Bt_2 (q := 24) tX7_lay_22 rfl
theorem dX7_lay_24 : decode cX7_lay 24 = .ok (.iload 5, 2) := de_15 tX7_lay_24 (by decide +kernel)
def tX7_lay_26 := Bt_2 (q := 26) tX7_lay_24 rfl
theorem dX7_lay_26 : decode cX7_lay 26 = .ok (.iload 4, 2) := de_15 tX7_lay_26 (by decide +kernel)
def tX7_lay_28 := Bt_2 (q := 28) tX7_lay_26 rfl
theorem dX7_lay_28 : decode cX7_lay 28 = .ok (.if_icmp .eq 16, 3) := de_9f tX7_lay_28 (by decide +kernel)
def tX7_lay_31 := Bt_3 (q := 31) tX7_lay_28 rfl
theorem dX7_lay_31 : decode cX7_lay 31 = .ok (.aload_n 1, 1) := de_2b tX7_lay_31
def tX7_lay_32 := Bt_1 (q := 32) tX7_lay_31 rfl
theorem dX7_lay_32 : decode cX7_lay 32 = .ok (.iload 6, 2) := de_15 tX7_lay_32 (by decide +kernel)
def tX7_lay_34 := Bt_2 (q := 34) tX7_lay_32 rfl
theorem dX7_lay_34 : decode cX7_lay 34 = .ok (.invokevirtual 55, 3) := de_b6 tX7_lay_34 (by decide +kernel)
def tX7_lay_37 := Bt_3 (q := 37) tX7_lay_34 rfl
theorem dX7_lay_37 : decode cX7_lay 37 = .ok (.ifCond .eq 7, 3) := de_99 tX7_lay_37 (by decide +kernel)
def tX7_lay_40 := Bt_3 (q := 40) tX7_lay_37 rfl
theorem dX7_lay_40 : decode cX7_lay 40 = .ok (.iconst 1, 1) := de_04 tX7_lay_40
def tX7_lay_41 := Bt_1 (q := 41) tX7_lay_40 rfl
theorem dX7_lay_41 : decode cX7_lay 41 = .ok (.goto 4, 3) := de_a7 tX7_lay_41 (by decide +kernel)
def tX7_lay_44 := Bt_3 (q := 44) tX7_lay_41 rfl
theorem dX7_lay_44 : decode cX7_lay 44 = .ok (.iconst 0, 1) := de_03 tX7_lay_44
def tX7_lay_45 := Bt_1 (q := 45) tX7_lay_44 rfl
theorem dX7_lay_45 : decode cX7_lay 45 = .ok (.bastore, 1) := de_54 tX7_lay_45
def tX7_lay_46 := Bt_1 (q := 46) tX7_lay_45 rfl
theorem dX7_lay_46 : decode cX7_lay 46 = .ok (.aload_n 0, 1) := de_2a tX7_lay_46
def tX7_lay_47 := Bt_1 (q := 47) tX7_lay_46 rfl
theorem dX7_lay_47 : decode cX7_lay 47 = .ok (.getfield 22, 3) := de_b4 tX7_lay_47 (by decide +kernel)
def tX7_lay_50 := Bt_3 (q := 50) tX7_lay_47 rfl
theorem dX7_lay_50 : decode cX7_lay 50 = .ok (.iload 5, 2) := de_15 tX7_lay_50 (by decide +kernel)
def tX7_lay_52 := Bt_2 (q := 52) tX7_lay_50 rfl
theorem dX7_lay_52 : decode cX7_lay 52 = .ok (.aload_n 1, 1) := de_2b tX7_lay_52
def tX7_lay_53 := Bt_1 (q := 53) tX7_lay_52 rfl
theorem dX7_lay_53 : decode cX7_lay 53 = .ok (.getfield 61, 3) := de_b4 tX7_lay_53 (by decide +kernel)
def tX7_lay_56 := Bt_3 (q := 56) tX7_lay_53 rfl
theorem dX7_lay_56 : decode cX7_lay 56 = .ok (.iload 6, 2) := de_15 tX7_lay_56 (by decide +kernel)
def tX7_lay_58 := Bt_2 (q := 58) tX7_lay_56 rfl
theorem dX7_lay_58 : decode cX7_lay 58 = .ok (.baload, 1) := de_33 tX7_lay_58
def tX7_lay_59 := Bt_1 (q := 59) tX7_lay_58 rfl
theorem dX7_lay_59 : decode cX7_lay 59 = .ok (.ifCond .eq 12, 3) := de_99 tX7_lay_59 (by decide +kernel)
def tX7_lay_62 := Bt_3 (q := 62) tX7_lay_59 rfl
theorem dX7_lay_62 : decode cX7_lay 62 = .ok (.aload_n 1, 1) := de_2b tX7_lay_62
def tX7_lay_63 := Bt_1 (q := 63) tX7_lay_62 rfl
theorem dX7_lay_63 : decode cX7_lay 63 = .ok (.iload 6, 2) := de_15 tX7_lay_63 (by decide +kernel)
def tX7_lay_65 := Bt_2 (q := 65) tX7_lay_63 rfl
theorem dX7_lay_65 : decode cX7_lay 65 = .ok (.invokevirtual 64, 3) := de_b6 tX7_lay_65 (by decide +kernel)
def tX7_lay_68 := Bt_3 (q := 68) tX7_lay_65 rfl
theorem dX7_lay_68 : decode cX7_lay 68 = .ok (.goto 4, 3) := de_a7 tX7_lay_68 (by decide +kernel)
def tX7_lay_71 := Bt_3 (q := 71) tX7_lay_68 rfl
theorem dX7_lay_71 : decode cX7_lay 71 = .ok (.iconst 0, 1) := de_03 tX7_lay_71
def tX7_lay_72 := Bt_1 (q := 72) tX7_lay_71 rfl
theorem dX7_lay_72 : decode cX7_lay 72 = .ok (.iastore, 1) := de_4f tX7_lay_72
def tX7_lay_73 := Bt_1 (q := 73) tX7_lay_72 rfl
theorem dX7_lay_73 : decode cX7_lay 73 = .ok (.iinc 5 1, 3) := de_84 tX7_lay_73 (by decide +kernel) (by decide +kernel)
def tX7_lay_76 := Bt_3 (q := 76) tX7_lay_73 rfl
theorem dX7_lay_76 : decode cX7_lay 76 = .ok (.goto (-73), 3) := de_a7 tX7_lay_76 (by decide +kernel)
def tX7_lay_79 := Bt_3 (q := 79) tX7_lay_76 rfl
theorem dX7_lay_79 : decode cX7_lay 79 = .ok (.aload_n 2, 1) := de_2c tX7_lay_79
def tX7_lay_80 := Bt_1 (q := 80) tX7_lay_79 rfl
theorem dX7_lay_80 : decode cX7_lay 80 = .ok (.aload_n 0, 1) := de_2a tX7_lay_80
def tX7_lay_81 := Bt_1 (q := 81) tX7_lay_80 rfl
theorem dX7_lay_81 : decode cX7_lay 81 = .ok (.getfield 18, 3) := de_b4 tX7_lay_81 (by decide +kernel)
def tX7_lay_84 := Bt_3 (q := 84) tX7_lay_81 rfl
theorem dX7_lay_84 : decode cX7_lay 84 = .ok (.invokevirtual 68, 3) := de_b6 tX7_lay_84 (by decide +kernel)
def tX7_lay_87 := Bt_3 (q := 87) tX7_lay_84 rfl
theorem dX7_lay_87 : decode cX7_lay 87 = .ok (.iconst 0, 1) := de_03 tX7_lay_87
def tX7_lay_88 := Bt_1 (q := 88) tX7_lay_87 rfl
theorem dX7_lay_88 : decode cX7_lay 88 = .ok (.istore 5, 2) := de_36 tX7_lay_88 (by decide +kernel)
def tX7_lay_90 := Bt_2 (q := 90) tX7_lay_88 rfl
theorem dX7_lay_90 : decode cX7_lay 90 = .ok (.iload 5, 2) := de_15 tX7_lay_90 (by decide +kernel)
def tX7_lay_92 := Bt_2 (q := 92) tX7_lay_90 rfl
theorem dX7_lay_92 : decode cX7_lay 92 = .ok (.bipush 8, 2) := de_10 tX7_lay_92 (by decide +kernel)
def tX7_lay_94 := Bt_2 (q := 94) tX7_lay_92 rfl
theorem dX7_lay_94 : decode cX7_lay 94 = .ok (.if_icmp .ge 51, 3) := de_a2 tX7_lay_94 (by decide +kernel)
def tX7_lay_97 := Bt_3 (q := 97) tX7_lay_94 rfl
theorem dX7_lay_97 : decode cX7_lay 97 = .ok (.aload_n 2, 1) := de_2c tX7_lay_97
def tX7_lay_98 := Bt_1 (q := 98) tX7_lay_97 rfl
theorem dX7_lay_98 : decode cX7_lay 98 = .ok (.iload 5, 2) := de_15 tX7_lay_98 (by decide +kernel)
def tX7_lay_100 := Bt_2 (q := 100) tX7_lay_98 rfl
theorem dX7_lay_100 : decode cX7_lay 100 = .ok (.iload_n 3, 1) := de_1d tX7_lay_100
def tX7_lay_101 := Bt_1 (q := 101) tX7_lay_100 rfl
theorem dX7_lay_101 : decode cX7_lay 101 = .ok (.invokestatic 51, 3) := de_b8 tX7_lay_101 (by decide +kernel)
def tX7_lay_104 := Bt_3 (q := 104) tX7_lay_101 rfl
theorem dX7_lay_104 : decode cX7_lay 104 = .ok (.aload_n 0, 1) := de_2a tX7_lay_104
def tX7_lay_105 := Bt_1 (q := 105) tX7_lay_104 rfl
theorem dX7_lay_105 : decode cX7_lay 105 = .ok (.getfield 12, 3) := de_b4 tX7_lay_105 (by decide +kernel)
def tX7_lay_108 := Bt_3 (q := 108) tX7_lay_105 rfl
theorem dX7_lay_108 : decode cX7_lay 108 = .ok (.invokevirtual 74, 3) := de_b6 tX7_lay_108 (by decide +kernel)
def tX7_lay_111 := Bt_3 (q := 111) tX7_lay_108 rfl
theorem dX7_lay_111 : decode cX7_lay 111 = .ok (.aload_n 0, 1) := de_2a tX7_lay_111
def tX7_lay_112 := Bt_1 (q := 112) tX7_lay_111 rfl
theorem dX7_lay_112 : decode cX7_lay 112 = .ok (.getfield 26, 3) := de_b4 tX7_lay_112 (by decide +kernel)
def tX7_lay_115 := Bt_3 (q := 115) tX7_lay_112 rfl
theorem dX7_lay_115 : decode cX7_lay 115 = .ok (.iload 5, 2) := de_15 tX7_lay_115 (by decide +kernel)
def tX7_lay_117 := Bt_2 (q := 117) tX7_lay_115 rfl
theorem dX7_lay_117 : decode cX7_lay 117 = .ok (.aload_n 0, 1) := de_2a tX7_lay_117
def tX7_lay_118 := Bt_1 (q := 118) tX7_lay_117 rfl
theorem dX7_lay_118 : decode cX7_lay 118 = .ok (.getfield 12, 3) := de_b4 tX7_lay_118 (by decide +kernel)
def tX7_lay_121 := Bt_3 (q := 121) tX7_lay_118 rfl
theorem dX7_lay_121 : decode cX7_lay 121 = .ok (.getfield 78, 3) := de_b4 tX7_lay_121 (by decide +kernel)
def tX7_lay_124 := Bt_3 (q := 124) tX7_lay_121 rfl
theorem dX7_lay_124 : decode cX7_lay 124 = .ok (.lastore, 1) := de_50 tX7_lay_124
def tX7_lay_125 := Bt_1 (q := 125) tX7_lay_124 rfl
theorem dX7_lay_125 : decode cX7_lay 125 = .ok (.aload_n 0, 1) := de_2a tX7_lay_125
def tX7_lay_126 := Bt_1 (q := 126) tX7_lay_125 rfl
theorem dX7_lay_126 : decode cX7_lay 126 = .ok (.getfield 30, 3) := de_b4 tX7_lay_126 (by decide +kernel)
def tX7_lay_129 := Bt_3 (q := 129) tX7_lay_126 rfl
theorem dX7_lay_129 : decode cX7_lay 129 = .ok (.iload 5, 2) := de_15 tX7_lay_129 (by decide +kernel)
def tX7_lay_131 := Bt_2 (q := 131) tX7_lay_129 rfl
theorem dX7_lay_131 : decode cX7_lay 131 = .ok (.aload_n 0, 1) := de_2a tX7_lay_131
def tX7_lay_132 := Bt_1 (q := 132) tX7_lay_131 rfl
theorem dX7_lay_132 : decode cX7_lay 132 = .ok (.getfield 12, 3) := de_b4 tX7_lay_132 (by decide +kernel)
def tX7_lay_135 := Bt_3 (q := 135) tX7_lay_132 rfl
theorem dX7_lay_135 : decode cX7_lay 135 = .ok (.getfield 82, 3) := de_b4 tX7_lay_135 (by decide +kernel)
def tX7_lay_138 := Bt_3 (q := 138) tX7_lay_135 rfl
theorem dX7_lay_138 : decode cX7_lay 138 = .ok (.lastore, 1) := de_50 tX7_lay_138
def tX7_lay_139 := Bt_1 (q := 139) tX7_lay_138 rfl
theorem dX7_lay_139 : decode cX7_lay 139 = .ok (.iinc 5 1, 3) := de_84 tX7_lay_139 (by decide +kernel) (by decide +kernel)
def tX7_lay_142 := Bt_3 (q := 142) tX7_lay_139 rfl
theorem dX7_lay_142 : decode cX7_lay 142 = .ok (.goto (-52), 3) := de_a7 tX7_lay_142 (by decide +kernel)
def tX7_lay_145 := Bt_3 (q := 145) tX7_lay_142 rfl
theorem dX7_lay_145 : decode cX7_lay 145 = .ok (.aload_n 0, 1) := de_2a tX7_lay_145
def tX7_lay_146 := Bt_1 (q := 146) tX7_lay_145 rfl
theorem dX7_lay_146 : decode cX7_lay 146 = .ok (.invokevirtual 85, 3) := de_b6 tX7_lay_146 (by decide +kernel)
def tX7_lay_149 := Bt_3 (q := 149) tX7_lay_146 rfl
theorem dX7_lay_149 : decode cX7_lay 149 = .ok (.return_, 1) := de_b1 tX7_lay_149
def tX7_sumUp_0 := Bt_0 cX7_sumUp
theorem dX7_sumUp_0 : decode cX7_sumUp 0 = .ok (.lconst 0, 1) := de_09 tX7_sumUp_0
def tX7_sumUp_1 := Bt_1 (q := 1) tX7_sumUp_0 rfl
theorem dX7_sumUp_1 : decode cX7_sumUp 1 = .ok (.lstore_n 1, 1) := de_40 tX7_sumUp_1
def tX7_sumUp_2 := Bt_1 (q := 2) tX7_sumUp_1 rfl
theorem dX7_sumUp_2 : decode cX7_sumUp 2 = .ok (.aload_n 0, 1) := de_2a tX7_sumUp_2
def tX7_sumUp_3 := Bt_1 (q := 3) tX7_sumUp_2 rfl
theorem dX7_sumUp_3 : decode cX7_sumUp 3 = .ok (.ldc2_w 90, 3) := de_14 tX7_sumUp_3 (by decide +kernel)
def tX7_sumUp_6 := Bt_3 (q := 6) tX7_sumUp_3 rfl
theorem dX7_sumUp_6 : decode cX7_sumUp 6 = .ok (.putfield 92, 3) := de_b5 tX7_sumUp_6 (by decide +kernel)
def tX7_sumUp_9 := Bt_3 (q := 9) tX7_sumUp_6 rfl
theorem dX7_sumUp_9 : decode cX7_sumUp 9 = .ok (.aload_n 0, 1) := de_2a tX7_sumUp_9
def tX7_sumUp_10 := Bt_1 (q := 10) tX7_sumUp_9 rfl
theorem dX7_sumUp_10 : decode cX7_sumUp 10 = .ok (.lconst 0, 1) := de_09 tX7_sumUp_10
def tX7_sumUp_11 := Bt_1 (q := 11) tX7_sumUp_10 rfl
theorem dX7_sumUp_11 : decode cX7_sumUp 11 = .ok (.putfield 95, 3) := de_b5 tX7_sumUp_11 (by decide +kernel)
def tX7_sumUp_14 := Bt_3 (q := 14) tX7_sumUp_11 rfl
theorem dX7_sumUp_14 : decode cX7_sumUp 14 = .ok (.aload_n 0, 1) := de_2a tX7_sumUp_14
def tX7_sumUp_15 := Bt_1 (q := 15) tX7_sumUp_14 rfl
theorem dX7_sumUp_15 : decode cX7_sumUp 15 = .ok (.iconst 0, 1) := de_03 tX7_sumUp_15
def tX7_sumUp_16 := Bt_1 (q := 16) tX7_sumUp_15 rfl
theorem dX7_sumUp_16 : decode cX7_sumUp 16 = .ok (.putfield 98, 3) := de_b5 tX7_sumUp_16 (by decide +kernel)
def tX7_sumUp_19 := Bt_3 (q := 19) tX7_sumUp_16 rfl
theorem dX7_sumUp_19 : decode cX7_sumUp 19 = .ok (.aload_n 0, 1) := de_2a tX7_sumUp_19
def tX7_sumUp_20 := Bt_1 (q := 20) tX7_sumUp_19 rfl
theorem dX7_sumUp_20 : decode cX7_sumUp 20 = .ok (.lconst 0, 1) := de_09 tX7_sumUp_20
def tX7_sumUp_21 := Bt_1 (q := 21) tX7_sumUp_20 rfl
theorem dX7_sumUp_21 : decode cX7_sumUp 21 = .ok (.putfield 102, 3) := de_b5 tX7_sumUp_21 (by decide +kernel)
def tX7_sumUp_24 := Bt_3 (q := 24) tX7_sumUp_21 rfl
theorem dX7_sumUp_24 : decode cX7_sumUp 24 = .ok (.aload_n 0, 1) := de_2a tX7_sumUp_24
def tX7_sumUp_25 := Bt_1 (q := 25) tX7_sumUp_24 rfl
theorem dX7_sumUp_25 : decode cX7_sumUp 25 = .ok (.lconst 1, 1) := de_0a tX7_sumUp_25
def tX7_sumUp_26 := Bt_1 (q := 26) tX7_sumUp_25 rfl
theorem dX7_sumUp_26 : decode cX7_sumUp 26 = .ok (.putfield 105, 3) := de_b5 tX7_sumUp_26 (by decide +kernel)
def tX7_sumUp_29 := Bt_3 (q := 29) tX7_sumUp_26 rfl
theorem dX7_sumUp_29 : decode cX7_sumUp 29 = .ok (.iconst 0, 1) := de_03 tX7_sumUp_29
def tX7_sumUp_30 := Bt_1 (q := 30) tX7_sumUp_29 rfl
theorem dX7_sumUp_30 : decode cX7_sumUp 30 = .ok (.istore_n 3, 1) := de_3e tX7_sumUp_30
def tX7_sumUp_31 := Bt_1 (q := 31) tX7_sumUp_30 rfl
theorem dX7_sumUp_31 : decode cX7_sumUp 31 = .ok (.iload_n 3, 1) := de_1d tX7_sumUp_31
def tX7_sumUp_32 := Bt_1 (q := 32) tX7_sumUp_31 rfl
theorem dX7_sumUp_32 : decode cX7_sumUp 32 = .ok (.bipush 8, 2) := de_10 tX7_sumUp_32 (by decide +kernel)
def tX7_sumUp_34 := Bt_2 (q := 34) tX7_sumUp_32 rfl
theorem dX7_sumUp_34 : decode cX7_sumUp 34 = .ok (.if_icmp .ge 120, 3) := de_a2 tX7_sumUp_34 (by decide +kernel)
def tX7_sumUp_37 := Bt_3 (q := 37) tX7_sumUp_34 rfl
theorem dX7_sumUp_37 : decode cX7_sumUp 37 = .ok (.aload_n 0, 1) := de_2a tX7_sumUp_37
def tX7_sumUp_38 := Bt_1 (q := 38) tX7_sumUp_37 rfl
theorem dX7_sumUp_38 : decode cX7_sumUp 38 = .ok (.getfield 18, 3) := de_b4 tX7_sumUp_38 (by decide +kernel)
def tX7_sumUp_41 := Bt_3 (q := 41) tX7_sumUp_38 rfl
theorem dX7_sumUp_41 : decode cX7_sumUp 41 = .ok (.iload_n 3, 1) := de_1d tX7_sumUp_41
def tX7_sumUp_42 := Bt_1 (q := 42) tX7_sumUp_41 rfl
theorem dX7_sumUp_42 : decode cX7_sumUp 42 = .ok (.baload, 1) := de_33 tX7_sumUp_42
def tX7_sumUp_43 := Bt_1 (q := 43) tX7_sumUp_42 rfl
theorem dX7_sumUp_43 : decode cX7_sumUp 43 = .ok (.ifCond .eq 105, 3) := de_99 tX7_sumUp_43 (by decide +kernel)
def tX7_sumUp_46 := Bt_3 (q := 46) tX7_sumUp_43 rfl
theorem dX7_sumUp_46 : decode cX7_sumUp 46 = .ok (.aload_n 0, 1) := de_2a tX7_sumUp_46
def tX7_sumUp_47 := Bt_1 (q := 47) tX7_sumUp_46 rfl
theorem dX7_sumUp_47 : decode cX7_sumUp 47 = .ok (.aload_n 0, 1) := de_2a tX7_sumUp_47
def tX7_sumUp_48 := Bt_1 (q := 48) tX7_sumUp_47 rfl
theorem dX7_sumUp_48 : decode cX7_sumUp 48 = .ok (.getfield 92, 3) := de_b4 tX7_sumUp_48 (by decide +kernel)
def tX7_sumUp_51 := Bt_3 (q := 51) tX7_sumUp_48 rfl
theorem dX7_sumUp_51 : decode cX7_sumUp 51 = .ok (.aload_n 0, 1) := de_2a tX7_sumUp_51
def tX7_sumUp_52 := Bt_1 (q := 52) tX7_sumUp_51 rfl
theorem dX7_sumUp_52 : decode cX7_sumUp 52 = .ok (.getfield 22, 3) := de_b4 tX7_sumUp_52 (by decide +kernel)
def tX7_sumUp_55 := Bt_3 (q := 55) tX7_sumUp_52 rfl
theorem dX7_sumUp_55 : decode cX7_sumUp 55 = .ok (.iload_n 3, 1) := de_1d tX7_sumUp_55
def tX7_sumUp_56 := Bt_1 (q := 56) tX7_sumUp_55 rfl
theorem dX7_sumUp_56 : decode cX7_sumUp 56 = .ok (.iaload, 1) := de_2e tX7_sumUp_56
def tX7_sumUp_57 := Bt_1 (q := 57) tX7_sumUp_56 rfl
theorem dX7_sumUp_57 : decode cX7_sumUp 57 = .ok (.i2l, 1) := de_85 tX7_sumUp_57
def tX7_sumUp_58 := Bt_1 (q := 58) tX7_sumUp_57 rfl
theorem dX7_sumUp_58 : decode cX7_sumUp 58 = .ok (.invokestatic 108, 3) := de_b8 tX7_sumUp_58 (by decide +kernel)
def tX7_sumUp_61 := Bt_3 (q := 61) tX7_sumUp_58 rfl
theorem dX7_sumUp_61 : decode cX7_sumUp 61 = .ok (.putfield 92, 3) := de_b5 tX7_sumUp_61 (by decide +kernel)
def tX7_sumUp_64 := Bt_3 (q := 64) tX7_sumUp_61 rfl
theorem dX7_sumUp_64 : decode cX7_sumUp 64 = .ok (.aload_n 0, 1) := de_2a tX7_sumUp_64
def tX7_sumUp_65 := Bt_1 (q := 65) tX7_sumUp_64 rfl
theorem dX7_sumUp_65 : decode cX7_sumUp 65 = .ok (.aload_n 0, 1) := de_2a tX7_sumUp_65
def tX7_sumUp_66 := Bt_1 (q := 66) tX7_sumUp_65 rfl
theorem dX7_sumUp_66 : decode cX7_sumUp 66 = .ok (.getfield 95, 3) := de_b4 tX7_sumUp_66 (by decide +kernel)
def tX7_sumUp_69 := Bt_3 (q := 69) tX7_sumUp_66 rfl
theorem dX7_sumUp_69 : decode cX7_sumUp 69 = .ok (.aload_n 0, 1) := de_2a tX7_sumUp_69
def tX7_sumUp_70 := Bt_1 (q := 70) tX7_sumUp_69 rfl
theorem dX7_sumUp_70 : decode cX7_sumUp 70 = .ok (.getfield 22, 3) := de_b4 tX7_sumUp_70 (by decide +kernel)
def tX7_sumUp_73 := Bt_3 (q := 73) tX7_sumUp_70 rfl
theorem dX7_sumUp_73 : decode cX7_sumUp 73 = .ok (.iload_n 3, 1) := de_1d tX7_sumUp_73
def tX7_sumUp_74 := Bt_1 (q := 74) tX7_sumUp_73 rfl
theorem dX7_sumUp_74 : decode cX7_sumUp 74 = .ok (.iaload, 1) := de_2e tX7_sumUp_74
def tX7_sumUp_75 := Bt_1 (q := 75) tX7_sumUp_74 rfl
theorem dX7_sumUp_75 : decode cX7_sumUp 75 = .ok (.i2l, 1) := de_85 tX7_sumUp_75
def tX7_sumUp_76 := Bt_1 (q := 76) tX7_sumUp_75 rfl
theorem dX7_sumUp_76 : decode cX7_sumUp 76 = .ok (.invokestatic 114, 3) := de_b8 tX7_sumUp_76 (by decide +kernel)
def tX7_sumUp_79 := Bt_3 (q := 79) tX7_sumUp_76 rfl
theorem dX7_sumUp_79 : decode cX7_sumUp 79 = .ok (.putfield 95, 3) := de_b5 tX7_sumUp_79 (by decide +kernel)
def tX7_sumUp_82 := Bt_3 (q := 82) tX7_sumUp_79 rfl
theorem dX7_sumUp_82 : decode cX7_sumUp 82 = .ok (.lload_n 1, 1) := de_1f tX7_sumUp_82
def tX7_sumUp_83 := Bt_1 (q := 83) tX7_sumUp_82 rfl
theorem dX7_sumUp_83 : decode cX7_sumUp 83 = .ok (.aload_n 0, 1) := de_2a tX7_sumUp_83
def tX7_sumUp_84 := Bt_1 (q := 84) tX7_sumUp_83 rfl
theorem dX7_sumUp_84 : decode cX7_sumUp 84 = .ok (.getfield 22, 3) := de_b4 tX7_sumUp_84 (by decide +kernel)
def tX7_sumUp_87 := Bt_3 (q := 87) tX7_sumUp_84 rfl
theorem dX7_sumUp_87 : decode cX7_sumUp 87 = .ok (.iload_n 3, 1) := de_1d tX7_sumUp_87
def tX7_sumUp_88 := Bt_1 (q := 88) tX7_sumUp_87 rfl
theorem dX7_sumUp_88 : decode cX7_sumUp 88 = .ok (.iaload, 1) := de_2e tX7_sumUp_88
def tX7_sumUp_89 := Bt_1 (q := 89) tX7_sumUp_88 rfl
theorem dX7_sumUp_89 : decode cX7_sumUp 89 = .ok (.i2l, 1) := de_85 tX7_sumUp_89
def tX7_sumUp_90 := Bt_1 (q := 90) tX7_sumUp_89 rfl
theorem dX7_sumUp_90 : decode cX7_sumUp 90 = .ok (.ladd, 1) := de_61 tX7_sumUp_90
def tX7_sumUp_91 := Bt_1 (q := 91) tX7_sumUp_90 rfl
theorem dX7_sumUp_91 : decode cX7_sumUp 91 = .ok (.lstore_n 1, 1) := de_40 tX7_sumUp_91
def tX7_sumUp_92 := Bt_1 (q := 92) tX7_sumUp_91 rfl
theorem dX7_sumUp_92 : decode cX7_sumUp 92 = .ok (.aload_n 0, 1) := de_2a tX7_sumUp_92
def tX7_sumUp_93 := Bt_1 (q := 93) tX7_sumUp_92 rfl
theorem dX7_sumUp_93 : decode cX7_sumUp 93 = .ok (.dup, 1) := de_59 tX7_sumUp_93
def tX7_sumUp_94 := Bt_1 (q := 94) tX7_sumUp_93 rfl
theorem dX7_sumUp_94 : decode cX7_sumUp 94 = .ok (.getfield 98, 3) := de_b4 tX7_sumUp_94 (by decide +kernel)
def tX7_sumUp_97 := Bt_3 (q := 97) tX7_sumUp_94 rfl
theorem dX7_sumUp_97 : decode cX7_sumUp 97 = .ok (.iconst 1, 1) := de_04 tX7_sumUp_97
def tX7_sumUp_98 := Bt_1 (q := 98) tX7_sumUp_97 rfl
theorem dX7_sumUp_98 : decode cX7_sumUp 98 = .ok (.iadd, 1) := de_60 tX7_sumUp_98
def tX7_sumUp_99 := Bt_1 (q := 99) tX7_sumUp_98 rfl
theorem dX7_sumUp_99 : decode cX7_sumUp 99 = .ok (.putfield 98, 3) := de_b5 tX7_sumUp_99 (by decide +kernel)
def tX7_sumUp_102 := Bt_3 (q := 102) tX7_sumUp_99 rfl
theorem dX7_sumUp_102 : decode cX7_sumUp 102 = .ok (.aload_n 0, 1) := de_2a tX7_sumUp_102
def tX7_sumUp_103 := Bt_1 (q := 103) tX7_sumUp_102 rfl
theorem dX7_sumUp_103 : decode cX7_sumUp 103 = .ok (.getfield 26, 3) := de_b4 tX7_sumUp_103 (by decide +kernel)
def tX7_sumUp_106 := Bt_3 (q := 106) tX7_sumUp_103 rfl
theorem dX7_sumUp_106 : decode cX7_sumUp 106 = .ok (.iload_n 3, 1) := de_1d tX7_sumUp_106
def tX7_sumUp_107 := Bt_1 (q := 107) tX7_sumUp_106 rfl
theorem dX7_sumUp_107 : decode cX7_sumUp 107 = .ok (.laload, 1) := de_2f tX7_sumUp_107
def tX7_sumUp_108 := Bt_1 (q := 108) tX7_sumUp_107 rfl
theorem dX7_sumUp_108 : decode cX7_sumUp 108 = .ok (.aload_n 0, 1) := de_2a tX7_sumUp_108
def tX7_sumUp_109 := Bt_1 (q := 109) tX7_sumUp_108 rfl
theorem dX7_sumUp_109 : decode cX7_sumUp 109 = .ok (.getfield 105, 3) := de_b4 tX7_sumUp_109 (by decide +kernel)
def tX7_sumUp_112 := Bt_3 (q := 112) tX7_sumUp_109 rfl
theorem dX7_sumUp_112 : decode cX7_sumUp 112 = .ok (.lmul, 1) := de_69 tX7_sumUp_112
def tX7_sumUp_113 := Bt_1 (q := 113) tX7_sumUp_112 rfl
theorem dX7_sumUp_113 : decode cX7_sumUp 113 = .ok (.aload_n 0, 1) := de_2a tX7_sumUp_113
def tX7_sumUp_114 := Bt_1 (q := 114) tX7_sumUp_113 rfl
theorem dX7_sumUp_114 : decode cX7_sumUp 114 = .ok (.getfield 102, 3) := de_b4 tX7_sumUp_114 (by decide +kernel)
def tX7_sumUp_117 := Bt_3 (q := 117) tX7_sumUp_114 rfl
theorem dX7_sumUp_117 : decode cX7_sumUp 117 = .ok (.aload_n 0, 1) := de_2a tX7_sumUp_117
def tX7_sumUp_118 := Bt_1 (q := 118) tX7_sumUp_117 rfl
theorem dX7_sumUp_118 : decode cX7_sumUp 118 = .ok (.getfield 30, 3) := de_b4 tX7_sumUp_118 (by decide +kernel)
def tX7_sumUp_121 := Bt_3 (q := 121) tX7_sumUp_118 rfl
theorem dX7_sumUp_121 : decode cX7_sumUp 121 = .ok (.iload_n 3, 1) := de_1d tX7_sumUp_121
def tX7_sumUp_122 := Bt_1 (q := 122) tX7_sumUp_121 rfl
theorem dX7_sumUp_122 : decode cX7_sumUp 122 = .ok (.laload, 1) := de_2f tX7_sumUp_122
def tX7_sumUp_123 := Bt_1 (q := 123) tX7_sumUp_122 rfl
theorem dX7_sumUp_123 : decode cX7_sumUp 123 = .ok (.lmul, 1) := de_69 tX7_sumUp_123
def tX7_sumUp_124 := Bt_1 (q := 124) tX7_sumUp_123 rfl
theorem dX7_sumUp_124 : decode cX7_sumUp 124 = .ok (.lcmp, 1) := de_94 tX7_sumUp_124
def tX7_sumUp_125 := Bt_1 (q := 125) tX7_sumUp_124 rfl
theorem dX7_sumUp_125 : decode cX7_sumUp 125 = .ok (.ifCond .le 23, 3) := de_9e tX7_sumUp_125 (by decide +kernel)
def tX7_sumUp_128 := Bt_3 (q := 128) tX7_sumUp_125 rfl
theorem dX7_sumUp_128 : decode cX7_sumUp 128 = .ok (.aload_n 0, 1) := de_2a tX7_sumUp_128
def tX7_sumUp_129 := Bt_1 (q := 129) tX7_sumUp_128 rfl
theorem dX7_sumUp_129 : decode cX7_sumUp 129 = .ok (.aload_n 0, 1) := de_2a tX7_sumUp_129
def tX7_sumUp_130 := Bt_1 (q := 130) tX7_sumUp_129 rfl
theorem dX7_sumUp_130 : decode cX7_sumUp 130 = .ok (.getfield 26, 3) := de_b4 tX7_sumUp_130 (by decide +kernel)
def tX7_sumUp_133 := Bt_3 (q := 133) tX7_sumUp_130 rfl
theorem dX7_sumUp_133 : decode cX7_sumUp 133 = .ok (.iload_n 3, 1) := de_1d tX7_sumUp_133
def tX7_sumUp_134 := Bt_1 (q := 134) tX7_sumUp_133 rfl
theorem dX7_sumUp_134 : decode cX7_sumUp 134 = .ok (.laload, 1) := de_2f tX7_sumUp_134
def tX7_sumUp_135 := Bt_1 (q := 135) tX7_sumUp_134 rfl
theorem dX7_sumUp_135 : decode cX7_sumUp 135 = .ok (.putfield 102, 3) := de_b5 tX7_sumUp_135 (by decide +kernel)
def tX7_sumUp_138 := Bt_3 (q := 138) tX7_sumUp_135 rfl
theorem dX7_sumUp_138 : decode cX7_sumUp 138 = .ok (.aload_n 0, 1) := de_2a tX7_sumUp_138
def tX7_sumUp_139 := Bt_1 (q := 139) tX7_sumUp_138 rfl
theorem dX7_sumUp_139 : decode cX7_sumUp 139 = .ok (.aload_n 0, 1) := de_2a tX7_sumUp_139
def tX7_sumUp_140 := Bt_1 (q := 140) tX7_sumUp_139 rfl
theorem dX7_sumUp_140 : decode cX7_sumUp 140 = .ok (.getfield 30, 3) := de_b4 tX7_sumUp_140 (by decide +kernel)
def tX7_sumUp_143 := Bt_3 (q := 143) tX7_sumUp_140 rfl
theorem dX7_sumUp_143 : decode cX7_sumUp 143 = .ok (.iload_n 3, 1) := de_1d tX7_sumUp_143
def tX7_sumUp_144 := Bt_1 (q := 144) tX7_sumUp_143 rfl
theorem dX7_sumUp_144 : decode cX7_sumUp 144 = .ok (.laload, 1) := de_2f tX7_sumUp_144
def tX7_sumUp_145 := Bt_1 (q := 145) tX7_sumUp_144 rfl
theorem dX7_sumUp_145 : decode cX7_sumUp 145 = .ok (.putfield 105, 3) := de_b5 tX7_sumUp_145 (by decide +kernel)
def tX7_sumUp_148 := Bt_3 (q := 148) tX7_sumUp_145 rfl
theorem dX7_sumUp_148 : decode cX7_sumUp 148 = .ok (.iinc 3 1, 3) := de_84 tX7_sumUp_148 (by decide +kernel) (by decide +kernel)
def tX7_sumUp_151 := Bt_3 (q := 151) tX7_sumUp_148 rfl
theorem dX7_sumUp_151 : decode cX7_sumUp 151 = .ok (.goto (-120), 3) := de_a7 tX7_sumUp_151 (by decide +kernel)
def tX7_sumUp_154 := Bt_3 (q := 154) tX7_sumUp_151 rfl
theorem dX7_sumUp_154 : decode cX7_sumUp 154 = .ok (.aload_n 0, 1) := de_2a tX7_sumUp_154
def tX7_sumUp_155 := Bt_1 (q := 155) tX7_sumUp_154 rfl
theorem dX7_sumUp_155 : decode cX7_sumUp 155 = .ok (.getfield 12, 3) := de_b4 tX7_sumUp_155 (by decide +kernel)
def tX7_sumUp_158 := Bt_3 (q := 158) tX7_sumUp_155 rfl
theorem dX7_sumUp_158 : decode cX7_sumUp 158 = .ok (.lload_n 1, 1) := de_1f tX7_sumUp_158
def tX7_sumUp_159 := Bt_1 (q := 159) tX7_sumUp_158 rfl
theorem dX7_sumUp_159 : decode cX7_sumUp 159 = .ok (.iconst 1, 1) := de_04 tX7_sumUp_159
def tX7_sumUp_160 := Bt_1 (q := 160) tX7_sumUp_159 rfl
theorem dX7_sumUp_160 : decode cX7_sumUp 160 = .ok (.aload_n 0, 1) := de_2a tX7_sumUp_160
def tX7_sumUp_161 := Bt_1 (q := 161) tX7_sumUp_160 rfl
theorem dX7_sumUp_161 : decode cX7_sumUp 161 = .ok (.getfield 98, 3) := de_b4 tX7_sumUp_161 (by decide +kernel)
def tX7_sumUp_164 := Bt_3 (q := 164) tX7_sumUp_161 rfl
theorem dX7_sumUp_164 : decode cX7_sumUp 164 = .ok (.invokestatic 117, 3) := de_b8 tX7_sumUp_164 (by decide +kernel)
def tX7_sumUp_167 := Bt_3 (q := 167) tX7_sumUp_164 rfl
theorem dX7_sumUp_167 : decode cX7_sumUp 167 = .ok (.i2l, 1) := de_85 tX7_sumUp_167
def tX7_sumUp_168 := Bt_1 (q := 168) tX7_sumUp_167 rfl
theorem dX7_sumUp_168 : decode cX7_sumUp 168 = .ok (.invokevirtual 119, 3) := de_b6 tX7_sumUp_168 (by decide +kernel)
def tX7_sumUp_171 := Bt_3 (q := 171) tX7_sumUp_168 rfl
theorem dX7_sumUp_171 : decode cX7_sumUp 171 = .ok (.aload_n 0, 1) := de_2a tX7_sumUp_171
def tX7_sumUp_172 := Bt_1 (q := 172) tX7_sumUp_171 rfl
theorem dX7_sumUp_172 : decode cX7_sumUp 172 = .ok (.aload_n 0, 1) := de_2a tX7_sumUp_172
def tX7_sumUp_173 := Bt_1 (q := 173) tX7_sumUp_172 rfl
theorem dX7_sumUp_173 : decode cX7_sumUp 173 = .ok (.getfield 12, 3) := de_b4 tX7_sumUp_173 (by decide +kernel)
def tX7_sumUp_176 := Bt_3 (q := 176) tX7_sumUp_173 rfl
theorem dX7_sumUp_176 : decode cX7_sumUp 176 = .ok (.getfield 78, 3) := de_b4 tX7_sumUp_176 (by decide +kernel)
def tX7_sumUp_179 := Bt_3 (q := 179) tX7_sumUp_176 rfl
theorem dX7_sumUp_179 : decode cX7_sumUp 179 = .ok (.putfield 123, 3) := de_b5 tX7_sumUp_179 (by decide +kernel)
def tX7_sumUp_182 := Bt_3 (q := 182) tX7_sumUp_179 rfl
theorem dX7_sumUp_182 : decode cX7_sumUp 182 = .ok (.aload_n 0, 1) := de_2a tX7_sumUp_182
def tX7_sumUp_183 := Bt_1 (q := 183) tX7_sumUp_182 rfl
theorem dX7_sumUp_183 : decode cX7_sumUp 183 = .ok (.aload_n 0, 1) := de_2a tX7_sumUp_183
def tX7_sumUp_184 := Bt_1 (q := 184) tX7_sumUp_183 rfl
theorem dX7_sumUp_184 : decode cX7_sumUp 184 = .ok (.getfield 12, 3) := de_b4 tX7_sumUp_184 (by decide +kernel)
def tX7_sumUp_187 := Bt_3 (q := 187) tX7_sumUp_184 rfl
theorem dX7_sumUp_187 : decode cX7_sumUp 187 = .ok (.getfield 82, 3) := de_b4 tX7_sumUp_187 (by decide +kernel)
def tX7_sumUp_190 := Bt_3 (q := 190) tX7_sumUp_187 rfl
theorem dX7_sumUp_190 : decode cX7_sumUp 190 = .ok (.putfield 126, 3) := de_b5 tX7_sumUp_190 (by decide +kernel)
def tX7_sumUp_193 := Bt_3 (q := 193) tX7_sumUp_190 rfl
theorem dX7_sumUp_193 : decode cX7_sumUp 193 = .ok (.return_, 1) := de_b1 tX7_sumUp_193
def tX7_workGain_0 := Bt_0 cX7_workGain
theorem dX7_workGain_0 : decode cX7_workGain 0 = .ok (.aload_n 0, 1) := de_2a tX7_workGain_0
def tX7_workGain_1 := Bt_1 (q := 1) tX7_workGain_0 rfl
theorem dX7_workGain_1 : decode cX7_workGain 1 = .ok (.aload_n 1, 1) := de_2b tX7_workGain_1
def tX7_workGain_2 := Bt_1 (q := 2) tX7_workGain_1 rfl
theorem dX7_workGain_2 : decode cX7_workGain 2 = .ok (.iload_n 2, 1) := de_1c tX7_workGain_2
def tX7_workGain_3 := Bt_1 (q := 3) tX7_workGain_2 rfl
theorem dX7_workGain_3 : decode cX7_workGain 3 = .ok (.invokevirtual 129, 3) := de_b6 tX7_workGain_3 (by decide +kernel)
def tX7_workGain_6 := Bt_3 (q := 6) tX7_workGain_3 rfl
theorem dX7_workGain_6 : decode cX7_workGain 6 = .ok (.aload_n 0, 1) := de_2a tX7_workGain_6
def tX7_workGain_7 := Bt_1 (q := 7) tX7_workGain_6 rfl
theorem dX7_workGain_7 : decode cX7_workGain 7 = .ok (.getfield 39, 3) := de_b4 tX7_workGain_7 (by decide +kernel)
def tX7_workGain_10 := Bt_3 (q := 10) tX7_workGain_7 rfl
theorem dX7_workGain_10 : decode cX7_workGain 10 = .ok (.iload_n 2, 1) := de_1c tX7_workGain_10
def tX7_workGain_11 := Bt_1 (q := 11) tX7_workGain_10 rfl
theorem dX7_workGain_11 : decode cX7_workGain 11 = .ok (.baload, 1) := de_33 tX7_workGain_11
def tX7_workGain_12 := Bt_1 (q := 12) tX7_workGain_11 rfl
theorem dX7_workGain_12 : decode cX7_workGain 12 = .ok (.ifCond .eq 5, 3) := de_99 tX7_workGain_12 (by decide +kernel)
def tX7_workGain_15 := Bt_3 (q := 15) tX7_workGain_12 rfl
theorem dX7_workGain_15 : decode cX7_workGain 15 = .ok (.iconst 0, 1) := de_03 tX7_workGain_15
def tX7_workGain_16 := Bt_1 (q := 16) tX7_workGain_15 rfl
theorem dX7_workGain_16 : decode cX7_workGain 16 = .ok (.ireturn, 1) := de_ac tX7_workGain_16
def tX7_workGain_17 := Bt_1 (q := 17) tX7_workGain_16 rfl
theorem dX7_workGain_17 : decode cX7_workGain 17 = .ok (.aload_n 0, 1) := de_2a tX7_workGain_17
def tX7_workGain_18 := Bt_1 (q := 18) tX7_workGain_17 rfl
theorem dX7_workGain_18 : decode cX7_workGain 18 = .ok (.getfield 33, 3) := de_b4 tX7_workGain_18 (by decide +kernel)
def tX7_workGain_21 := Bt_3 (q := 21) tX7_workGain_18 rfl
theorem dX7_workGain_21 : decode cX7_workGain 21 = .ok (.iload_n 2, 1) := de_1c tX7_workGain_21
def tX7_workGain_22 := Bt_1 (q := 22) tX7_workGain_21 rfl
theorem dX7_workGain_22 : decode cX7_workGain 22 = .ok (.laload, 1) := de_2f tX7_workGain_22
def tX7_workGain_23 := Bt_1 (q := 23) tX7_workGain_22 rfl
theorem dX7_workGain_23 : decode cX7_workGain 23 = .ok (.lstore 4, 2) := de_37 tX7_workGain_23 (by decide +kernel)
def tX7_workGain_25 := Bt_2 (q := 25) tX7_workGain_23 rfl
theorem dX7_workGain_25 : decode cX7_workGain 25 = .ok (.aload_n 0, 1) := de_2a tX7_workGain_25
def tX7_workGain_26 := Bt_1 (q := 26) tX7_workGain_25 rfl
theorem dX7_workGain_26 : decode cX7_workGain 26 = .ok (.getfield 36, 3) := de_b4 tX7_workGain_26 (by decide +kernel)
def tX7_workGain_29 := Bt_3 (q := 29) tX7_workGain_26 rfl
theorem dX7_workGain_29 : decode cX7_workGain 29 = .ok (.iload_n 2, 1) := de_1c tX7_workGain_29
def tX7_workGain_30 := Bt_1 (q := 30) tX7_workGain_29 rfl
theorem dX7_workGain_30 : decode cX7_workGain 30 = .ok (.laload, 1) := de_2f tX7_workGain_30
def tX7_workGain_31 := Bt_1 (q := 31) tX7_workGain_30 rfl
theorem dX7_workGain_31 : decode cX7_workGain 31 = .ok (.lstore 6, 2) := de_37 tX7_workGain_31 (by decide +kernel)
def tX7_workGain_33 := Bt_2 (q := 33) tX7_workGain_31 rfl
theorem dX7_workGain_33 : decode cX7_workGain 33 = .ok (.aload_n 0, 1) := de_2a tX7_workGain_33
def tX7_workGain_34 := Bt_1 (q := 34) tX7_workGain_33 rfl
theorem dX7_workGain_34 : decode cX7_workGain 34 = .ok (.getfield 22, 3) := de_b4 tX7_workGain_34 (by decide +kernel)
def tX7_workGain_37 := Bt_3 (q := 37) tX7_workGain_34 rfl
theorem dX7_workGain_37 : decode cX7_workGain 37 = .ok (.iload_n 2, 1) := de_1c tX7_workGain_37
def tX7_workGain_38 := Bt_1 (q := 38) tX7_workGain_37 rfl
theorem dX7_workGain_38 : decode cX7_workGain 38 = .ok (.iconst 1, 1) := de_04 tX7_workGain_38
def tX7_workGain_39 := Bt_1 (q := 39) tX7_workGain_38 rfl
theorem dX7_workGain_39 : decode cX7_workGain 39 = .ok (.aload_n 0, 1) := de_2a tX7_workGain_39
def tX7_workGain_40 := Bt_1 (q := 40) tX7_workGain_39 rfl
theorem dX7_workGain_40 : decode cX7_workGain 40 = .ok (.getfield 22, 3) := de_b4 tX7_workGain_40 (by decide +kernel)
def tX7_workGain_43 := Bt_3 (q := 43) tX7_workGain_40 rfl
theorem dX7_workGain_43 : decode cX7_workGain 43 = .ok (.iload_n 2, 1) := de_1c tX7_workGain_43
def tX7_workGain_44 := Bt_1 (q := 44) tX7_workGain_43 rfl
theorem dX7_workGain_44 : decode cX7_workGain 44 = .ok (.iaload, 1) := de_2e tX7_workGain_44
def tX7_workGain_45 := Bt_1 (q := 45) tX7_workGain_44 rfl
theorem dX7_workGain_45 : decode cX7_workGain 45 = .ok (.iload_n 3, 1) := de_1d tX7_workGain_45
def tX7_workGain_46 := Bt_1 (q := 46) tX7_workGain_45 rfl
theorem dX7_workGain_46 : decode cX7_workGain 46 = .ok (.isub, 1) := de_64 tX7_workGain_46
def tX7_workGain_47 := Bt_1 (q := 47) tX7_workGain_46 rfl
theorem dX7_workGain_47 : decode cX7_workGain 47 = .ok (.invokestatic 117, 3) := de_b8 tX7_workGain_47 (by decide +kernel)
def tX7_workGain_50 := Bt_3 (q := 50) tX7_workGain_47 rfl
theorem dX7_workGain_50 : decode cX7_workGain 50 = .ok (.iastore, 1) := de_4f tX7_workGain_50
def tX7_workGain_51 := Bt_1 (q := 51) tX7_workGain_50 rfl
theorem dX7_workGain_51 : decode cX7_workGain 51 = .ok (.aload_n 0, 1) := de_2a tX7_workGain_51
def tX7_workGain_52 := Bt_1 (q := 52) tX7_workGain_51 rfl
theorem dX7_workGain_52 : decode cX7_workGain 52 = .ok (.invokevirtual 85, 3) := de_b6 tX7_workGain_52 (by decide +kernel)
def tX7_workGain_55 := Bt_3 (q := 55) tX7_workGain_52 rfl
theorem dX7_workGain_55 : decode cX7_workGain 55 = .ok (.aload_n 0, 1) := de_2a tX7_workGain_55
def tX7_workGain_56 := Bt_1 (q := 56) tX7_workGain_55 rfl
theorem dX7_workGain_56 : decode cX7_workGain 56 = .ok (.aload_n 1, 1) := de_2b tX7_workGain_56
def tX7_workGain_57 := Bt_1 (q := 57) tX7_workGain_56 rfl
theorem dX7_workGain_57 : decode cX7_workGain 57 = .ok (.iload_n 2, 1) := de_1c tX7_workGain_57
def tX7_workGain_58 := Bt_1 (q := 58) tX7_workGain_57 rfl
theorem dX7_workGain_58 : decode cX7_workGain 58 = .ok (.invokevirtual 129, 3) := de_b6 tX7_workGain_58 (by decide +kernel)
def tX7_workGain_61 := Bt_3 (q := 61) tX7_workGain_58 rfl
theorem dX7_workGain_61 : decode cX7_workGain 61 = .ok (.aload_n 0, 1) := de_2a tX7_workGain_61
def tX7_workGain_62 := Bt_1 (q := 62) tX7_workGain_61 rfl
theorem dX7_workGain_62 : decode cX7_workGain 62 = .ok (.getfield 39, 3) := de_b4 tX7_workGain_62 (by decide +kernel)
def tX7_workGain_65 := Bt_3 (q := 65) tX7_workGain_62 rfl
theorem dX7_workGain_65 : decode cX7_workGain 65 = .ok (.iload_n 2, 1) := de_1c tX7_workGain_65
def tX7_workGain_66 := Bt_1 (q := 66) tX7_workGain_65 rfl
theorem dX7_workGain_66 : decode cX7_workGain 66 = .ok (.baload, 1) := de_33 tX7_workGain_66
def tX7_workGain_67 := Bt_1 (q := 67) tX7_workGain_66 rfl
theorem dX7_workGain_67 : decode cX7_workGain 67 = .ok (.ifCond .eq 5, 3) := de_99 tX7_workGain_67 (by decide +kernel)
def tX7_workGain_70 := Bt_3 (q := 70) tX7_workGain_67 rfl
theorem dX7_workGain_70 : decode cX7_workGain 70 = .ok (.iconst 0, 1) := de_03 tX7_workGain_70
def tX7_workGain_71 := Bt_1 (q := 71) tX7_workGain_70 rfl
theorem dX7_workGain_71 : decode cX7_workGain 71 = .ok (.ireturn, 1) := de_ac tX7_workGain_71
def tX7_workGain_72 := Bt_1 (q := 72) tX7_workGain_71 rfl
theorem dX7_workGain_72 : decode cX7_workGain 72 = .ok (.aload_n 0, 1) := de_2a tX7_workGain_72
def tX7_workGain_73 := Bt_1 (q := 73) tX7_workGain_72 rfl
theorem dX7_workGain_73 : decode cX7_workGain 73 = .ok (.lload 4, 2) := de_16 tX7_workGain_73 (by decide +kernel)
def tX7_workGain_75 := Bt_2 (q := 75) tX7_workGain_73 rfl
theorem dX7_workGain_75 : decode cX7_workGain 75 = .ok (.lload 6, 2) := de_16 tX7_workGain_75 (by decide +kernel)
def tX7_workGain_77 := Bt_2 (q := 77) tX7_workGain_75 rfl
theorem dX7_workGain_77 : decode cX7_workGain 77 = .ok (.invokevirtual 133, 3) := de_b6 tX7_workGain_77 (by decide +kernel)
def tX7_workGain_80 := Bt_3 (q := 80) tX7_workGain_77 rfl
theorem dX7_workGain_80 : decode cX7_workGain 80 = .ok (.aload_n 0, 1) := de_2a tX7_workGain_80
def tX7_workGain_81 := Bt_1 (q := 81) tX7_workGain_80 rfl
theorem dX7_workGain_81 : decode cX7_workGain 81 = .ok (.bipush 45, 2) := de_10 tX7_workGain_81 (by decide +kernel)
def tX7_workGain_83 := Bt_2 (q := 83) tX7_workGain_81 rfl
theorem dX7_workGain_83 : decode cX7_workGain 83 = .ok (.invokevirtual 136, 3) := de_b6 tX7_workGain_83 (by decide +kernel)
def tX7_workGain_86 := Bt_3 (q := 86) tX7_workGain_83 rfl
theorem dX7_workGain_86 : decode cX7_workGain 86 = .ok (.aload_n 0, 1) := de_2a tX7_workGain_86
def tX7_workGain_87 := Bt_1 (q := 87) tX7_workGain_86 rfl
theorem dX7_workGain_87 : decode cX7_workGain 87 = .ok (.getfield 12, 3) := de_b4 tX7_workGain_87 (by decide +kernel)
def tX7_workGain_90 := Bt_3 (q := 90) tX7_workGain_87 rfl
theorem dX7_workGain_90 : decode cX7_workGain 90 = .ok (.getfield 140, 3) := de_b4 tX7_workGain_90 (by decide +kernel)
def tX7_workGain_93 := Bt_3 (q := 93) tX7_workGain_90 rfl
theorem dX7_workGain_93 : decode cX7_workGain 93 = .ok (.ifCond .ne 7, 3) := de_9a tX7_workGain_93 (by decide +kernel)
def tX7_workGain_96 := Bt_3 (q := 96) tX7_workGain_93 rfl
theorem dX7_workGain_96 : decode cX7_workGain 96 = .ok (.iconst 1, 1) := de_04 tX7_workGain_96
def tX7_workGain_97 := Bt_1 (q := 97) tX7_workGain_96 rfl
theorem dX7_workGain_97 : decode cX7_workGain 97 = .ok (.goto 4, 3) := de_a7 tX7_workGain_97 (by decide +kernel)
def tX7_workGain_100 := Bt_3 (q := 100) tX7_workGain_97 rfl
theorem dX7_workGain_100 : decode cX7_workGain 100 = .ok (.iconst 0, 1) := de_03 tX7_workGain_100
def tX7_workGain_101 := Bt_1 (q := 101) tX7_workGain_100 rfl
theorem dX7_workGain_101 : decode cX7_workGain 101 = .ok (.ireturn, 1) := de_ac tX7_workGain_101
def tX7_work_0 := Bt_0 cX7_work
theorem dX7_work_0 : decode cX7_work 0 = .ok (.aload_n 0, 1) := de_2a tX7_work_0
def tX7_work_1 := Bt_1 (q := 1) tX7_work_0 rfl
theorem dX7_work_1 : decode cX7_work 1 = .ok (.iconst 0, 1) := de_03 tX7_work_1
def tX7_work_2 := Bt_1 (q := 2) tX7_work_1 rfl
theorem dX7_work_2 : decode cX7_work 2 = .ok (.putfield 143, 3) := de_b5 tX7_work_2 (by decide +kernel)
def tX7_work_5 := Bt_3 (q := 5) tX7_work_2 rfl
theorem dX7_work_5 : decode cX7_work 5 = .ok (.aload_n 0, 1) := de_2a tX7_work_5
def tX7_work_6 := Bt_1 (q := 6) tX7_work_5 rfl
theorem dX7_work_6 : decode cX7_work 6 = .ok (.getfield 12, 3) := de_b4 tX7_work_6 (by decide +kernel)
def tX7_work_9 := Bt_3 (q := 9) tX7_work_6 rfl
theorem dX7_work_9 : decode cX7_work 9 = .ok (.iconst 0, 1) := de_03 tX7_work_9
def tX7_work_10 := Bt_1 (q := 10) tX7_work_9 rfl
theorem dX7_work_10 : decode cX7_work 10 = .ok (.putfield 140, 3) := de_b5 tX7_work_10 (by decide +kernel)
def tX7_work_13 := Bt_3 (q := 13) tX7_work_10 rfl
theorem dX7_work_13 : decode cX7_work 13 = .ok (.iconst 0, 1) := de_03 tX7_work_13
def tX7_work_14 := Bt_1 (q := 14) tX7_work_13 rfl
theorem dX7_work_14 : decode cX7_work 14 = .ok (.istore_n 3, 1) := de_3e tX7_work_14
def tX7_work_15 := Bt_1 (q := 15) tX7_work_14 rfl
theorem dX7_work_15 : decode cX7_work 15 = .ok (.iload_n 3, 1) := de_1d tX7_work_15
def tX7_work_16 := Bt_1 (q := 16) tX7_work_15 rfl
theorem dX7_work_16 : decode cX7_work 16 = .ok (.aload_n 1, 1) := de_2b tX7_work_16
def tX7_work_17 := Bt_1 (q := 17) tX7_work_16 rfl
theorem dX7_work_17 : decode cX7_work 17 = .ok (.getfield 146, 3) := de_b4 tX7_work_17 (by decide +kernel)
def tX7_work_20 := Bt_3 (q := 20) tX7_work_17 rfl
theorem dX7_work_20 : decode cX7_work 20 = .ok (.if_icmp .ge 76, 3) := de_a2 tX7_work_20 (by decide +kernel)
def tX7_work_23 := Bt_3 (q := 23) tX7_work_20 rfl
theorem dX7_work_23 : decode cX7_work 23 = .ok (.iload_n 3, 1) := de_1d tX7_work_23
def tX7_work_24 := Bt_1 (q := 24) tX7_work_23 rfl
theorem dX7_work_24 : decode cX7_work 24 = .ok (.bipush 80, 2) := de_10 tX7_work_24 (by decide +kernel)
def tX7_work_26 := Bt_2 (q := 26) tX7_work_24 rfl
theorem dX7_work_26 : decode cX7_work 26 = .ok (.if_icmp .ge 70, 3) := de_a2 tX7_work_26 (by decide +kernel)
def tX7_work_29 := Bt_3 (q := 29) tX7_work_26 rfl
theorem dX7_work_29 : decode cX7_work 29 = .ok (.aload_n 0, 1) := de_2a tX7_work_29
def tX7_work_30 := Bt_1 (q := 30) tX7_work_29 rfl
theorem dX7_work_30 : decode cX7_work 30 = .ok (.getfield 12, 3) := de_b4 tX7_work_30 (by decide +kernel)
def tX7_work_33 := Bt_3 (q := 33) tX7_work_30 rfl
theorem dX7_work_33 : decode cX7_work 33 = .ok (.getfield 140, 3) := de_b4 tX7_work_33 (by decide +kernel)
def tX7_work_36 := Bt_3 (q := 36) tX7_work_33 rfl
theorem dX7_work_36 : decode cX7_work 36 = .ok (.ifCond .ne 60, 3) := de_9a tX7_work_36 (by decide +kernel)
def tX7_work_39 := Bt_3 (q := 39) tX7_work_36 rfl
theorem dX7_work_39 : decode cX7_work 39 = .ok (.aload_n 1, 1) := de_2b tX7_work_39
def tX7_work_40 := Bt_1 (q := 40) tX7_work_39 rfl
theorem dX7_work_40 : decode cX7_work 40 = .ok (.getfield 151, 3) := de_b4 tX7_work_40 (by decide +kernel)
def tX7_work_43 := Bt_3 (q := 43) tX7_work_40 rfl
theorem dX7_work_43 : decode cX7_work 43 = .ok (.iload_n 3, 1) := de_1d tX7_work_43
def tX7_work_44 := Bt_1 (q := 44) tX7_work_43 rfl
theorem dX7_work_44 : decode cX7_work 44 = .ok (.iaload, 1) := de_2e tX7_work_44
def tX7_work_45 := Bt_1 (q := 45) tX7_work_44 rfl
theorem dX7_work_45 : decode cX7_work 45 = .ok (.istore 4, 2) := de_36 tX7_work_45 (by decide +kernel)
def tX7_work_47 := Bt_2 (q := 47) tX7_work_45 rfl
theorem dX7_work_47 : decode cX7_work 47 = .ok (.iload 4, 2) := de_15 tX7_work_47 (by decide +kernel)
def tX7_work_49 := Bt_2 (q := 49) tX7_work_47 rfl
theorem dX7_work_49 : decode cX7_work 49 = .ok (.ifCond .lt 14, 3) := de_9b tX7_work_49 (by decide +kernel)
def tX7_work_52 := Bt_3 (q := 52) tX7_work_49 rfl
theorem dX7_work_52 : decode cX7_work 52 = .ok (.aload_n 0, 1) := de_2a tX7_work_52
def tX7_work_53 := Bt_1 (q := 53) tX7_work_52 rfl
theorem dX7_work_53 : decode cX7_work 53 = .ok (.iload 4, 2) := de_15 tX7_work_53 (by decide +kernel)
def tX7_work_55 := Bt_2 (q := 55) tX7_work_53 rfl
theorem dX7_work_55 : decode cX7_work 55 = .ok (.i2l, 1) := de_85 tX7_work_55
def tX7_work_56 := Bt_1 (q := 56) tX7_work_55 rfl
theorem dX7_work_56 : decode cX7_work 56 = .ok (.lconst 1, 1) := de_0a tX7_work_56
def tX7_work_57 := Bt_1 (q := 57) tX7_work_56 rfl
theorem dX7_work_57 : decode cX7_work 57 = .ok (.invokevirtual 133, 3) := de_b6 tX7_work_57 (by decide +kernel)
def tX7_work_60 := Bt_3 (q := 60) tX7_work_57 rfl
theorem dX7_work_60 : decode cX7_work 60 = .ok (.goto 30, 3) := de_a7 tX7_work_60 (by decide +kernel)
def tX7_work_63 := Bt_3 (q := 63) tX7_work_60 rfl
theorem dX7_work_63 : decode cX7_work 63 = .ok (.iload 4, 2) := de_15 tX7_work_63 (by decide +kernel)
def tX7_work_65 := Bt_2 (q := 65) tX7_work_63 rfl
theorem dX7_work_65 : decode cX7_work 65 = .ok (.ineg, 1) := de_74 tX7_work_65
def tX7_work_66 := Bt_1 (q := 66) tX7_work_65 rfl
theorem dX7_work_66 : decode cX7_work 66 = .ok (.invokestatic 154, 3) := de_b8 tX7_work_66 (by decide +kernel)
def tX7_work_69 := Bt_3 (q := 69) tX7_work_66 rfl
theorem dX7_work_69 : decode cX7_work 69 = .ok (.ifCond .eq 14, 3) := de_99 tX7_work_69 (by decide +kernel)
def tX7_work_72 := Bt_3 (q := 72) tX7_work_69 rfl
theorem dX7_work_72 : decode cX7_work 72 = .ok (.aload_n 0, 1) := de_2a tX7_work_72
def tX7_work_73 := Bt_1 (q := 73) tX7_work_72 rfl
theorem dX7_work_73 : decode cX7_work 73 = .ok (.iload 4, 2) := de_15 tX7_work_73 (by decide +kernel)
def tX7_work_75 := Bt_2 (q := 75) tX7_work_73 rfl
theorem dX7_work_75 : decode cX7_work 75 = .ok (.ineg, 1) := de_74 tX7_work_75
def tX7_work_76 := Bt_1 (q := 76) tX7_work_75 rfl
theorem dX7_work_76 : decode cX7_work 76 = .ok (.iload_n 2, 1) := de_1c tX7_work_76
def tX7_work_77 := Bt_1 (q := 77) tX7_work_76 rfl
theorem dX7_work_77 : decode cX7_work 77 = .ok (.invokevirtual 157, 3) := de_b6 tX7_work_77 (by decide +kernel)
def tX7_work_80 := Bt_3 (q := 80) tX7_work_77 rfl
theorem dX7_work_80 : decode cX7_work 80 = .ok (.goto 10, 3) := de_a7 tX7_work_80 (by decide +kernel)
def tX7_work_83 := Bt_3 (q := 83) tX7_work_80 rfl
theorem dX7_work_83 : decode cX7_work 83 = .ok (.aload_n 0, 1) := de_2a tX7_work_83
def tX7_work_84 := Bt_1 (q := 84) tX7_work_83 rfl
theorem dX7_work_84 : decode cX7_work 84 = .ok (.iload 4, 2) := de_15 tX7_work_84 (by decide +kernel)
def tX7_work_86 := Bt_2 (q := 86) tX7_work_84 rfl
theorem dX7_work_86 : decode cX7_work 86 = .ok (.ineg, 1) := de_74 tX7_work_86
def tX7_work_87 := Bt_1 (q := 87) tX7_work_86 rfl
theorem dX7_work_87 : decode cX7_work 87 = .ok (.invokevirtual 136, 3) := de_b6 tX7_work_87 (by decide +kernel)
def tX7_work_90 := Bt_3 (q := 90) tX7_work_87 rfl
theorem dX7_work_90 : decode cX7_work 90 = .ok (.iinc 3 1, 3) := de_84 tX7_work_90 (by decide +kernel) (by decide +kernel)
def tX7_work_93 := Bt_3 (q := 93) tX7_work_90 rfl
theorem dX7_work_93 : decode cX7_work 93 = .ok (.goto (-78), 3) := de_a7 tX7_work_93 (by decide +kernel)
def tX7_work_96 := Bt_3 (q := 96) tX7_work_93 rfl
theorem dX7_work_96 : decode cX7_work 96 = .ok (.aload_n 0, 1) := de_2a tX7_work_96
def tX7_work_97 := Bt_1 (q := 97) tX7_work_96 rfl
theorem dX7_work_97 : decode cX7_work 97 = .ok (.getfield 39, 3) := de_b4 tX7_work_97 (by decide +kernel)
def tX7_work_100 := Bt_3 (q := 100) tX7_work_97 rfl
theorem dX7_work_100 : decode cX7_work 100 = .ok (.iload_n 2, 1) := de_1c tX7_work_100
def tX7_work_101 := Bt_1 (q := 101) tX7_work_100 rfl
theorem dX7_work_101 : decode cX7_work 101 = .ok (.aload_n 0, 1) := de_2a tX7_work_101
def tX7_work_102 := Bt_1 (q := 102) tX7_work_101 rfl
theorem dX7_work_102 : decode cX7_work 102 = .ok (.getfield 12, 3) := de_b4 tX7_work_102 (by decide +kernel)
def tX7_work_105 := Bt_3 (q := 105) tX7_work_102 rfl
theorem dX7_work_105 : decode cX7_work 105 = .ok (.getfield 140, 3) := de_b4 tX7_work_105 (by decide +kernel)
def tX7_work_108 := Bt_3 (q := 108) tX7_work_105 rfl
theorem dX7_work_108 : decode cX7_work 108 = .ok (.ifCond .ne 11, 3) := de_9a tX7_work_108 (by decide +kernel)
def tX7_work_111 := Bt_3 (q := 111) tX7_work_108 rfl
theorem dX7_work_111 : decode cX7_work 111 = .ok (.aload_n 0, 1) := de_2a tX7_work_111
def tX7_work_112 := Bt_1 (q := 112) tX7_work_111 rfl
theorem dX7_work_112 : decode cX7_work 112 = .ok (.getfield 143, 3) := de_b4 tX7_work_112 (by decide +kernel)
def tX7_work_115 := Bt_3 (q := 115) tX7_work_112 rfl
theorem dX7_work_115 : decode cX7_work 115 = .ok (.iconst 1, 1) := de_04 tX7_work_115
def tX7_work_116 := Bt_1 (q := 116) tX7_work_115 rfl
theorem dX7_work_116 : decode cX7_work 116 = .ok (.if_icmp .eq 7, 3) := de_9f tX7_work_116 (by decide +kernel)
def tX7_work_119 := Bt_3 (q := 119) tX7_work_116 rfl
theorem dX7_work_119 : decode cX7_work 119 = .ok (.iconst 1, 1) := de_04 tX7_work_119
def tX7_work_120 := Bt_1 (q := 120) tX7_work_119 rfl
theorem dX7_work_120 : decode cX7_work 120 = .ok (.goto 4, 3) := de_a7 tX7_work_120 (by decide +kernel)
def tX7_work_123 := Bt_3 (q := 123) tX7_work_120 rfl
theorem dX7_work_123 : decode cX7_work 123 = .ok (.iconst 0, 1) := de_03 tX7_work_123
def tX7_work_124 := Bt_1 (q := 124) tX7_work_123 rfl
theorem dX7_work_124 : decode cX7_work 124 = .ok (.bastore, 1) := de_54 tX7_work_124
def tX7_work_125 := Bt_1 (q := 125) tX7_work_124 rfl
theorem dX7_work_125 : decode cX7_work 125 = .ok (.aload_n 0, 1) := de_2a tX7_work_125
def tX7_work_126 := Bt_1 (q := 126) tX7_work_125 rfl
theorem dX7_work_126 : decode cX7_work 126 = .ok (.getfield 33, 3) := de_b4 tX7_work_126 (by decide +kernel)
def tX7_work_129 := Bt_3 (q := 129) tX7_work_126 rfl
theorem dX7_work_129 : decode cX7_work 129 = .ok (.iload_n 2, 1) := de_1c tX7_work_129
def tX7_work_130 := Bt_1 (q := 130) tX7_work_129 rfl
theorem dX7_work_130 : decode cX7_work 130 = .ok (.aload_n 0, 1) := de_2a tX7_work_130
def tX7_work_131 := Bt_1 (q := 131) tX7_work_130 rfl
theorem dX7_work_131 : decode cX7_work 131 = .ok (.getfield 45, 3) := de_b4 tX7_work_131 (by decide +kernel)
def tX7_work_134 := Bt_3 (q := 134) tX7_work_131 rfl
theorem dX7_work_134 : decode cX7_work 134 = .ok (.iconst 0, 1) := de_03 tX7_work_134
def tX7_work_135 := Bt_1 (q := 135) tX7_work_134 rfl
theorem dX7_work_135 : decode cX7_work 135 = .ok (.laload, 1) := de_2f tX7_work_135
def tX7_work_136 := Bt_1 (q := 136) tX7_work_135 rfl
theorem dX7_work_136 : decode cX7_work 136 = .ok (.lastore, 1) := de_50 tX7_work_136
def tX7_work_137 := Bt_1 (q := 137) tX7_work_136 rfl
theorem dX7_work_137 : decode cX7_work 137 = .ok (.aload_n 0, 1) := de_2a tX7_work_137
def tX7_work_138 := Bt_1 (q := 138) tX7_work_137 rfl
theorem dX7_work_138 : decode cX7_work 138 = .ok (.getfield 36, 3) := de_b4 tX7_work_138 (by decide +kernel)
def tX7_work_141 := Bt_3 (q := 141) tX7_work_138 rfl
theorem dX7_work_141 : decode cX7_work 141 = .ok (.iload_n 2, 1) := de_1c tX7_work_141
def tX7_work_142 := Bt_1 (q := 142) tX7_work_141 rfl
theorem dX7_work_142 : decode cX7_work 142 = .ok (.aload_n 0, 1) := de_2a tX7_work_142
def tX7_work_143 := Bt_1 (q := 143) tX7_work_142 rfl
theorem dX7_work_143 : decode cX7_work 143 = .ok (.getfield 48, 3) := de_b4 tX7_work_143 (by decide +kernel)
def tX7_work_146 := Bt_3 (q := 146) tX7_work_143 rfl
theorem dX7_work_146 : decode cX7_work 146 = .ok (.iconst 0, 1) := de_03 tX7_work_146
def tX7_work_147 := Bt_1 (q := 147) tX7_work_146 rfl
theorem dX7_work_147 : decode cX7_work 147 = .ok (.laload, 1) := de_2f tX7_work_147
def tX7_work_148 := Bt_1 (q := 148) tX7_work_147 rfl
theorem dX7_work_148 : decode cX7_work 148 = .ok (.lastore, 1) := de_50 tX7_work_148
def tX7_work_149 := Bt_1 (q := 149) tX7_work_148 rfl
theorem dX7_work_149 : decode cX7_work 149 = .ok (.return_, 1) := de_b1 tX7_work_149
def tX7_pushName_0 := Bt_0 cX7_pushName
theorem dX7_pushName_0 : decode cX7_pushName 0 = .ok (.iload_n 1, 1) := de_1b tX7_pushName_0
def tX7_pushName_1 := Bt_1 (q := 1) tX7_pushName_0 rfl
theorem dX7_pushName_1 : decode cX7_pushName 1 = .ok (.tableswitch 171 97 113 #[122, 156, 171, 171, 171, 171, 171, 110, 171, 171, 171, 98, 171, 171, 171, 83, 137], 83) := by decide +kernel
def tX7_pushName_84 := Bt_n (q := 84) 83 tX7_pushName_1 rfl rfl
theorem dX7_pushName_84 : decode cX7_pushName 84 = .ok (.aload_n 0, 1) := de_2a tX7_pushName_84
def tX7_pushName_85 := Bt_1 (q := 85) tX7_pushName_84 rfl
theorem dX7_pushName_85 : decode cX7_pushName 85 = .ok (.aload_n 0, 1) := de_2a tX7_pushName_85
def tX7_pushName_86 := Bt_1 (q := 86) tX7_pushName_85 rfl
theorem dX7_pushName_86 : decode cX7_pushName 86 = .ok (.getfield 22, 3) := de_b4 tX7_pushName_86 (by decide +kernel)
def tX7_pushName_89 := Bt_3 (q := 89) tX7_pushName_86 rfl
theorem dX7_pushName_89 : decode cX7_pushName 89 = .ok (.iload_n 2, 1) := de_1c tX7_pushName_89
def tX7_pushName_90 := Bt_1 (q := 90) tX7_pushName_89 rfl
theorem dX7_pushName_90 : decode cX7_pushName 90 = .ok (.iaload, 1) := de_2e tX7_pushName_90
def tX7_pushName_91 := Bt_1 (q := 91) tX7_pushName_90 rfl
theorem dX7_pushName_91 : decode cX7_pushName 91 = .ok (.i2l, 1) := de_85 tX7_pushName_91
def tX7_pushName_92 := Bt_1 (q := 92) tX7_pushName_91 rfl
theorem dX7_pushName_92 : decode cX7_pushName 92 = .ok (.lconst 1, 1) := de_0a tX7_pushName_92
def tX7_pushName_93 := Bt_1 (q := 93) tX7_pushName_92 rfl
theorem dX7_pushName_93 : decode cX7_pushName 93 = .ok (.invokevirtual 133, 3) := de_b6 tX7_pushName_93 (by decide +kernel)
def tX7_pushName_96 := Bt_3 (q := 96) tX7_pushName_93 rfl
theorem dX7_pushName_96 : decode cX7_pushName 96 = .ok (.goto 86, 3) := de_a7 tX7_pushName_96 (by decide +kernel)
def tX7_pushName_99 := Bt_3 (q := 99) tX7_pushName_96 rfl
theorem dX7_pushName_99 : decode cX7_pushName 99 = .ok (.aload_n 0, 1) := de_2a tX7_pushName_99
def tX7_pushName_100 := Bt_1 (q := 100) tX7_pushName_99 rfl
theorem dX7_pushName_100 : decode cX7_pushName 100 = .ok (.aload_n 0, 1) := de_2a tX7_pushName_100
def tX7_pushName_101 := Bt_1 (q := 101) tX7_pushName_100 rfl
theorem dX7_pushName_101 : decode cX7_pushName 101 = .ok (.getfield 92, 3) := de_b4 tX7_pushName_101 (by decide +kernel)
def tX7_pushName_104 := Bt_3 (q := 104) tX7_pushName_101 rfl
theorem dX7_pushName_104 : decode cX7_pushName 104 = .ok (.lconst 1, 1) := de_0a tX7_pushName_104
def tX7_pushName_105 := Bt_1 (q := 105) tX7_pushName_104 rfl
theorem dX7_pushName_105 : decode cX7_pushName 105 = .ok (.invokevirtual 133, 3) := de_b6 tX7_pushName_105 (by decide +kernel)
def tX7_pushName_108 := Bt_3 (q := 108) tX7_pushName_105 rfl
theorem dX7_pushName_108 : decode cX7_pushName 108 = .ok (.goto 74, 3) := de_a7 tX7_pushName_108 (by decide +kernel)
def tX7_pushName_111 := Bt_3 (q := 111) tX7_pushName_108 rfl
theorem dX7_pushName_111 : decode cX7_pushName 111 = .ok (.aload_n 0, 1) := de_2a tX7_pushName_111
def tX7_pushName_112 := Bt_1 (q := 112) tX7_pushName_111 rfl
theorem dX7_pushName_112 : decode cX7_pushName 112 = .ok (.aload_n 0, 1) := de_2a tX7_pushName_112
def tX7_pushName_113 := Bt_1 (q := 113) tX7_pushName_112 rfl
theorem dX7_pushName_113 : decode cX7_pushName 113 = .ok (.getfield 95, 3) := de_b4 tX7_pushName_113 (by decide +kernel)
def tX7_pushName_116 := Bt_3 (q := 116) tX7_pushName_113 rfl
theorem dX7_pushName_116 : decode cX7_pushName 116 = .ok (.lconst 1, 1) := de_0a tX7_pushName_116
def tX7_pushName_117 := Bt_1 (q := 117) tX7_pushName_116 rfl
theorem dX7_pushName_117 : decode cX7_pushName 117 = .ok (.invokevirtual 133, 3) := de_b6 tX7_pushName_117 (by decide +kernel)
def tX7_pushName_120 := Bt_3 (q := 120) tX7_pushName_117 rfl
theorem dX7_pushName_120 : decode cX7_pushName 120 = .ok (.goto 62, 3) := de_a7 tX7_pushName_120 (by decide +kernel)
def tX7_pushName_123 := Bt_3 (q := 123) tX7_pushName_120 rfl
theorem dX7_pushName_123 : decode cX7_pushName 123 = .ok (.aload_n 0, 1) := de_2a tX7_pushName_123
def tX7_pushName_124 := Bt_1 (q := 124) tX7_pushName_123 rfl
theorem dX7_pushName_124 : decode cX7_pushName 124 = .ok (.aload_n 0, 1) := de_2a tX7_pushName_124
def tX7_pushName_125 := Bt_1 (q := 125) tX7_pushName_124 rfl
theorem dX7_pushName_125 : decode cX7_pushName 125 = .ok (.getfield 123, 3) := de_b4 tX7_pushName_125 (by decide +kernel)
def tX7_pushName_128 := Bt_3 (q := 128) tX7_pushName_125 rfl
theorem dX7_pushName_128 : decode cX7_pushName 128 = .ok (.aload_n 0, 1) := de_2a tX7_pushName_128
def tX7_pushName_129 := Bt_1 (q := 129) tX7_pushName_128 rfl
theorem dX7_pushName_129 : decode cX7_pushName 129 = .ok (.getfield 126, 3) := de_b4 tX7_pushName_129 (by decide +kernel)
def tX7_pushName_132 := Bt_3 (q := 132) tX7_pushName_129 rfl
theorem dX7_pushName_132 : decode cX7_pushName 132 = .ok (.invokevirtual 133, 3) := de_b6 tX7_pushName_132 (by decide +kernel)
def tX7_pushName_135 := Bt_3 (q := 135) tX7_pushName_132 rfl
theorem dX7_pushName_135 : decode cX7_pushName 135 = .ok (.goto 47, 3) := de_a7 tX7_pushName_135 (by decide +kernel)
def tX7_pushName_138 := Bt_3 (q := 138) tX7_pushName_135 rfl
theorem dX7_pushName_138 : decode cX7_pushName 138 = .ok (.aload_n 0, 1) := de_2a tX7_pushName_138
def tX7_pushName_139 := Bt_1 (q := 139) tX7_pushName_138 rfl
theorem dX7_pushName_139 : decode cX7_pushName 139 = .ok (.aload_n 0, 1) := de_2a tX7_pushName_139
def tX7_pushName_140 := Bt_1 (q := 140) tX7_pushName_139 rfl
theorem dX7_pushName_140 : decode cX7_pushName 140 = .ok (.getfield 26, 3) := de_b4 tX7_pushName_140 (by decide +kernel)
def tX7_pushName_143 := Bt_3 (q := 143) tX7_pushName_140 rfl
theorem dX7_pushName_143 : decode cX7_pushName 143 = .ok (.iload_n 2, 1) := de_1c tX7_pushName_143
def tX7_pushName_144 := Bt_1 (q := 144) tX7_pushName_143 rfl
theorem dX7_pushName_144 : decode cX7_pushName 144 = .ok (.laload, 1) := de_2f tX7_pushName_144
def tX7_pushName_145 := Bt_1 (q := 145) tX7_pushName_144 rfl
theorem dX7_pushName_145 : decode cX7_pushName 145 = .ok (.aload_n 0, 1) := de_2a tX7_pushName_145
def tX7_pushName_146 := Bt_1 (q := 146) tX7_pushName_145 rfl
theorem dX7_pushName_146 : decode cX7_pushName 146 = .ok (.getfield 30, 3) := de_b4 tX7_pushName_146 (by decide +kernel)
def tX7_pushName_149 := Bt_3 (q := 149) tX7_pushName_146 rfl
theorem dX7_pushName_149 : decode cX7_pushName 149 = .ok (.iload_n 2, 1) := de_1c tX7_pushName_149
def tX7_pushName_150 := Bt_1 (q := 150) tX7_pushName_149 rfl
theorem dX7_pushName_150 : decode cX7_pushName 150 = .ok (.laload, 1) := de_2f tX7_pushName_150
def tX7_pushName_151 := Bt_1 (q := 151) tX7_pushName_150 rfl
theorem dX7_pushName_151 : decode cX7_pushName 151 = .ok (.invokevirtual 133, 3) := de_b6 tX7_pushName_151 (by decide +kernel)
def tX7_pushName_154 := Bt_3 (q := 154) tX7_pushName_151 rfl
theorem dX7_pushName_154 : decode cX7_pushName 154 = .ok (.goto 28, 3) := de_a7 tX7_pushName_154 (by decide +kernel)
def tX7_pushName_157 := Bt_3 (q := 157) tX7_pushName_154 rfl
theorem dX7_pushName_157 : decode cX7_pushName 157 = .ok (.aload_n 0, 1) := de_2a tX7_pushName_157
def tX7_pushName_158 := Bt_1 (q := 158) tX7_pushName_157 rfl
theorem dX7_pushName_158 : decode cX7_pushName 158 = .ok (.aload_n 0, 1) := de_2a tX7_pushName_158
def tX7_pushName_159 := Bt_1 (q := 159) tX7_pushName_158 rfl
theorem dX7_pushName_159 : decode cX7_pushName 159 = .ok (.getfield 102, 3) := de_b4 tX7_pushName_159 (by decide +kernel)
def tX7_pushName_162 := Bt_3 (q := 162) tX7_pushName_159 rfl
theorem dX7_pushName_162 : decode cX7_pushName 162 = .ok (.aload_n 0, 1) := de_2a tX7_pushName_162
def tX7_pushName_163 := Bt_1 (q := 163) tX7_pushName_162 rfl
theorem dX7_pushName_163 : decode cX7_pushName 163 = .ok (.getfield 105, 3) := de_b4 tX7_pushName_163 (by decide +kernel)
def tX7_pushName_166 := Bt_3 (q := 166) tX7_pushName_163 rfl
theorem dX7_pushName_166 : decode cX7_pushName 166 = .ok (.invokevirtual 133, 3) := de_b6 tX7_pushName_166 (by decide +kernel)
def tX7_pushName_169 := Bt_3 (q := 169) tX7_pushName_166 rfl
theorem dX7_pushName_169 : decode cX7_pushName 169 = .ok (.goto 13, 3) := de_a7 tX7_pushName_169 (by decide +kernel)
def tX7_pushName_172 := Bt_3 (q := 172) tX7_pushName_169 rfl
theorem dX7_pushName_172 : decode cX7_pushName 172 = .ok (.aload_n 0, 1) := de_2a tX7_pushName_172
def tX7_pushName_173 := Bt_1 (q := 173) tX7_pushName_172 rfl
theorem dX7_pushName_173 : decode cX7_pushName 173 = .ok (.aload_n 0, 1) := de_2a tX7_pushName_173
def tX7_pushName_174 := Bt_1 (q := 174) tX7_pushName_173 rfl
theorem dX7_pushName_174 : decode cX7_pushName 174 = .ok (.getfield 98, 3) := de_b4 tX7_pushName_174 (by decide +kernel)
def tX7_pushName_177 := Bt_3 (q := 177) tX7_pushName_174 rfl
theorem dX7_pushName_177 : decode cX7_pushName 177 = .ok (.i2l, 1) := de_85 tX7_pushName_177
def tX7_pushName_178 := Bt_1 (q := 178) tX7_pushName_177 rfl
theorem dX7_pushName_178 : decode cX7_pushName 178 = .ok (.lconst 1, 1) := de_0a tX7_pushName_178
def tX7_pushName_179 := Bt_1 (q := 179) tX7_pushName_178 rfl
theorem dX7_pushName_179 : decode cX7_pushName 179 = .ok (.invokevirtual 133, 3) := de_b6 tX7_pushName_179 (by decide +kernel)
def tX7_pushName_182 := Bt_3 (q := 182) tX7_pushName_179 rfl
theorem dX7_pushName_182 : decode cX7_pushName 182 = .ok (.return_, 1) := de_b1 tX7_pushName_182
def tX7_push_0 := Bt_0 cX7_push
theorem dX7_push_0 : decode cX7_push 0 = .ok (.aload_n 0, 1) := de_2a tX7_push_0
def tX7_push_1 := Bt_1 (q := 1) tX7_push_0 rfl
theorem dX7_push_1 : decode cX7_push 1 = .ok (.getfield 143, 3) := de_b4 tX7_push_1 (by decide +kernel)
def tX7_push_4 := Bt_3 (q := 4) tX7_push_1 rfl
theorem dX7_push_4 : decode cX7_push 4 = .ok (.bipush 80, 2) := de_10 tX7_push_4 (by decide +kernel)
def tX7_push_6 := Bt_2 (q := 6) tX7_push_4 rfl
theorem dX7_push_6 : decode cX7_push 6 = .ok (.if_icmp .ge 33, 3) := de_a2 tX7_push_6 (by decide +kernel)
def tX7_push_9 := Bt_3 (q := 9) tX7_push_6 rfl
theorem dX7_push_9 : decode cX7_push 9 = .ok (.aload_n 0, 1) := de_2a tX7_push_9
def tX7_push_10 := Bt_1 (q := 10) tX7_push_9 rfl
theorem dX7_push_10 : decode cX7_push 10 = .ok (.getfield 45, 3) := de_b4 tX7_push_10 (by decide +kernel)
def tX7_push_13 := Bt_3 (q := 13) tX7_push_10 rfl
theorem dX7_push_13 : decode cX7_push 13 = .ok (.aload_n 0, 1) := de_2a tX7_push_13
def tX7_push_14 := Bt_1 (q := 14) tX7_push_13 rfl
theorem dX7_push_14 : decode cX7_push 14 = .ok (.getfield 143, 3) := de_b4 tX7_push_14 (by decide +kernel)
def tX7_push_17 := Bt_3 (q := 17) tX7_push_14 rfl
theorem dX7_push_17 : decode cX7_push 17 = .ok (.lload_n 1, 1) := de_1f tX7_push_17
def tX7_push_18 := Bt_1 (q := 18) tX7_push_17 rfl
theorem dX7_push_18 : decode cX7_push 18 = .ok (.lastore, 1) := de_50 tX7_push_18
def tX7_push_19 := Bt_1 (q := 19) tX7_push_18 rfl
theorem dX7_push_19 : decode cX7_push 19 = .ok (.aload_n 0, 1) := de_2a tX7_push_19
def tX7_push_20 := Bt_1 (q := 20) tX7_push_19 rfl
theorem dX7_push_20 : decode cX7_push 20 = .ok (.getfield 48, 3) := de_b4 tX7_push_20 (by decide +kernel)
def tX7_push_23 := Bt_3 (q := 23) tX7_push_20 rfl
theorem dX7_push_23 : decode cX7_push 23 = .ok (.aload_n 0, 1) := de_2a tX7_push_23
def tX7_push_24 := Bt_1 (q := 24) tX7_push_23 rfl
theorem dX7_push_24 : decode cX7_push 24 = .ok (.getfield 143, 3) := de_b4 tX7_push_24 (by decide +kernel)
def tX7_push_27 := Bt_3 (q := 27) tX7_push_24 rfl
theorem dX7_push_27 : decode cX7_push 27 = .ok (.lload_n 3, 1) := de_21 tX7_push_27
def tX7_push_28 := Bt_1 (q := 28) tX7_push_27 rfl
theorem dX7_push_28 : decode cX7_push 28 = .ok (.lastore, 1) := de_50 tX7_push_28
def tX7_push_29 := Bt_1 (q := 29) tX7_push_28 rfl
theorem dX7_push_29 : decode cX7_push 29 = .ok (.aload_n 0, 1) := de_2a tX7_push_29
def tX7_push_30 := Bt_1 (q := 30) tX7_push_29 rfl
theorem dX7_push_30 : decode cX7_push 30 = .ok (.dup, 1) := de_59 tX7_push_30
def tX7_push_31 := Bt_1 (q := 31) tX7_push_30 rfl
theorem dX7_push_31 : decode cX7_push 31 = .ok (.getfield 143, 3) := de_b4 tX7_push_31 (by decide +kernel)
def tX7_push_34 := Bt_3 (q := 34) tX7_push_31 rfl
theorem dX7_push_34 : decode cX7_push 34 = .ok (.iconst 1, 1) := de_04 tX7_push_34
def tX7_push_35 := Bt_1 (q := 35) tX7_push_34 rfl
theorem dX7_push_35 : decode cX7_push 35 = .ok (.iadd, 1) := de_60 tX7_push_35
def tX7_push_36 := Bt_1 (q := 36) tX7_push_35 rfl
theorem dX7_push_36 : decode cX7_push 36 = .ok (.putfield 143, 3) := de_b5 tX7_push_36 (by decide +kernel)
def tX7_push_39 := Bt_3 (q := 39) tX7_push_36 rfl
theorem dX7_push_39 : decode cX7_push 39 = .ok (.return_, 1) := de_b1 tX7_push_39
def tX7_operate_0 := Bt_0 cX7_operate
theorem dX7_operate_0 : decode cX7_operate 0 = .ok (.aload_n 0, 1) := de_2a tX7_operate_0
def tX7_operate_1 := Bt_1 (q := 1) tX7_operate_0 rfl
theorem dX7_operate_1 : decode cX7_operate 1 = .ok (.getfield 143, 3) := de_b4 tX7_operate_1 (by decide +kernel)
def tX7_operate_4 := Bt_3 (q := 4) tX7_operate_1 rfl
theorem dX7_operate_4 : decode cX7_operate 4 = .ok (.iconst 1, 1) := de_04 tX7_operate_4
def tX7_operate_5 := Bt_1 (q := 5) tX7_operate_4 rfl
theorem dX7_operate_5 : decode cX7_operate 5 = .ok (.isub, 1) := de_64 tX7_operate_5
def tX7_operate_6 := Bt_1 (q := 6) tX7_operate_5 rfl
theorem dX7_operate_6 : decode cX7_operate 6 = .ok (.istore_n 2, 1) := de_3d tX7_operate_6
def tX7_operate_7 := Bt_1 (q := 7) tX7_operate_6 rfl
theorem dX7_operate_7 : decode cX7_operate 7 = .ok (.aload_n 0, 1) := de_2a tX7_operate_7
def tX7_operate_8 := Bt_1 (q := 8) tX7_operate_7 rfl
theorem dX7_operate_8 : decode cX7_operate 8 = .ok (.getfield 143, 3) := de_b4 tX7_operate_8 (by decide +kernel)
def tX7_operate_11 := Bt_3 (q := 11) tX7_operate_8 rfl
theorem dX7_operate_11 : decode cX7_operate 11 = .ok (.iconst 2, 1) := de_05 tX7_operate_11
def tX7_operate_12 := Bt_1 (q := 12) tX7_operate_11 rfl
theorem dX7_operate_12 : decode cX7_operate 12 = .ok (.isub, 1) := de_64 tX7_operate_12
def tX7_operate_13 := Bt_1 (q := 13) tX7_operate_12 rfl
theorem dX7_operate_13 : decode cX7_operate 13 = .ok (.istore_n 3, 1) := de_3e tX7_operate_13
def tX7_operate_14 := Bt_1 (q := 14) tX7_operate_13 rfl
theorem dX7_operate_14 : decode cX7_operate 14 = .ok (.iload_n 3, 1) := de_1d tX7_operate_14
def tX7_operate_15 := Bt_1 (q := 15) tX7_operate_14 rfl
theorem dX7_operate_15 : decode cX7_operate 15 = .ok (.ifCond .ge 4, 3) := de_9c tX7_operate_15 (by decide +kernel)
def tX7_operate_18 := Bt_3 (q := 18) tX7_operate_15 rfl
theorem dX7_operate_18 : decode cX7_operate 18 = .ok (.return_, 1) := de_b1 tX7_operate_18
def tX7_operate_19 := Bt_1 (q := 19) tX7_operate_18 rfl
theorem dX7_operate_19 : decode cX7_operate 19 = .ok (.aload_n 0, 1) := de_2a tX7_operate_19
def tX7_operate_20 := Bt_1 (q := 20) tX7_operate_19 rfl
theorem dX7_operate_20 : decode cX7_operate 20 = .ok (.getfield 45, 3) := de_b4 tX7_operate_20 (by decide +kernel)
def tX7_operate_23 := Bt_3 (q := 23) tX7_operate_20 rfl
theorem dX7_operate_23 : decode cX7_operate 23 = .ok (.iload_n 3, 1) := de_1d tX7_operate_23
def tX7_operate_24 := Bt_1 (q := 24) tX7_operate_23 rfl
theorem dX7_operate_24 : decode cX7_operate 24 = .ok (.laload, 1) := de_2f tX7_operate_24
def tX7_operate_25 := Bt_1 (q := 25) tX7_operate_24 rfl
theorem dX7_operate_25 : decode cX7_operate 25 = .ok (.lstore 4, 2) := de_37 tX7_operate_25 (by decide +kernel)
def tX7_operate_27 := Bt_2 (q := 27) tX7_operate_25 rfl
theorem dX7_operate_27 : decode cX7_operate 27 = .ok (.aload_n 0, 1) := de_2a tX7_operate_27
def tX7_operate_28 := Bt_1 (q := 28) tX7_operate_27 rfl
theorem dX7_operate_28 : decode cX7_operate 28 = .ok (.getfield 48, 3) := de_b4 tX7_operate_28 (by decide +kernel)
def tX7_operate_31 := Bt_3 (q := 31) tX7_operate_28 rfl
theorem dX7_operate_31 : decode cX7_operate 31 = .ok (.iload_n 3, 1) := de_1d tX7_operate_31
def tX7_operate_32 := Bt_1 (q := 32) tX7_operate_31 rfl
theorem dX7_operate_32 : decode cX7_operate 32 = .ok (.laload, 1) := de_2f tX7_operate_32
def tX7_operate_33 := Bt_1 (q := 33) tX7_operate_32 rfl
theorem dX7_operate_33 : decode cX7_operate 33 = .ok (.lstore 6, 2) := de_37 tX7_operate_33 (by decide +kernel)
def tX7_operate_35 := Bt_2 (q := 35) tX7_operate_33 rfl
theorem dX7_operate_35 : decode cX7_operate 35 = .ok (.aload_n 0, 1) := de_2a tX7_operate_35
def tX7_operate_36 := Bt_1 (q := 36) tX7_operate_35 rfl
theorem dX7_operate_36 : decode cX7_operate 36 = .ok (.getfield 45, 3) := de_b4 tX7_operate_36 (by decide +kernel)
def tX7_operate_39 := Bt_3 (q := 39) tX7_operate_36 rfl
theorem dX7_operate_39 : decode cX7_operate 39 = .ok (.iload_n 2, 1) := de_1c tX7_operate_39
def tX7_operate_40 := Bt_1 (q := 40) tX7_operate_39 rfl
theorem dX7_operate_40 : decode cX7_operate 40 = .ok (.laload, 1) := de_2f tX7_operate_40
def tX7_operate_41 := Bt_1 (q := 41) tX7_operate_40 rfl
theorem dX7_operate_41 : decode cX7_operate 41 = .ok (.lstore 8, 2) := de_37 tX7_operate_41 (by decide +kernel)
def tX7_operate_43 := Bt_2 (q := 43) tX7_operate_41 rfl
theorem dX7_operate_43 : decode cX7_operate 43 = .ok (.aload_n 0, 1) := de_2a tX7_operate_43
def tX7_operate_44 := Bt_1 (q := 44) tX7_operate_43 rfl
theorem dX7_operate_44 : decode cX7_operate 44 = .ok (.getfield 48, 3) := de_b4 tX7_operate_44 (by decide +kernel)
def tX7_operate_47 := Bt_3 (q := 47) tX7_operate_44 rfl
theorem dX7_operate_47 : decode cX7_operate 47 = .ok (.iload_n 2, 1) := de_1c tX7_operate_47
def tX7_operate_48 := Bt_1 (q := 48) tX7_operate_47 rfl
theorem dX7_operate_48 : decode cX7_operate 48 = .ok (.laload, 1) := de_2f tX7_operate_48
def tX7_operate_49 := Bt_1 (q := 49) tX7_operate_48 rfl
theorem dX7_operate_49 : decode cX7_operate 49 = .ok (.lstore 10, 2) := de_37 tX7_operate_49 (by decide +kernel)
def tX7_operate_51 := Bt_2 (q := 51) tX7_operate_49 rfl
theorem dX7_operate_51 : decode cX7_operate 51 = .ok (.iload_n 1, 1) := de_1b tX7_operate_51
def tX7_operate_52 := Bt_1 (q := 52) tX7_operate_51 rfl
theorem dX7_operate_52 : decode cX7_operate 52 = .ok (.tableswitch 132 42 47 #[92, 40, 132, 66, 132, 112], 40) := by decide +kernel
def tX7_operate_92 := Bt_n (q := 92) 40 tX7_operate_52 rfl rfl
theorem dX7_operate_92 : decode cX7_operate 92 = .ok (.aload_n 0, 1) := de_2a tX7_operate_92
def tX7_operate_93 := Bt_1 (q := 93) tX7_operate_92 rfl
theorem dX7_operate_93 : decode cX7_operate 93 = .ok (.getfield 12, 3) := de_b4 tX7_operate_93 (by decide +kernel)
def tX7_operate_96 := Bt_3 (q := 96) tX7_operate_93 rfl
theorem dX7_operate_96 : decode cX7_operate 96 = .ok (.lload 4, 2) := de_16 tX7_operate_96 (by decide +kernel)
def tX7_operate_98 := Bt_2 (q := 98) tX7_operate_96 rfl
theorem dX7_operate_98 : decode cX7_operate 98 = .ok (.lload 10, 2) := de_16 tX7_operate_98 (by decide +kernel)
def tX7_operate_100 := Bt_2 (q := 100) tX7_operate_98 rfl
theorem dX7_operate_100 : decode cX7_operate 100 = .ok (.lmul, 1) := de_69 tX7_operate_100
def tX7_operate_101 := Bt_1 (q := 101) tX7_operate_100 rfl
theorem dX7_operate_101 : decode cX7_operate 101 = .ok (.lload 8, 2) := de_16 tX7_operate_101 (by decide +kernel)
def tX7_operate_103 := Bt_2 (q := 103) tX7_operate_101 rfl
theorem dX7_operate_103 : decode cX7_operate 103 = .ok (.lload 6, 2) := de_16 tX7_operate_103 (by decide +kernel)
def tX7_operate_105 := Bt_2 (q := 105) tX7_operate_103 rfl
theorem dX7_operate_105 : decode cX7_operate 105 = .ok (.lmul, 1) := de_69 tX7_operate_105
def tX7_operate_106 := Bt_1 (q := 106) tX7_operate_105 rfl
theorem dX7_operate_106 : decode cX7_operate 106 = .ok (.ladd, 1) := de_61 tX7_operate_106
def tX7_operate_107 := Bt_1 (q := 107) tX7_operate_106 rfl
theorem dX7_operate_107 : decode cX7_operate 107 = .ok (.lload 6, 2) := de_16 tX7_operate_107 (by decide +kernel)
def tX7_operate_109 := Bt_2 (q := 109) tX7_operate_107 rfl
theorem dX7_operate_109 : decode cX7_operate 109 = .ok (.lload 10, 2) := de_16 tX7_operate_109 (by decide +kernel)
def tX7_operate_111 := Bt_2 (q := 111) tX7_operate_109 rfl
theorem dX7_operate_111 : decode cX7_operate 111 = .ok (.lmul, 1) := de_69 tX7_operate_111
def tX7_operate_112 := Bt_1 (q := 112) tX7_operate_111 rfl
theorem dX7_operate_112 : decode cX7_operate 112 = .ok (.invokevirtual 119, 3) := de_b6 tX7_operate_112 (by decide +kernel)
def tX7_operate_115 := Bt_3 (q := 115) tX7_operate_112 rfl
theorem dX7_operate_115 : decode cX7_operate 115 = .ok (.goto 149, 3) := de_a7 tX7_operate_115 (by decide +kernel)
def tX7_operate_118 := Bt_3 (q := 118) tX7_operate_115 rfl
theorem dX7_operate_118 : decode cX7_operate 118 = .ok (.aload_n 0, 1) := de_2a tX7_operate_118
def tX7_operate_119 := Bt_1 (q := 119) tX7_operate_118 rfl
theorem dX7_operate_119 : decode cX7_operate 119 = .ok (.getfield 12, 3) := de_b4 tX7_operate_119 (by decide +kernel)
def tX7_operate_122 := Bt_3 (q := 122) tX7_operate_119 rfl
theorem dX7_operate_122 : decode cX7_operate 122 = .ok (.lload 4, 2) := de_16 tX7_operate_122 (by decide +kernel)
def tX7_operate_124 := Bt_2 (q := 124) tX7_operate_122 rfl
theorem dX7_operate_124 : decode cX7_operate 124 = .ok (.lload 10, 2) := de_16 tX7_operate_124 (by decide +kernel)
def tX7_operate_126 := Bt_2 (q := 126) tX7_operate_124 rfl
theorem dX7_operate_126 : decode cX7_operate 126 = .ok (.lmul, 1) := de_69 tX7_operate_126
def tX7_operate_127 := Bt_1 (q := 127) tX7_operate_126 rfl
theorem dX7_operate_127 : decode cX7_operate 127 = .ok (.lload 8, 2) := de_16 tX7_operate_127 (by decide +kernel)
def tX7_operate_129 := Bt_2 (q := 129) tX7_operate_127 rfl
theorem dX7_operate_129 : decode cX7_operate 129 = .ok (.lload 6, 2) := de_16 tX7_operate_129 (by decide +kernel)
def tX7_operate_131 := Bt_2 (q := 131) tX7_operate_129 rfl
theorem dX7_operate_131 : decode cX7_operate 131 = .ok (.lmul, 1) := de_69 tX7_operate_131
def tX7_operate_132 := Bt_1 (q := 132) tX7_operate_131 rfl
theorem dX7_operate_132 : decode cX7_operate 132 = .ok (.lsub, 1) := de_65 tX7_operate_132
def tX7_operate_133 := Bt_1 (q := 133) tX7_operate_132 rfl
theorem dX7_operate_133 : decode cX7_operate 133 = .ok (.lload 6, 2) := de_16 tX7_operate_133 (by decide +kernel)
def tX7_operate_135 := Bt_2 (q := 135) tX7_operate_133 rfl
theorem dX7_operate_135 : decode cX7_operate 135 = .ok (.lload 10, 2) := de_16 tX7_operate_135 (by decide +kernel)
def tX7_operate_137 := Bt_2 (q := 137) tX7_operate_135 rfl
theorem dX7_operate_137 : decode cX7_operate 137 = .ok (.lmul, 1) := de_69 tX7_operate_137
def tX7_operate_138 := Bt_1 (q := 138) tX7_operate_137 rfl
theorem dX7_operate_138 : decode cX7_operate 138 = .ok (.invokevirtual 119, 3) := de_b6 tX7_operate_138 (by decide +kernel)
def tX7_operate_141 := Bt_3 (q := 141) tX7_operate_138 rfl
theorem dX7_operate_141 : decode cX7_operate 141 = .ok (.goto 123, 3) := de_a7 tX7_operate_141 (by decide +kernel)
def tX7_operate_144 := Bt_3 (q := 144) tX7_operate_141 rfl
theorem dX7_operate_144 : decode cX7_operate 144 = .ok (.aload_n 0, 1) := de_2a tX7_operate_144
def tX7_operate_145 := Bt_1 (q := 145) tX7_operate_144 rfl
theorem dX7_operate_145 : decode cX7_operate 145 = .ok (.getfield 12, 3) := de_b4 tX7_operate_145 (by decide +kernel)
def tX7_operate_148 := Bt_3 (q := 148) tX7_operate_145 rfl
theorem dX7_operate_148 : decode cX7_operate 148 = .ok (.lload 4, 2) := de_16 tX7_operate_148 (by decide +kernel)
def tX7_operate_150 := Bt_2 (q := 150) tX7_operate_148 rfl
theorem dX7_operate_150 : decode cX7_operate 150 = .ok (.lload 8, 2) := de_16 tX7_operate_150 (by decide +kernel)
def tX7_operate_152 := Bt_2 (q := 152) tX7_operate_150 rfl
theorem dX7_operate_152 : decode cX7_operate 152 = .ok (.lmul, 1) := de_69 tX7_operate_152
def tX7_operate_153 := Bt_1 (q := 153) tX7_operate_152 rfl
theorem dX7_operate_153 : decode cX7_operate 153 = .ok (.lload 6, 2) := de_16 tX7_operate_153 (by decide +kernel)
def tX7_operate_155 := Bt_2 (q := 155) tX7_operate_153 rfl
theorem dX7_operate_155 : decode cX7_operate 155 = .ok (.lload 10, 2) := de_16 tX7_operate_155 (by decide +kernel)
def tX7_operate_157 := Bt_2 (q := 157) tX7_operate_155 rfl
theorem dX7_operate_157 : decode cX7_operate 157 = .ok (.lmul, 1) := de_69 tX7_operate_157
def tX7_operate_158 := Bt_1 (q := 158) tX7_operate_157 rfl
theorem dX7_operate_158 : decode cX7_operate 158 = .ok (.invokevirtual 119, 3) := de_b6 tX7_operate_158 (by decide +kernel)
def tX7_operate_161 := Bt_3 (q := 161) tX7_operate_158 rfl
theorem dX7_operate_161 : decode cX7_operate 161 = .ok (.goto 103, 3) := de_a7 tX7_operate_161 (by decide +kernel)
def tX7_operate_164 := Bt_3 (q := 164) tX7_operate_161 rfl
theorem dX7_operate_164 : decode cX7_operate 164 = .ok (.aload_n 0, 1) := de_2a tX7_operate_164
def tX7_operate_165 := Bt_1 (q := 165) tX7_operate_164 rfl
theorem dX7_operate_165 : decode cX7_operate 165 = .ok (.getfield 12, 3) := de_b4 tX7_operate_165 (by decide +kernel)
def tX7_operate_168 := Bt_3 (q := 168) tX7_operate_165 rfl
theorem dX7_operate_168 : decode cX7_operate 168 = .ok (.lload 4, 2) := de_16 tX7_operate_168 (by decide +kernel)
def tX7_operate_170 := Bt_2 (q := 170) tX7_operate_168 rfl
theorem dX7_operate_170 : decode cX7_operate 170 = .ok (.lload 10, 2) := de_16 tX7_operate_170 (by decide +kernel)
def tX7_operate_172 := Bt_2 (q := 172) tX7_operate_170 rfl
theorem dX7_operate_172 : decode cX7_operate 172 = .ok (.lmul, 1) := de_69 tX7_operate_172
def tX7_operate_173 := Bt_1 (q := 173) tX7_operate_172 rfl
theorem dX7_operate_173 : decode cX7_operate 173 = .ok (.lload 6, 2) := de_16 tX7_operate_173 (by decide +kernel)
def tX7_operate_175 := Bt_2 (q := 175) tX7_operate_173 rfl
theorem dX7_operate_175 : decode cX7_operate 175 = .ok (.lload 8, 2) := de_16 tX7_operate_175 (by decide +kernel)
def tX7_operate_177 := Bt_2 (q := 177) tX7_operate_175 rfl
theorem dX7_operate_177 : decode cX7_operate 177 = .ok (.lmul, 1) := de_69 tX7_operate_177
def tX7_operate_178 := Bt_1 (q := 178) tX7_operate_177 rfl
theorem dX7_operate_178 : decode cX7_operate 178 = .ok (.invokevirtual 119, 3) := de_b6 tX7_operate_178 (by decide +kernel)
def tX7_operate_181 := Bt_3 (q := 181) tX7_operate_178 rfl
theorem dX7_operate_181 : decode cX7_operate 181 = .ok (.goto 83, 3) := de_a7 tX7_operate_181 (by decide +kernel)
def tX7_operate_184 := Bt_3 (q := 184) tX7_operate_181 rfl
theorem dX7_operate_184 : decode cX7_operate 184 = .ok (.iload_n 1, 1) := de_1b tX7_operate_184
def tX7_operate_185 := Bt_1 (q := 185) tX7_operate_184 rfl
theorem dX7_operate_185 : decode cX7_operate 185 = .ok (.bipush 60, 2) := de_10 tX7_operate_185 (by decide +kernel)
def tX7_operate_187 := Bt_2 (q := 187) tX7_operate_185 rfl
theorem dX7_operate_187 : decode cX7_operate 187 = .ok (.if_icmp .ne 25, 3) := de_a0 tX7_operate_187 (by decide +kernel)
def tX7_operate_190 := Bt_3 (q := 190) tX7_operate_187 rfl
theorem dX7_operate_190 : decode cX7_operate 190 = .ok (.lload 4, 2) := de_16 tX7_operate_190 (by decide +kernel)
def tX7_operate_192 := Bt_2 (q := 192) tX7_operate_190 rfl
theorem dX7_operate_192 : decode cX7_operate 192 = .ok (.lload 10, 2) := de_16 tX7_operate_192 (by decide +kernel)
def tX7_operate_194 := Bt_2 (q := 194) tX7_operate_192 rfl
theorem dX7_operate_194 : decode cX7_operate 194 = .ok (.lmul, 1) := de_69 tX7_operate_194
def tX7_operate_195 := Bt_1 (q := 195) tX7_operate_194 rfl
theorem dX7_operate_195 : decode cX7_operate 195 = .ok (.lload 8, 2) := de_16 tX7_operate_195 (by decide +kernel)
def tX7_operate_197 := Bt_2 (q := 197) tX7_operate_195 rfl
theorem dX7_operate_197 : decode cX7_operate 197 = .ok (.lload 6, 2) := de_16 tX7_operate_197 (by decide +kernel)
def tX7_operate_199 := Bt_2 (q := 199) tX7_operate_197 rfl
theorem dX7_operate_199 : decode cX7_operate 199 = .ok (.lmul, 1) := de_69 tX7_operate_199
def tX7_operate_200 := Bt_1 (q := 200) tX7_operate_199 rfl
theorem dX7_operate_200 : decode cX7_operate 200 = .ok (.lcmp, 1) := de_94 tX7_operate_200
def tX7_operate_201 := Bt_1 (q := 201) tX7_operate_200 rfl
theorem dX7_operate_201 : decode cX7_operate 201 = .ok (.ifCond .gt 7, 3) := de_9d tX7_operate_201 (by decide +kernel)
def tX7_operate_204 := Bt_3 (q := 204) tX7_operate_201 rfl
theorem dX7_operate_204 : decode cX7_operate 204 = .ok (.iconst 1, 1) := de_04 tX7_operate_204
def tX7_operate_205 := Bt_1 (q := 205) tX7_operate_204 rfl
theorem dX7_operate_205 : decode cX7_operate 205 = .ok (.goto 26, 3) := de_a7 tX7_operate_205 (by decide +kernel)
def tX7_operate_208 := Bt_3 (q := 208) tX7_operate_205 rfl
theorem dX7_operate_208 : decode cX7_operate 208 = .ok (.iconst 0, 1) := de_03 tX7_operate_208
def tX7_operate_209 := Bt_1 (q := 209) tX7_operate_208 rfl
theorem dX7_operate_209 : decode cX7_operate 209 = .ok (.goto 22, 3) := de_a7 tX7_operate_209 (by decide +kernel)
def tX7_operate_212 := Bt_3 (q := 212) tX7_operate_209 rfl
theorem dX7_operate_212 : decode cX7_operate 212 = .ok (.lload 4, 2) := de_16 tX7_operate_212 (by decide +kernel)
def tX7_operate_214 := Bt_2 (q := 214) tX7_operate_212 rfl
theorem dX7_operate_214 : decode cX7_operate 214 = .ok (.lload 10, 2) := de_16 tX7_operate_214 (by decide +kernel)
def tX7_operate_216 := Bt_2 (q := 216) tX7_operate_214 rfl
theorem dX7_operate_216 : decode cX7_operate 216 = .ok (.lmul, 1) := de_69 tX7_operate_216
def tX7_operate_217 := Bt_1 (q := 217) tX7_operate_216 rfl
theorem dX7_operate_217 : decode cX7_operate 217 = .ok (.lload 8, 2) := de_16 tX7_operate_217 (by decide +kernel)
def tX7_operate_219 := Bt_2 (q := 219) tX7_operate_217 rfl
theorem dX7_operate_219 : decode cX7_operate 219 = .ok (.lload 6, 2) := de_16 tX7_operate_219 (by decide +kernel)
def tX7_operate_221 := Bt_2 (q := 221) tX7_operate_219 rfl
theorem dX7_operate_221 : decode cX7_operate 221 = .ok (.lmul, 1) := de_69 tX7_operate_221
def tX7_operate_222 := Bt_1 (q := 222) tX7_operate_221 rfl
theorem dX7_operate_222 : decode cX7_operate 222 = .ok (.lcmp, 1) := de_94 tX7_operate_222
def tX7_operate_223 := Bt_1 (q := 223) tX7_operate_222 rfl
theorem dX7_operate_223 : decode cX7_operate 223 = .ok (.ifCond .lt 7, 3) := de_9b tX7_operate_223 (by decide +kernel)
def tX7_operate_226 := Bt_3 (q := 226) tX7_operate_223 rfl
theorem dX7_operate_226 : decode cX7_operate 226 = .ok (.iconst 1, 1) := de_04 tX7_operate_226
def tX7_operate_227 := Bt_1 (q := 227) tX7_operate_226 rfl
theorem dX7_operate_227 : decode cX7_operate 227 = .ok (.goto 4, 3) := de_a7 tX7_operate_227 (by decide +kernel)
def tX7_operate_230 := Bt_3 (q := 230) tX7_operate_227 rfl
theorem dX7_operate_230 : decode cX7_operate 230 = .ok (.iconst 0, 1) := de_03 tX7_operate_230
def tX7_operate_231 := Bt_1 (q := 231) tX7_operate_230 rfl
theorem dX7_operate_231 : decode cX7_operate 231 = .ok (.istore 12, 2) := de_36 tX7_operate_231 (by decide +kernel)
def tX7_operate_233 := Bt_2 (q := 233) tX7_operate_231 rfl
theorem dX7_operate_233 : decode cX7_operate 233 = .ok (.aload_n 0, 1) := de_2a tX7_operate_233
def tX7_operate_234 := Bt_1 (q := 234) tX7_operate_233 rfl
theorem dX7_operate_234 : decode cX7_operate 234 = .ok (.getfield 12, 3) := de_b4 tX7_operate_234 (by decide +kernel)
def tX7_operate_237 := Bt_3 (q := 237) tX7_operate_234 rfl
theorem dX7_operate_237 : decode cX7_operate 237 = .ok (.iload 12, 2) := de_15 tX7_operate_237 (by decide +kernel)
def tX7_operate_239 := Bt_2 (q := 239) tX7_operate_237 rfl
theorem dX7_operate_239 : decode cX7_operate 239 = .ok (.ifCond .eq 8, 3) := de_99 tX7_operate_239 (by decide +kernel)
def tX7_operate_242 := Bt_3 (q := 242) tX7_operate_239 rfl
theorem dX7_operate_242 : decode cX7_operate 242 = .ok (.lload 4, 2) := de_16 tX7_operate_242 (by decide +kernel)
def tX7_operate_244 := Bt_2 (q := 244) tX7_operate_242 rfl
theorem dX7_operate_244 : decode cX7_operate 244 = .ok (.goto 5, 3) := de_a7 tX7_operate_244 (by decide +kernel)
def tX7_operate_247 := Bt_3 (q := 247) tX7_operate_244 rfl
theorem dX7_operate_247 : decode cX7_operate 247 = .ok (.lload 8, 2) := de_16 tX7_operate_247 (by decide +kernel)
def tX7_operate_249 := Bt_2 (q := 249) tX7_operate_247 rfl
theorem dX7_operate_249 : decode cX7_operate 249 = .ok (.iload 12, 2) := de_15 tX7_operate_249 (by decide +kernel)
def tX7_operate_251 := Bt_2 (q := 251) tX7_operate_249 rfl
theorem dX7_operate_251 : decode cX7_operate 251 = .ok (.ifCond .eq 8, 3) := de_99 tX7_operate_251 (by decide +kernel)
def tX7_operate_254 := Bt_3 (q := 254) tX7_operate_251 rfl
theorem dX7_operate_254 : decode cX7_operate 254 = .ok (.lload 6, 2) := de_16 tX7_operate_254 (by decide +kernel)
def tX7_operate_256 := Bt_2 (q := 256) tX7_operate_254 rfl
theorem dX7_operate_256 : decode cX7_operate 256 = .ok (.goto 5, 3) := de_a7 tX7_operate_256 (by decide +kernel)
def tX7_operate_259 := Bt_3 (q := 259) tX7_operate_256 rfl
theorem dX7_operate_259 : decode cX7_operate 259 = .ok (.lload 10, 2) := de_16 tX7_operate_259 (by decide +kernel)
def tX7_operate_261 := Bt_2 (q := 261) tX7_operate_259 rfl
theorem dX7_operate_261 : decode cX7_operate 261 = .ok (.invokevirtual 119, 3) := de_b6 tX7_operate_261 (by decide +kernel)
def tX7_operate_264 := Bt_3 (q := 264) tX7_operate_261 rfl
theorem dX7_operate_264 : decode cX7_operate 264 = .ok (.aload_n 0, 1) := de_2a tX7_operate_264
def tX7_operate_265 := Bt_1 (q := 265) tX7_operate_264 rfl
theorem dX7_operate_265 : decode cX7_operate 265 = .ok (.getfield 45, 3) := de_b4 tX7_operate_265 (by decide +kernel)
def tX7_operate_268 := Bt_3 (q := 268) tX7_operate_265 rfl
theorem dX7_operate_268 : decode cX7_operate 268 = .ok (.iload_n 3, 1) := de_1d tX7_operate_268
def tX7_operate_269 := Bt_1 (q := 269) tX7_operate_268 rfl
theorem dX7_operate_269 : decode cX7_operate 269 = .ok (.aload_n 0, 1) := de_2a tX7_operate_269
def tX7_operate_270 := Bt_1 (q := 270) tX7_operate_269 rfl
theorem dX7_operate_270 : decode cX7_operate 270 = .ok (.getfield 12, 3) := de_b4 tX7_operate_270 (by decide +kernel)
def tX7_operate_273 := Bt_3 (q := 273) tX7_operate_270 rfl
theorem dX7_operate_273 : decode cX7_operate 273 = .ok (.getfield 78, 3) := de_b4 tX7_operate_273 (by decide +kernel)
def tX7_operate_276 := Bt_3 (q := 276) tX7_operate_273 rfl
theorem dX7_operate_276 : decode cX7_operate 276 = .ok (.lastore, 1) := de_50 tX7_operate_276
def tX7_operate_277 := Bt_1 (q := 277) tX7_operate_276 rfl
theorem dX7_operate_277 : decode cX7_operate 277 = .ok (.aload_n 0, 1) := de_2a tX7_operate_277
def tX7_operate_278 := Bt_1 (q := 278) tX7_operate_277 rfl
theorem dX7_operate_278 : decode cX7_operate 278 = .ok (.getfield 48, 3) := de_b4 tX7_operate_278 (by decide +kernel)
def tX7_operate_281 := Bt_3 (q := 281) tX7_operate_278 rfl
theorem dX7_operate_281 : decode cX7_operate 281 = .ok (.iload_n 3, 1) := de_1d tX7_operate_281
def tX7_operate_282 := Bt_1 (q := 282) tX7_operate_281 rfl
theorem dX7_operate_282 : decode cX7_operate 282 = .ok (.aload_n 0, 1) := de_2a tX7_operate_282
def tX7_operate_283 := Bt_1 (q := 283) tX7_operate_282 rfl
theorem dX7_operate_283 : decode cX7_operate 283 = .ok (.getfield 12, 3) := de_b4 tX7_operate_283 (by decide +kernel)
def tX7_operate_286 := Bt_3 (q := 286) tX7_operate_283 rfl
theorem dX7_operate_286 : decode cX7_operate 286 = .ok (.getfield 82, 3) := de_b4 tX7_operate_286 (by decide +kernel)
def tX7_operate_289 := Bt_3 (q := 289) tX7_operate_286 rfl
theorem dX7_operate_289 : decode cX7_operate 289 = .ok (.lastore, 1) := de_50 tX7_operate_289
def tX7_operate_290 := Bt_1 (q := 290) tX7_operate_289 rfl
theorem dX7_operate_290 : decode cX7_operate 290 = .ok (.aload_n 0, 1) := de_2a tX7_operate_290
def tX7_operate_291 := Bt_1 (q := 291) tX7_operate_290 rfl
theorem dX7_operate_291 : decode cX7_operate 291 = .ok (.iload_n 2, 1) := de_1c tX7_operate_291
def tX7_operate_292 := Bt_1 (q := 292) tX7_operate_291 rfl
theorem dX7_operate_292 : decode cX7_operate 292 = .ok (.putfield 143, 3) := de_b5 tX7_operate_292 (by decide +kernel)
def tX7_operate_295 := Bt_3 (q := 295) tX7_operate_292 rfl
theorem dX7_operate_295 : decode cX7_operate 295 = .ok (.return_, 1) := de_b1 tX7_operate_295
def tX7_rank_0 := Bt_0 cX7_rank
theorem dX7_rank_0 : decode cX7_rank 0 = .ok (.aload_n 0, 1) := de_2a tX7_rank_0
def tX7_rank_1 := Bt_1 (q := 1) tX7_rank_0 rfl
theorem dX7_rank_1 : decode cX7_rank 1 = .ok (.iconst 0, 1) := de_03 tX7_rank_1
def tX7_rank_2 := Bt_1 (q := 2) tX7_rank_1 rfl
theorem dX7_rank_2 : decode cX7_rank 2 = .ok (.putfield 161, 3) := de_b5 tX7_rank_2 (by decide +kernel)
def tX7_rank_5 := Bt_3 (q := 5) tX7_rank_2 rfl
theorem dX7_rank_5 : decode cX7_rank 5 = .ok (.iconst 0, 1) := de_03 tX7_rank_5
def tX7_rank_6 := Bt_1 (q := 6) tX7_rank_5 rfl
theorem dX7_rank_6 : decode cX7_rank 6 = .ok (.istore_n 2, 1) := de_3d tX7_rank_6
def tX7_rank_7 := Bt_1 (q := 7) tX7_rank_6 rfl
theorem dX7_rank_7 : decode cX7_rank 7 = .ok (.iload_n 2, 1) := de_1c tX7_rank_7
def tX7_rank_8 := Bt_1 (q := 8) tX7_rank_7 rfl
theorem dX7_rank_8 : decode cX7_rank 8 = .ok (.bipush 8, 2) := de_10 tX7_rank_8 (by decide +kernel)
def tX7_rank_10 := Bt_2 (q := 10) tX7_rank_8 rfl
theorem dX7_rank_10 : decode cX7_rank 10 = .ok (.if_icmp .ge 38, 3) := de_a2 tX7_rank_10 (by decide +kernel)
def tX7_rank_13 := Bt_3 (q := 13) tX7_rank_10 rfl
theorem dX7_rank_13 : decode cX7_rank 13 = .ok (.aload_n 0, 1) := de_2a tX7_rank_13
def tX7_rank_14 := Bt_1 (q := 14) tX7_rank_13 rfl
theorem dX7_rank_14 : decode cX7_rank 14 = .ok (.getfield 18, 3) := de_b4 tX7_rank_14 (by decide +kernel)
def tX7_rank_17 := Bt_3 (q := 17) tX7_rank_14 rfl
theorem dX7_rank_17 : decode cX7_rank 17 = .ok (.iload_n 2, 1) := de_1c tX7_rank_17
def tX7_rank_18 := Bt_1 (q := 18) tX7_rank_17 rfl
theorem dX7_rank_18 : decode cX7_rank 18 = .ok (.baload, 1) := de_33 tX7_rank_18
def tX7_rank_19 := Bt_1 (q := 19) tX7_rank_18 rfl
theorem dX7_rank_19 : decode cX7_rank 19 = .ok (.ifCond .eq 23, 3) := de_99 tX7_rank_19 (by decide +kernel)
def tX7_rank_22 := Bt_3 (q := 22) tX7_rank_19 rfl
theorem dX7_rank_22 : decode cX7_rank 22 = .ok (.aload_n 0, 1) := de_2a tX7_rank_22
def tX7_rank_23 := Bt_1 (q := 23) tX7_rank_22 rfl
theorem dX7_rank_23 : decode cX7_rank 23 = .ok (.aload_n 1, 1) := de_2b tX7_rank_23
def tX7_rank_24 := Bt_1 (q := 24) tX7_rank_23 rfl
theorem dX7_rank_24 : decode cX7_rank 24 = .ok (.iload_n 2, 1) := de_1c tX7_rank_24
def tX7_rank_25 := Bt_1 (q := 25) tX7_rank_24 rfl
theorem dX7_rank_25 : decode cX7_rank 25 = .ok (.invokevirtual 129, 3) := de_b6 tX7_rank_25 (by decide +kernel)
def tX7_rank_28 := Bt_3 (q := 28) tX7_rank_25 rfl
theorem dX7_rank_28 : decode cX7_rank 28 = .ok (.aload_n 0, 1) := de_2a tX7_rank_28
def tX7_rank_29 := Bt_1 (q := 29) tX7_rank_28 rfl
theorem dX7_rank_29 : decode cX7_rank 29 = .ok (.getfield 39, 3) := de_b4 tX7_rank_29 (by decide +kernel)
def tX7_rank_32 := Bt_3 (q := 32) tX7_rank_29 rfl
theorem dX7_rank_32 : decode cX7_rank 32 = .ok (.iload_n 2, 1) := de_1c tX7_rank_32
def tX7_rank_33 := Bt_1 (q := 33) tX7_rank_32 rfl
theorem dX7_rank_33 : decode cX7_rank 33 = .ok (.baload, 1) := de_33 tX7_rank_33
def tX7_rank_34 := Bt_1 (q := 34) tX7_rank_33 rfl
theorem dX7_rank_34 : decode cX7_rank 34 = .ok (.ifCond .ne 8, 3) := de_9a tX7_rank_34 (by decide +kernel)
def tX7_rank_37 := Bt_3 (q := 37) tX7_rank_34 rfl
theorem dX7_rank_37 : decode cX7_rank 37 = .ok (.aload_n 0, 1) := de_2a tX7_rank_37
def tX7_rank_38 := Bt_1 (q := 38) tX7_rank_37 rfl
theorem dX7_rank_38 : decode cX7_rank 38 = .ok (.iload_n 2, 1) := de_1c tX7_rank_38
def tX7_rank_39 := Bt_1 (q := 39) tX7_rank_38 rfl
theorem dX7_rank_39 : decode cX7_rank 39 = .ok (.invokevirtual 164, 3) := de_b6 tX7_rank_39 (by decide +kernel)
def tX7_rank_42 := Bt_3 (q := 42) tX7_rank_39 rfl
theorem dX7_rank_42 : decode cX7_rank 42 = .ok (.iinc 2 1, 3) := de_84 tX7_rank_42 (by decide +kernel) (by decide +kernel)
def tX7_rank_45 := Bt_3 (q := 45) tX7_rank_42 rfl
theorem dX7_rank_45 : decode cX7_rank 45 = .ok (.goto (-38), 3) := de_a7 tX7_rank_45 (by decide +kernel)
def tX7_rank_48 := Bt_3 (q := 48) tX7_rank_45 rfl
theorem dX7_rank_48 : decode cX7_rank 48 = .ok (.return_, 1) := de_b1 tX7_rank_48
def tX7_insert_0 := Bt_0 cX7_insert
theorem dX7_insert_0 : decode cX7_insert 0 = .ok (.aload_n 0, 1) := de_2a tX7_insert_0
def tX7_insert_1 := Bt_1 (q := 1) tX7_insert_0 rfl
theorem dX7_insert_1 : decode cX7_insert 1 = .ok (.getfield 161, 3) := de_b4 tX7_insert_1 (by decide +kernel)
def tX7_insert_4 := Bt_3 (q := 4) tX7_insert_1 rfl
theorem dX7_insert_4 : decode cX7_insert 4 = .ok (.istore_n 2, 1) := de_3d tX7_insert_4
def tX7_insert_5 := Bt_1 (q := 5) tX7_insert_4 rfl
theorem dX7_insert_5 : decode cX7_insert 5 = .ok (.aload_n 0, 1) := de_2a tX7_insert_5
def tX7_insert_6 := Bt_1 (q := 6) tX7_insert_5 rfl
theorem dX7_insert_6 : decode cX7_insert 6 = .ok (.dup, 1) := de_59 tX7_insert_6
def tX7_insert_7 := Bt_1 (q := 7) tX7_insert_6 rfl
theorem dX7_insert_7 : decode cX7_insert 7 = .ok (.getfield 161, 3) := de_b4 tX7_insert_7 (by decide +kernel)
def tX7_insert_10 := Bt_3 (q := 10) tX7_insert_7 rfl
theorem dX7_insert_10 : decode cX7_insert 10 = .ok (.iconst 1, 1) := de_04 tX7_insert_10
def tX7_insert_11 := Bt_1 (q := 11) tX7_insert_10 rfl
theorem dX7_insert_11 : decode cX7_insert 11 = .ok (.iadd, 1) := de_60 tX7_insert_11
def tX7_insert_12 := Bt_1 (q := 12) tX7_insert_11 rfl
theorem dX7_insert_12 : decode cX7_insert 12 = .ok (.putfield 161, 3) := de_b5 tX7_insert_12 (by decide +kernel)
def tX7_insert_15 := Bt_3 (q := 15) tX7_insert_12 rfl
theorem dX7_insert_15 : decode cX7_insert 15 = .ok (.iload_n 2, 1) := de_1c tX7_insert_15
def tX7_insert_16 := Bt_1 (q := 16) tX7_insert_15 rfl
theorem dX7_insert_16 : decode cX7_insert 16 = .ok (.ifCond .le 39, 3) := de_9e tX7_insert_16 (by decide +kernel)
def tX7_insert_19 := Bt_3 (q := 19) tX7_insert_16 rfl
theorem dX7_insert_19 : decode cX7_insert 19 = .ok (.aload_n 0, 1) := de_2a tX7_insert_19
def tX7_insert_20 := Bt_1 (q := 20) tX7_insert_19 rfl
theorem dX7_insert_20 : decode cX7_insert 20 = .ok (.iload_n 1, 1) := de_1b tX7_insert_20
def tX7_insert_21 := Bt_1 (q := 21) tX7_insert_20 rfl
theorem dX7_insert_21 : decode cX7_insert 21 = .ok (.aload_n 0, 1) := de_2a tX7_insert_21
def tX7_insert_22 := Bt_1 (q := 22) tX7_insert_21 rfl
theorem dX7_insert_22 : decode cX7_insert 22 = .ok (.getfield 42, 3) := de_b4 tX7_insert_22 (by decide +kernel)
def tX7_insert_25 := Bt_3 (q := 25) tX7_insert_22 rfl
theorem dX7_insert_25 : decode cX7_insert 25 = .ok (.iload_n 2, 1) := de_1c tX7_insert_25
def tX7_insert_26 := Bt_1 (q := 26) tX7_insert_25 rfl
theorem dX7_insert_26 : decode cX7_insert 26 = .ok (.iconst 1, 1) := de_04 tX7_insert_26
def tX7_insert_27 := Bt_1 (q := 27) tX7_insert_26 rfl
theorem dX7_insert_27 : decode cX7_insert 27 = .ok (.isub, 1) := de_64 tX7_insert_27
def tX7_insert_28 := Bt_1 (q := 28) tX7_insert_27 rfl
theorem dX7_insert_28 : decode cX7_insert 28 = .ok (.iaload, 1) := de_2e tX7_insert_28
def tX7_insert_29 := Bt_1 (q := 29) tX7_insert_28 rfl
theorem dX7_insert_29 : decode cX7_insert 29 = .ok (.invokevirtual 167, 3) := de_b6 tX7_insert_29 (by decide +kernel)
def tX7_insert_32 := Bt_3 (q := 32) tX7_insert_29 rfl
theorem dX7_insert_32 : decode cX7_insert 32 = .ok (.ifCond .eq 23, 3) := de_99 tX7_insert_32 (by decide +kernel)
def tX7_insert_35 := Bt_3 (q := 35) tX7_insert_32 rfl
theorem dX7_insert_35 : decode cX7_insert 35 = .ok (.aload_n 0, 1) := de_2a tX7_insert_35
def tX7_insert_36 := Bt_1 (q := 36) tX7_insert_35 rfl
theorem dX7_insert_36 : decode cX7_insert 36 = .ok (.getfield 42, 3) := de_b4 tX7_insert_36 (by decide +kernel)
def tX7_insert_39 := Bt_3 (q := 39) tX7_insert_36 rfl
theorem dX7_insert_39 : decode cX7_insert 39 = .ok (.iload_n 2, 1) := de_1c tX7_insert_39
def tX7_insert_40 := Bt_1 (q := 40) tX7_insert_39 rfl
theorem dX7_insert_40 : decode cX7_insert 40 = .ok (.aload_n 0, 1) := de_2a tX7_insert_40
def tX7_insert_41 := Bt_1 (q := 41) tX7_insert_40 rfl
theorem dX7_insert_41 : decode cX7_insert 41 = .ok (.getfield 42, 3) := de_b4 tX7_insert_41 (by decide +kernel)
def tX7_insert_44 := Bt_3 (q := 44) tX7_insert_41 rfl
theorem dX7_insert_44 : decode cX7_insert 44 = .ok (.iload_n 2, 1) := de_1c tX7_insert_44
def tX7_insert_45 := Bt_1 (q := 45) tX7_insert_44 rfl
theorem dX7_insert_45 : decode cX7_insert 45 = .ok (.iconst 1, 1) := de_04 tX7_insert_45
def tX7_insert_46 := Bt_1 (q := 46) tX7_insert_45 rfl
theorem dX7_insert_46 : decode cX7_insert 46 = .ok (.isub, 1) := de_64 tX7_insert_46
def tX7_insert_47 := Bt_1 (q := 47) tX7_insert_46 rfl
theorem dX7_insert_47 : decode cX7_insert 47 = .ok (.iaload, 1) := de_2e tX7_insert_47
def tX7_insert_48 := Bt_1 (q := 48) tX7_insert_47 rfl
theorem dX7_insert_48 : decode cX7_insert 48 = .ok (.iastore, 1) := de_4f tX7_insert_48
def tX7_insert_49 := Bt_1 (q := 49) tX7_insert_48 rfl
theorem dX7_insert_49 : decode cX7_insert 49 = .ok (.iinc 2 (-1), 3) := de_84 tX7_insert_49 (by decide +kernel) (by decide +kernel)
def tX7_insert_52 := Bt_3 (q := 52) tX7_insert_49 rfl
theorem dX7_insert_52 : decode cX7_insert 52 = .ok (.goto (-37), 3) := de_a7 tX7_insert_52 (by decide +kernel)
def tX7_insert_55 := Bt_3 (q := 55) tX7_insert_52 rfl
theorem dX7_insert_55 : decode cX7_insert 55 = .ok (.aload_n 0, 1) := de_2a tX7_insert_55
def tX7_insert_56 := Bt_1 (q := 56) tX7_insert_55 rfl
theorem dX7_insert_56 : decode cX7_insert 56 = .ok (.getfield 42, 3) := de_b4 tX7_insert_56 (by decide +kernel)
def tX7_insert_59 := Bt_3 (q := 59) tX7_insert_56 rfl
theorem dX7_insert_59 : decode cX7_insert 59 = .ok (.iload_n 2, 1) := de_1c tX7_insert_59
def tX7_insert_60 := Bt_1 (q := 60) tX7_insert_59 rfl
theorem dX7_insert_60 : decode cX7_insert 60 = .ok (.iload_n 1, 1) := de_1b tX7_insert_60
def tX7_insert_61 := Bt_1 (q := 61) tX7_insert_60 rfl
theorem dX7_insert_61 : decode cX7_insert 61 = .ok (.iastore, 1) := de_4f tX7_insert_61
def tX7_insert_62 := Bt_1 (q := 62) tX7_insert_61 rfl
theorem dX7_insert_62 : decode cX7_insert 62 = .ok (.return_, 1) := de_b1 tX7_insert_62
def tX7_isAhead_0 := Bt_0 cX7_isAhead
theorem dX7_isAhead_0 : decode cX7_isAhead 0 = .ok (.aload_n 0, 1) := de_2a tX7_isAhead_0
def tX7_isAhead_1 := Bt_1 (q := 1) tX7_isAhead_0 rfl
theorem dX7_isAhead_1 : decode cX7_isAhead 1 = .ok (.getfield 33, 3) := de_b4 tX7_isAhead_1 (by decide +kernel)
def tX7_isAhead_4 := Bt_3 (q := 4) tX7_isAhead_1 rfl
theorem dX7_isAhead_4 : decode cX7_isAhead 4 = .ok (.iload_n 1, 1) := de_1b tX7_isAhead_4
def tX7_isAhead_5 := Bt_1 (q := 5) tX7_isAhead_4 rfl
theorem dX7_isAhead_5 : decode cX7_isAhead 5 = .ok (.laload, 1) := de_2f tX7_isAhead_5
def tX7_isAhead_6 := Bt_1 (q := 6) tX7_isAhead_5 rfl
theorem dX7_isAhead_6 : decode cX7_isAhead 6 = .ok (.aload_n 0, 1) := de_2a tX7_isAhead_6
def tX7_isAhead_7 := Bt_1 (q := 7) tX7_isAhead_6 rfl
theorem dX7_isAhead_7 : decode cX7_isAhead 7 = .ok (.getfield 36, 3) := de_b4 tX7_isAhead_7 (by decide +kernel)
def tX7_isAhead_10 := Bt_3 (q := 10) tX7_isAhead_7 rfl
theorem dX7_isAhead_10 : decode cX7_isAhead 10 = .ok (.iload_n 2, 1) := de_1c tX7_isAhead_10
def tX7_isAhead_11 := Bt_1 (q := 11) tX7_isAhead_10 rfl
theorem dX7_isAhead_11 : decode cX7_isAhead 11 = .ok (.laload, 1) := de_2f tX7_isAhead_11
def tX7_isAhead_12 := Bt_1 (q := 12) tX7_isAhead_11 rfl
theorem dX7_isAhead_12 : decode cX7_isAhead 12 = .ok (.lmul, 1) := de_69 tX7_isAhead_12
def tX7_isAhead_13 := Bt_1 (q := 13) tX7_isAhead_12 rfl
theorem dX7_isAhead_13 : decode cX7_isAhead 13 = .ok (.aload_n 0, 1) := de_2a tX7_isAhead_13
def tX7_isAhead_14 := Bt_1 (q := 14) tX7_isAhead_13 rfl
theorem dX7_isAhead_14 : decode cX7_isAhead 14 = .ok (.getfield 33, 3) := de_b4 tX7_isAhead_14 (by decide +kernel)
def tX7_isAhead_17 := Bt_3 (q := 17) tX7_isAhead_14 rfl
theorem dX7_isAhead_17 : decode cX7_isAhead 17 = .ok (.iload_n 2, 1) := de_1c tX7_isAhead_17
def tX7_isAhead_18 := Bt_1 (q := 18) tX7_isAhead_17 rfl
theorem dX7_isAhead_18 : decode cX7_isAhead 18 = .ok (.laload, 1) := de_2f tX7_isAhead_18
def tX7_isAhead_19 := Bt_1 (q := 19) tX7_isAhead_18 rfl
theorem dX7_isAhead_19 : decode cX7_isAhead 19 = .ok (.aload_n 0, 1) := de_2a tX7_isAhead_19
def tX7_isAhead_20 := Bt_1 (q := 20) tX7_isAhead_19 rfl
theorem dX7_isAhead_20 : decode cX7_isAhead 20 = .ok (.getfield 36, 3) := de_b4 tX7_isAhead_20 (by decide +kernel)
def tX7_isAhead_23 := Bt_3 (q := 23) tX7_isAhead_20 rfl
theorem dX7_isAhead_23 : decode cX7_isAhead 23 = .ok (.iload_n 1, 1) := de_1b tX7_isAhead_23
def tX7_isAhead_24 := Bt_1 (q := 24) tX7_isAhead_23 rfl
theorem dX7_isAhead_24 : decode cX7_isAhead 24 = .ok (.laload, 1) := de_2f tX7_isAhead_24
def tX7_isAhead_25 := Bt_1 (q := 25) tX7_isAhead_24 rfl
theorem dX7_isAhead_25 : decode cX7_isAhead 25 = .ok (.lmul, 1) := de_69 tX7_isAhead_25
def tX7_isAhead_26 := Bt_1 (q := 26) tX7_isAhead_25 rfl
theorem dX7_isAhead_26 : decode cX7_isAhead 26 = .ok (.invokestatic 171, 3) := de_b8 tX7_isAhead_26 (by decide +kernel)
def tX7_isAhead_29 := Bt_3 (q := 29) tX7_isAhead_26 rfl
theorem dX7_isAhead_29 : decode cX7_isAhead 29 = .ok (.istore_n 3, 1) := de_3e tX7_isAhead_29
def tX7_isAhead_30 := Bt_1 (q := 30) tX7_isAhead_29 rfl
theorem dX7_isAhead_30 : decode cX7_isAhead 30 = .ok (.iload_n 3, 1) := de_1d tX7_isAhead_30
def tX7_isAhead_31 := Bt_1 (q := 31) tX7_isAhead_30 rfl
theorem dX7_isAhead_31 : decode cX7_isAhead 31 = .ok (.ifCond .eq 13, 3) := de_99 tX7_isAhead_31 (by decide +kernel)
def tX7_isAhead_34 := Bt_3 (q := 34) tX7_isAhead_31 rfl
theorem dX7_isAhead_34 : decode cX7_isAhead 34 = .ok (.iload_n 3, 1) := de_1d tX7_isAhead_34
def tX7_isAhead_35 := Bt_1 (q := 35) tX7_isAhead_34 rfl
theorem dX7_isAhead_35 : decode cX7_isAhead 35 = .ok (.ifCond .le 7, 3) := de_9e tX7_isAhead_35 (by decide +kernel)
def tX7_isAhead_38 := Bt_3 (q := 38) tX7_isAhead_35 rfl
theorem dX7_isAhead_38 : decode cX7_isAhead 38 = .ok (.iconst 1, 1) := de_04 tX7_isAhead_38
def tX7_isAhead_39 := Bt_1 (q := 39) tX7_isAhead_38 rfl
theorem dX7_isAhead_39 : decode cX7_isAhead 39 = .ok (.goto 4, 3) := de_a7 tX7_isAhead_39 (by decide +kernel)
def tX7_isAhead_42 := Bt_3 (q := 42) tX7_isAhead_39 rfl
theorem dX7_isAhead_42 : decode cX7_isAhead 42 = .ok (.iconst 0, 1) := de_03 tX7_isAhead_42
def tX7_isAhead_43 := Bt_1 (q := 43) tX7_isAhead_42 rfl
theorem dX7_isAhead_43 : decode cX7_isAhead 43 = .ok (.ireturn, 1) := de_ac tX7_isAhead_43
def tX7_isAhead_44 := Bt_1 (q := 44) tX7_isAhead_43 rfl
theorem dX7_isAhead_44 : decode cX7_isAhead 44 = .ok (.aload_n 0, 1) := de_2a tX7_isAhead_44
def tX7_isAhead_45 := Bt_1 (q := 45) tX7_isAhead_44 rfl
theorem dX7_isAhead_45 : decode cX7_isAhead 45 = .ok (.getfield 26, 3) := de_b4 tX7_isAhead_45 (by decide +kernel)
def tX7_isAhead_48 := Bt_3 (q := 48) tX7_isAhead_45 rfl
theorem dX7_isAhead_48 : decode cX7_isAhead 48 = .ok (.iload_n 1, 1) := de_1b tX7_isAhead_48
def tX7_isAhead_49 := Bt_1 (q := 49) tX7_isAhead_48 rfl
theorem dX7_isAhead_49 : decode cX7_isAhead 49 = .ok (.laload, 1) := de_2f tX7_isAhead_49
def tX7_isAhead_50 := Bt_1 (q := 50) tX7_isAhead_49 rfl
theorem dX7_isAhead_50 : decode cX7_isAhead 50 = .ok (.aload_n 0, 1) := de_2a tX7_isAhead_50
def tX7_isAhead_51 := Bt_1 (q := 51) tX7_isAhead_50 rfl
theorem dX7_isAhead_51 : decode cX7_isAhead 51 = .ok (.getfield 30, 3) := de_b4 tX7_isAhead_51 (by decide +kernel)
def tX7_isAhead_54 := Bt_3 (q := 54) tX7_isAhead_51 rfl
theorem dX7_isAhead_54 : decode cX7_isAhead 54 = .ok (.iload_n 2, 1) := de_1c tX7_isAhead_54
def tX7_isAhead_55 := Bt_1 (q := 55) tX7_isAhead_54 rfl
theorem dX7_isAhead_55 : decode cX7_isAhead 55 = .ok (.laload, 1) := de_2f tX7_isAhead_55
def tX7_isAhead_56 := Bt_1 (q := 56) tX7_isAhead_55 rfl
theorem dX7_isAhead_56 : decode cX7_isAhead 56 = .ok (.lmul, 1) := de_69 tX7_isAhead_56
def tX7_isAhead_57 := Bt_1 (q := 57) tX7_isAhead_56 rfl
theorem dX7_isAhead_57 : decode cX7_isAhead 57 = .ok (.aload_n 0, 1) := de_2a tX7_isAhead_57
def tX7_isAhead_58 := Bt_1 (q := 58) tX7_isAhead_57 rfl
theorem dX7_isAhead_58 : decode cX7_isAhead 58 = .ok (.getfield 26, 3) := de_b4 tX7_isAhead_58 (by decide +kernel)
def tX7_isAhead_61 := Bt_3 (q := 61) tX7_isAhead_58 rfl
theorem dX7_isAhead_61 : decode cX7_isAhead 61 = .ok (.iload_n 2, 1) := de_1c tX7_isAhead_61
def tX7_isAhead_62 := Bt_1 (q := 62) tX7_isAhead_61 rfl
theorem dX7_isAhead_62 : decode cX7_isAhead 62 = .ok (.laload, 1) := de_2f tX7_isAhead_62
def tX7_isAhead_63 := Bt_1 (q := 63) tX7_isAhead_62 rfl
theorem dX7_isAhead_63 : decode cX7_isAhead 63 = .ok (.aload_n 0, 1) := de_2a tX7_isAhead_63
def tX7_isAhead_64 := Bt_1 (q := 64) tX7_isAhead_63 rfl
theorem dX7_isAhead_64 : decode cX7_isAhead 64 = .ok (.getfield 30, 3) := de_b4 tX7_isAhead_64 (by decide +kernel)
def tX7_isAhead_67 := Bt_3 (q := 67) tX7_isAhead_64 rfl
theorem dX7_isAhead_67 : decode cX7_isAhead 67 = .ok (.iload_n 1, 1) := de_1b tX7_isAhead_67
def tX7_isAhead_68 := Bt_1 (q := 68) tX7_isAhead_67 rfl
theorem dX7_isAhead_68 : decode cX7_isAhead 68 = .ok (.laload, 1) := de_2f tX7_isAhead_68
def tX7_isAhead_69 := Bt_1 (q := 69) tX7_isAhead_68 rfl
theorem dX7_isAhead_69 : decode cX7_isAhead 69 = .ok (.lmul, 1) := de_69 tX7_isAhead_69
def tX7_isAhead_70 := Bt_1 (q := 70) tX7_isAhead_69 rfl
theorem dX7_isAhead_70 : decode cX7_isAhead 70 = .ok (.invokestatic 171, 3) := de_b8 tX7_isAhead_70 (by decide +kernel)
def tX7_isAhead_73 := Bt_3 (q := 73) tX7_isAhead_70 rfl
theorem dX7_isAhead_73 : decode cX7_isAhead 73 = .ok (.istore 4, 2) := de_36 tX7_isAhead_73 (by decide +kernel)
def tX7_isAhead_75 := Bt_2 (q := 75) tX7_isAhead_73 rfl
theorem dX7_isAhead_75 : decode cX7_isAhead 75 = .ok (.iload 4, 2) := de_15 tX7_isAhead_75 (by decide +kernel)
def tX7_isAhead_77 := Bt_2 (q := 77) tX7_isAhead_75 rfl
theorem dX7_isAhead_77 : decode cX7_isAhead 77 = .ok (.ifCond .eq 14, 3) := de_99 tX7_isAhead_77 (by decide +kernel)
def tX7_isAhead_80 := Bt_3 (q := 80) tX7_isAhead_77 rfl
theorem dX7_isAhead_80 : decode cX7_isAhead 80 = .ok (.iload 4, 2) := de_15 tX7_isAhead_80 (by decide +kernel)
def tX7_isAhead_82 := Bt_2 (q := 82) tX7_isAhead_80 rfl
theorem dX7_isAhead_82 : decode cX7_isAhead 82 = .ok (.ifCond .le 7, 3) := de_9e tX7_isAhead_82 (by decide +kernel)
def tX7_isAhead_85 := Bt_3 (q := 85) tX7_isAhead_82 rfl
theorem dX7_isAhead_85 : decode cX7_isAhead 85 = .ok (.iconst 1, 1) := de_04 tX7_isAhead_85
def tX7_isAhead_86 := Bt_1 (q := 86) tX7_isAhead_85 rfl
theorem dX7_isAhead_86 : decode cX7_isAhead 86 = .ok (.goto 4, 3) := de_a7 tX7_isAhead_86 (by decide +kernel)
def tX7_isAhead_89 := Bt_3 (q := 89) tX7_isAhead_86 rfl
theorem dX7_isAhead_89 : decode cX7_isAhead 89 = .ok (.iconst 0, 1) := de_03 tX7_isAhead_89
def tX7_isAhead_90 := Bt_1 (q := 90) tX7_isAhead_89 rfl
theorem dX7_isAhead_90 : decode cX7_isAhead 90 = .ok (.ireturn, 1) := de_ac tX7_isAhead_90
def tX7_isAhead_91 := Bt_1 (q := 91) tX7_isAhead_90 rfl
theorem dX7_isAhead_91 : decode cX7_isAhead 91 = .ok (.aload_n 0, 1) := de_2a tX7_isAhead_91
def tX7_isAhead_92 := Bt_1 (q := 92) tX7_isAhead_91 rfl
theorem dX7_isAhead_92 : decode cX7_isAhead 92 = .ok (.getfield 22, 3) := de_b4 tX7_isAhead_92 (by decide +kernel)
def tX7_isAhead_95 := Bt_3 (q := 95) tX7_isAhead_92 rfl
theorem dX7_isAhead_95 : decode cX7_isAhead 95 = .ok (.iload_n 1, 1) := de_1b tX7_isAhead_95
def tX7_isAhead_96 := Bt_1 (q := 96) tX7_isAhead_95 rfl
theorem dX7_isAhead_96 : decode cX7_isAhead 96 = .ok (.iaload, 1) := de_2e tX7_isAhead_96
def tX7_isAhead_97 := Bt_1 (q := 97) tX7_isAhead_96 rfl
theorem dX7_isAhead_97 : decode cX7_isAhead 97 = .ok (.aload_n 0, 1) := de_2a tX7_isAhead_97
def tX7_isAhead_98 := Bt_1 (q := 98) tX7_isAhead_97 rfl
theorem dX7_isAhead_98 : decode cX7_isAhead 98 = .ok (.getfield 22, 3) := de_b4 tX7_isAhead_98 (by decide +kernel)
def tX7_isAhead_101 := Bt_3 (q := 101) tX7_isAhead_98 rfl
theorem dX7_isAhead_101 : decode cX7_isAhead 101 = .ok (.iload_n 2, 1) := de_1c tX7_isAhead_101
def tX7_isAhead_102 := Bt_1 (q := 102) tX7_isAhead_101 rfl
theorem dX7_isAhead_102 : decode cX7_isAhead 102 = .ok (.iaload, 1) := de_2e tX7_isAhead_102
def tX7_isAhead_103 := Bt_1 (q := 103) tX7_isAhead_102 rfl
theorem dX7_isAhead_103 : decode cX7_isAhead 103 = .ok (.if_icmp .eq 26, 3) := de_9f tX7_isAhead_103 (by decide +kernel)
def tX7_isAhead_106 := Bt_3 (q := 106) tX7_isAhead_103 rfl
theorem dX7_isAhead_106 : decode cX7_isAhead 106 = .ok (.aload_n 0, 1) := de_2a tX7_isAhead_106
def tX7_isAhead_107 := Bt_1 (q := 107) tX7_isAhead_106 rfl
theorem dX7_isAhead_107 : decode cX7_isAhead 107 = .ok (.getfield 22, 3) := de_b4 tX7_isAhead_107 (by decide +kernel)
def tX7_isAhead_110 := Bt_3 (q := 110) tX7_isAhead_107 rfl
theorem dX7_isAhead_110 : decode cX7_isAhead 110 = .ok (.iload_n 1, 1) := de_1b tX7_isAhead_110
def tX7_isAhead_111 := Bt_1 (q := 111) tX7_isAhead_110 rfl
theorem dX7_isAhead_111 : decode cX7_isAhead 111 = .ok (.iaload, 1) := de_2e tX7_isAhead_111
def tX7_isAhead_112 := Bt_1 (q := 112) tX7_isAhead_111 rfl
theorem dX7_isAhead_112 : decode cX7_isAhead 112 = .ok (.aload_n 0, 1) := de_2a tX7_isAhead_112
def tX7_isAhead_113 := Bt_1 (q := 113) tX7_isAhead_112 rfl
theorem dX7_isAhead_113 : decode cX7_isAhead 113 = .ok (.getfield 22, 3) := de_b4 tX7_isAhead_113 (by decide +kernel)
def tX7_isAhead_116 := Bt_3 (q := 116) tX7_isAhead_113 rfl
theorem dX7_isAhead_116 : decode cX7_isAhead 116 = .ok (.iload_n 2, 1) := de_1c tX7_isAhead_116
def tX7_isAhead_117 := Bt_1 (q := 117) tX7_isAhead_116 rfl
theorem dX7_isAhead_117 : decode cX7_isAhead 117 = .ok (.iaload, 1) := de_2e tX7_isAhead_117
def tX7_isAhead_118 := Bt_1 (q := 118) tX7_isAhead_117 rfl
theorem dX7_isAhead_118 : decode cX7_isAhead 118 = .ok (.if_icmp .ge 7, 3) := de_a2 tX7_isAhead_118 (by decide +kernel)
def tX7_isAhead_121 := Bt_3 (q := 121) tX7_isAhead_118 rfl
theorem dX7_isAhead_121 : decode cX7_isAhead 121 = .ok (.iconst 1, 1) := de_04 tX7_isAhead_121
def tX7_isAhead_122 := Bt_1 (q := 122) tX7_isAhead_121 rfl
theorem dX7_isAhead_122 : decode cX7_isAhead 122 = .ok (.goto 17, 3) := de_a7 tX7_isAhead_122 (by decide +kernel)
def tX7_isAhead_125 := Bt_3 (q := 125) tX7_isAhead_122 rfl
theorem dX7_isAhead_125 : decode cX7_isAhead 125 = .ok (.iconst 0, 1) := de_03 tX7_isAhead_125
def tX7_isAhead_126 := Bt_1 (q := 126) tX7_isAhead_125 rfl
theorem dX7_isAhead_126 : decode cX7_isAhead 126 = .ok (.goto 13, 3) := de_a7 tX7_isAhead_126 (by decide +kernel)
def tX7_isAhead_129 := Bt_3 (q := 129) tX7_isAhead_126 rfl
theorem dX7_isAhead_129 : decode cX7_isAhead 129 = .ok (.iload_n 1, 1) := de_1b tX7_isAhead_129
def tX7_isAhead_130 := Bt_1 (q := 130) tX7_isAhead_129 rfl
theorem dX7_isAhead_130 : decode cX7_isAhead 130 = .ok (.iload_n 2, 1) := de_1c tX7_isAhead_130
def tX7_isAhead_131 := Bt_1 (q := 131) tX7_isAhead_130 rfl
theorem dX7_isAhead_131 : decode cX7_isAhead 131 = .ok (.if_icmp .ge 7, 3) := de_a2 tX7_isAhead_131 (by decide +kernel)
def tX7_isAhead_134 := Bt_3 (q := 134) tX7_isAhead_131 rfl
theorem dX7_isAhead_134 : decode cX7_isAhead 134 = .ok (.iconst 1, 1) := de_04 tX7_isAhead_134
def tX7_isAhead_135 := Bt_1 (q := 135) tX7_isAhead_134 rfl
theorem dX7_isAhead_135 : decode cX7_isAhead 135 = .ok (.goto 4, 3) := de_a7 tX7_isAhead_135 (by decide +kernel)
def tX7_isAhead_138 := Bt_3 (q := 138) tX7_isAhead_135 rfl
theorem dX7_isAhead_138 : decode cX7_isAhead 138 = .ok (.iconst 0, 1) := de_03 tX7_isAhead_138
def tX7_isAhead_139 := Bt_1 (q := 139) tX7_isAhead_138 rfl
theorem dX7_isAhead_139 : decode cX7_isAhead 139 = .ok (.ireturn, 1) := de_ac tX7_isAhead_139
def tX8_init_0 := Bt_0 cX8_init
theorem dX8_init_0 : decode cX8_init 0 = .ok (.aload_n 0, 1) := de_2a tX8_init_0
def tX8_init_1 := Bt_1 (q := 1) tX8_init_0 rfl
theorem dX8_init_1 : decode cX8_init 1 = .ok (.invokespecial 5, 3) := de_b7 tX8_init_1 (by decide +kernel)
def tX8_init_4 := Bt_3 (q := 4) tX8_init_1 rfl
theorem dX8_init_4 : decode cX8_init 4 = .ok (.aload_n 0, 1) := de_2a tX8_init_4
def tX8_init_5 := Bt_1 (q := 5) tX8_init_4 rfl
theorem dX8_init_5 : decode cX8_init 5 = .ok (.bipush 8, 2) := de_10 tX8_init_5 (by decide +kernel)
def tX8_init_7 := Bt_2 (q := 7) tX8_init_5 rfl
theorem dX8_init_7 : decode cX8_init 7 = .ok (.newarray .int, 2) := de_bc_0a tX8_init_7
def tX8_init_9 := Bt_2 (q := 9) tX8_init_7 rfl
theorem dX8_init_9 : decode cX8_init 9 = .ok (.putfield 11, 3) := de_b5 tX8_init_9 (by decide +kernel)
def tX8_init_12 := Bt_3 (q := 12) tX8_init_9 rfl
theorem dX8_init_12 : decode cX8_init 12 = .ok (.aload_n 0, 1) := de_2a tX8_init_12
def tX8_init_13 := Bt_1 (q := 13) tX8_init_12 rfl
theorem dX8_init_13 : decode cX8_init 13 = .ok (.bipush 6, 2) := de_10 tX8_init_13 (by decide +kernel)
def tX8_init_15 := Bt_2 (q := 15) tX8_init_13 rfl
theorem dX8_init_15 : decode cX8_init 15 = .ok (.newarray .int, 2) := de_bc_0a tX8_init_15
def tX8_init_17 := Bt_2 (q := 17) tX8_init_15 rfl
theorem dX8_init_17 : decode cX8_init 17 = .ok (.putfield 17, 3) := de_b5 tX8_init_17 (by decide +kernel)
def tX8_init_20 := Bt_3 (q := 20) tX8_init_17 rfl
theorem dX8_init_20 : decode cX8_init 20 = .ok (.aload_n 0, 1) := de_2a tX8_init_20
def tX8_init_21 := Bt_1 (q := 21) tX8_init_20 rfl
theorem dX8_init_21 : decode cX8_init 21 = .ok (.bipush 56, 2) := de_10 tX8_init_21 (by decide +kernel)
def tX8_init_23 := Bt_2 (q := 23) tX8_init_21 rfl
theorem dX8_init_23 : decode cX8_init 23 = .ok (.newarray .int, 2) := de_bc_0a tX8_init_23
def tX8_init_25 := Bt_2 (q := 25) tX8_init_23 rfl
theorem dX8_init_25 : decode cX8_init 25 = .ok (.putfield 20, 3) := de_b5 tX8_init_25 (by decide +kernel)
def tX8_init_28 := Bt_3 (q := 28) tX8_init_25 rfl
theorem dX8_init_28 : decode cX8_init 28 = .ok (.aload_n 0, 1) := de_2a tX8_init_28
def tX8_init_29 := Bt_1 (q := 29) tX8_init_28 rfl
theorem dX8_init_29 : decode cX8_init 29 = .ok (.bipush 48, 2) := de_10 tX8_init_29 (by decide +kernel)
def tX8_init_31 := Bt_2 (q := 31) tX8_init_29 rfl
theorem dX8_init_31 : decode cX8_init 31 = .ok (.newarray .int, 2) := de_bc_0a tX8_init_31
def tX8_init_33 := Bt_2 (q := 33) tX8_init_31 rfl
theorem dX8_init_33 : decode cX8_init 33 = .ok (.putfield 23, 3) := de_b5 tX8_init_33 (by decide +kernel)
def tX8_init_36 := Bt_3 (q := 36) tX8_init_33 rfl
theorem dX8_init_36 : decode cX8_init 36 = .ok (.aload_n 0, 1) := de_2a tX8_init_36
def tX8_init_37 := Bt_1 (q := 37) tX8_init_36 rfl
theorem dX8_init_37 : decode cX8_init 37 = .ok (.bipush 48, 2) := de_10 tX8_init_37 (by decide +kernel)
def tX8_init_39 := Bt_2 (q := 39) tX8_init_37 rfl
theorem dX8_init_39 : decode cX8_init 39 = .ok (.newarray .int, 2) := de_bc_0a tX8_init_39
def tX8_init_41 := Bt_2 (q := 41) tX8_init_39 rfl
theorem dX8_init_41 : decode cX8_init 41 = .ok (.putfield 26, 3) := de_b5 tX8_init_41 (by decide +kernel)
def tX8_init_44 := Bt_3 (q := 44) tX8_init_41 rfl
theorem dX8_init_44 : decode cX8_init 44 = .ok (.aload_n 0, 1) := de_2a tX8_init_44
def tX8_init_45 := Bt_1 (q := 45) tX8_init_44 rfl
theorem dX8_init_45 : decode cX8_init 45 = .ok (.bipush 64, 2) := de_10 tX8_init_45 (by decide +kernel)
def tX8_init_47 := Bt_2 (q := 47) tX8_init_45 rfl
theorem dX8_init_47 : decode cX8_init 47 = .ok (.newarray .long, 2) := de_bc_0b tX8_init_47
def tX8_init_49 := Bt_2 (q := 49) tX8_init_47 rfl
theorem dX8_init_49 : decode cX8_init 49 = .ok (.putfield 29, 3) := de_b5 tX8_init_49 (by decide +kernel)
def tX8_init_52 := Bt_3 (q := 52) tX8_init_49 rfl
theorem dX8_init_52 : decode cX8_init 52 = .ok (.aload_n 0, 1) := de_2a tX8_init_52
def tX8_init_53 := Bt_1 (q := 53) tX8_init_52 rfl
theorem dX8_init_53 : decode cX8_init 53 = .ok (.bipush 64, 2) := de_10 tX8_init_53 (by decide +kernel)
def tX8_init_55 := Bt_2 (q := 55) tX8_init_53 rfl
theorem dX8_init_55 : decode cX8_init 55 = .ok (.newarray .long, 2) := de_bc_0b tX8_init_55
def tX8_init_57 := Bt_2 (q := 57) tX8_init_55 rfl
theorem dX8_init_57 : decode cX8_init 57 = .ok (.putfield 33, 3) := de_b5 tX8_init_57 (by decide +kernel)
def tX8_init_60 := Bt_3 (q := 60) tX8_init_57 rfl
theorem dX8_init_60 : decode cX8_init 60 = .ok (.aload_n 0, 1) := de_2a tX8_init_60
def tX8_init_61 := Bt_1 (q := 61) tX8_init_60 rfl
theorem dX8_init_61 : decode cX8_init 61 = .ok (.getfield 11, 3) := de_b4 tX8_init_61 (by decide +kernel)
def tX8_init_64 := Bt_3 (q := 64) tX8_init_61 rfl
theorem dX8_init_64 : decode cX8_init 64 = .ok (.bipush 6, 2) := de_10 tX8_init_64 (by decide +kernel)
def tX8_init_66 := Bt_2 (q := 66) tX8_init_64 rfl
theorem dX8_init_66 : decode cX8_init 66 = .ok (.invokestatic 36, 3) := de_b8 tX8_init_66 (by decide +kernel)
def tX8_init_69 := Bt_3 (q := 69) tX8_init_66 rfl
theorem dX8_init_69 : decode cX8_init 69 = .ok (.return_, 1) := de_b1 tX8_init_69
def tX8_putRebate_0 := Bt_0 cX8_putRebate
theorem dX8_putRebate_0 : decode cX8_putRebate 0 = .ok (.iload_n 1, 1) := de_1b tX8_putRebate_0
def tX8_putRebate_1 := Bt_1 (q := 1) tX8_putRebate_0 rfl
theorem dX8_putRebate_1 : decode cX8_putRebate 1 = .ok (.bipush 7, 2) := de_10 tX8_putRebate_1 (by decide +kernel)
def tX8_putRebate_3 := Bt_2 (q := 3) tX8_putRebate_1 rfl
theorem dX8_putRebate_3 : decode cX8_putRebate 3 = .ok (.imul, 1) := de_68 tX8_putRebate_3
def tX8_putRebate_4 := Bt_1 (q := 4) tX8_putRebate_3 rfl
theorem dX8_putRebate_4 : decode cX8_putRebate 4 = .ok (.iload_n 2, 1) := de_1c tX8_putRebate_4
def tX8_putRebate_5 := Bt_1 (q := 5) tX8_putRebate_4 rfl
theorem dX8_putRebate_5 : decode cX8_putRebate 5 = .ok (.iadd, 1) := de_60 tX8_putRebate_5
def tX8_putRebate_6 := Bt_1 (q := 6) tX8_putRebate_5 rfl
theorem dX8_putRebate_6 : decode cX8_putRebate 6 = .ok (.istore 4, 2) := de_36 tX8_putRebate_6 (by decide +kernel)
def tX8_putRebate_8 := Bt_2 (q := 8) tX8_putRebate_6 rfl
theorem dX8_putRebate_8 : decode cX8_putRebate 8 = .ok (.aload_n 0, 1) := de_2a tX8_putRebate_8
def tX8_putRebate_9 := Bt_1 (q := 9) tX8_putRebate_8 rfl
theorem dX8_putRebate_9 : decode cX8_putRebate 9 = .ok (.getfield 20, 3) := de_b4 tX8_putRebate_9 (by decide +kernel)
def tX8_putRebate_12 := Bt_3 (q := 12) tX8_putRebate_9 rfl
theorem dX8_putRebate_12 : decode cX8_putRebate 12 = .ok (.iload 4, 2) := de_15 tX8_putRebate_12 (by decide +kernel)
def tX8_putRebate_14 := Bt_2 (q := 14) tX8_putRebate_12 rfl
theorem dX8_putRebate_14 : decode cX8_putRebate 14 = .ok (.iaload, 1) := de_2e tX8_putRebate_14
def tX8_putRebate_15 := Bt_1 (q := 15) tX8_putRebate_14 rfl
theorem dX8_putRebate_15 : decode cX8_putRebate 15 = .ok (.istore 5, 2) := de_36 tX8_putRebate_15 (by decide +kernel)
def tX8_putRebate_17 := Bt_2 (q := 17) tX8_putRebate_15 rfl
theorem dX8_putRebate_17 : decode cX8_putRebate 17 = .ok (.aload_n 0, 1) := de_2a tX8_putRebate_17
def tX8_putRebate_18 := Bt_1 (q := 18) tX8_putRebate_17 rfl
theorem dX8_putRebate_18 : decode cX8_putRebate 18 = .ok (.getfield 20, 3) := de_b4 tX8_putRebate_18 (by decide +kernel)
def tX8_putRebate_21 := Bt_3 (q := 21) tX8_putRebate_18 rfl
theorem dX8_putRebate_21 : decode cX8_putRebate 21 = .ok (.iload 4, 2) := de_15 tX8_putRebate_21 (by decide +kernel)
def tX8_putRebate_23 := Bt_2 (q := 23) tX8_putRebate_21 rfl
theorem dX8_putRebate_23 : decode cX8_putRebate 23 = .ok (.iload_n 3, 1) := de_1d tX8_putRebate_23
def tX8_putRebate_24 := Bt_1 (q := 24) tX8_putRebate_23 rfl
theorem dX8_putRebate_24 : decode cX8_putRebate 24 = .ok (.iastore, 1) := de_4f tX8_putRebate_24
def tX8_putRebate_25 := Bt_1 (q := 25) tX8_putRebate_24 rfl
theorem dX8_putRebate_25 : decode cX8_putRebate 25 = .ok (.iload 5, 2) := de_15 tX8_putRebate_25 (by decide +kernel)
def tX8_putRebate_27 := Bt_2 (q := 27) tX8_putRebate_25 rfl
theorem dX8_putRebate_27 : decode cX8_putRebate 27 = .ok (.ireturn, 1) := de_ac tX8_putRebate_27
def tX8_clear_0 := Bt_0 cX8_clear
theorem dX8_clear_0 : decode cX8_clear 0 = .ok (.aload_n 0, 1) := de_2a tX8_clear_0
def tX8_clear_1 := Bt_1 (q := 1) tX8_clear_0 rfl
theorem dX8_clear_1 : decode cX8_clear 1 = .ok (.getfield 23, 3) := de_b4 tX8_clear_1 (by decide +kernel)
def tX8_clear_4 := Bt_3 (q := 4) tX8_clear_1 rfl
theorem dX8_clear_4 : decode cX8_clear 4 = .ok (.iconst (-1), 1) := de_02 tX8_clear_4
def tX8_clear_5 := Bt_1 (q := 5) tX8_clear_4 rfl
theorem dX8_clear_5 : decode cX8_clear 5 = .ok (.invokestatic 36, 3) := de_b8 tX8_clear_5 (by decide +kernel)
def tX8_clear_8 := Bt_3 (q := 8) tX8_clear_5 rfl
theorem dX8_clear_8 : decode cX8_clear 8 = .ok (.return_, 1) := de_b1 tX8_clear_8
def tX8_offer_0 := Bt_0 cX8_offer
theorem dX8_offer_0 : decode cX8_offer 0 = .ok (.aload_n 0, 1) := de_2a tX8_offer_0
def tX8_offer_1 := Bt_1 (q := 1) tX8_offer_0 rfl
theorem dX8_offer_1 : decode cX8_offer 1 = .ok (.getfield 23, 3) := de_b4 tX8_offer_1 (by decide +kernel)
def tX8_offer_4 := Bt_3 (q := 4) tX8_offer_1 rfl
theorem dX8_offer_4 : decode cX8_offer 4 = .ok (.iload_n 2, 1) := de_1c tX8_offer_4
def tX8_offer_5 := Bt_1 (q := 5) tX8_offer_4 rfl
theorem dX8_offer_5 : decode cX8_offer 5 = .ok (.iload_n 1, 1) := de_1b tX8_offer_5
def tX8_offer_6 := Bt_1 (q := 6) tX8_offer_5 rfl
theorem dX8_offer_6 : decode cX8_offer 6 = .ok (.invokestatic 42, 3) := de_b8 tX8_offer_6 (by decide +kernel)
def tX8_offer_9 := Bt_3 (q := 9) tX8_offer_6 rfl
theorem dX8_offer_9 : decode cX8_offer 9 = .ok (.iload_n 3, 1) := de_1d tX8_offer_9
def tX8_offer_10 := Bt_1 (q := 10) tX8_offer_9 rfl
theorem dX8_offer_10 : decode cX8_offer 10 = .ok (.iastore, 1) := de_4f tX8_offer_10
def tX8_offer_11 := Bt_1 (q := 11) tX8_offer_10 rfl
theorem dX8_offer_11 : decode cX8_offer 11 = .ok (.aload_n 0, 1) := de_2a tX8_offer_11
def tX8_offer_12 := Bt_1 (q := 12) tX8_offer_11 rfl
theorem dX8_offer_12 : decode cX8_offer 12 = .ok (.getfield 26, 3) := de_b4 tX8_offer_12 (by decide +kernel)
def tX8_offer_15 := Bt_3 (q := 15) tX8_offer_12 rfl
theorem dX8_offer_15 : decode cX8_offer 15 = .ok (.iload_n 2, 1) := de_1c tX8_offer_15
def tX8_offer_16 := Bt_1 (q := 16) tX8_offer_15 rfl
theorem dX8_offer_16 : decode cX8_offer 16 = .ok (.iload_n 1, 1) := de_1b tX8_offer_16
def tX8_offer_17 := Bt_1 (q := 17) tX8_offer_16 rfl
theorem dX8_offer_17 : decode cX8_offer 17 = .ok (.invokestatic 42, 3) := de_b8 tX8_offer_17 (by decide +kernel)
def tX8_offer_20 := Bt_3 (q := 20) tX8_offer_17 rfl
theorem dX8_offer_20 : decode cX8_offer 20 = .ok (.iload 4, 2) := de_15 tX8_offer_20 (by decide +kernel)
def tX8_offer_22 := Bt_2 (q := 22) tX8_offer_20 rfl
theorem dX8_offer_22 : decode cX8_offer 22 = .ok (.iastore, 1) := de_4f tX8_offer_22
def tX8_offer_23 := Bt_1 (q := 23) tX8_offer_22 rfl
theorem dX8_offer_23 : decode cX8_offer 23 = .ok (.return_, 1) := de_b1 tX8_offer_23
def tX8_search_0 := Bt_0 cX8_search
theorem dX8_search_0 : decode cX8_search 0 = .ok (.aload_n 0, 1) := de_2a tX8_search_0
def tX8_search_1 := Bt_1 (q := 1) tX8_search_0 rfl
theorem dX8_search_1 : decode cX8_search 1 = .ok (.getfield 29, 3) := de_b4 tX8_search_1 (by decide +kernel)
def tX8_search_4 := Bt_3 (q := 4) tX8_search_1 rfl
theorem dX8_search_4 : decode cX8_search 4 = .ok (.ldc2_w 46, 3) := de_14 tX8_search_4 (by decide +kernel)
def tX8_search_7 := Bt_3 (q := 7) tX8_search_4 rfl
theorem dX8_search_7 : decode cX8_search 7 = .ok (.invokestatic 48, 3) := de_b8 tX8_search_7 (by decide +kernel)
def tX8_search_10 := Bt_3 (q := 10) tX8_search_7 rfl
theorem dX8_search_10 : decode cX8_search 10 = .ok (.aload_n 0, 1) := de_2a tX8_search_10
def tX8_search_11 := Bt_1 (q := 11) tX8_search_10 rfl
theorem dX8_search_11 : decode cX8_search 11 = .ok (.getfield 29, 3) := de_b4 tX8_search_11 (by decide +kernel)
def tX8_search_14 := Bt_3 (q := 14) tX8_search_11 rfl
theorem dX8_search_14 : decode cX8_search 14 = .ok (.iconst 0, 1) := de_03 tX8_search_14
def tX8_search_15 := Bt_1 (q := 15) tX8_search_14 rfl
theorem dX8_search_15 : decode cX8_search 15 = .ok (.lconst 0, 1) := de_09 tX8_search_15
def tX8_search_16 := Bt_1 (q := 16) tX8_search_15 rfl
theorem dX8_search_16 : decode cX8_search 16 = .ok (.lastore, 1) := de_50 tX8_search_16
def tX8_search_17 := Bt_1 (q := 17) tX8_search_16 rfl
theorem dX8_search_17 : decode cX8_search 17 = .ok (.iconst 0, 1) := de_03 tX8_search_17
def tX8_search_18 := Bt_1 (q := 18) tX8_search_17 rfl
theorem dX8_search_18 : decode cX8_search 18 = .ok (.istore_n 2, 1) := de_3d tX8_search_18
def tX8_search_19 := Bt_1 (q := 19) tX8_search_18 rfl
theorem dX8_search_19 : decode cX8_search 19 = .ok (.iload_n 2, 1) := de_1c tX8_search_19
def tX8_search_20 := Bt_1 (q := 20) tX8_search_19 rfl
theorem dX8_search_20 : decode cX8_search 20 = .ok (.bipush 8, 2) := de_10 tX8_search_20 (by decide +kernel)
def tX8_search_22 := Bt_2 (q := 22) tX8_search_20 rfl
theorem dX8_search_22 : decode cX8_search 22 = .ok (.if_icmp .ge 39, 3) := de_a2 tX8_search_22 (by decide +kernel)
def tX8_search_25 := Bt_3 (q := 25) tX8_search_22 rfl
theorem dX8_search_25 : decode cX8_search 25 = .ok (.iconst 1, 1) := de_04 tX8_search_25
def tX8_search_26 := Bt_1 (q := 26) tX8_search_25 rfl
theorem dX8_search_26 : decode cX8_search 26 = .ok (.istore_n 3, 1) := de_3e tX8_search_26
def tX8_search_27 := Bt_1 (q := 27) tX8_search_26 rfl
theorem dX8_search_27 : decode cX8_search 27 = .ok (.iload_n 3, 1) := de_1d tX8_search_27
def tX8_search_28 := Bt_1 (q := 28) tX8_search_27 rfl
theorem dX8_search_28 : decode cX8_search 28 = .ok (.bipush 64, 2) := de_10 tX8_search_28 (by decide +kernel)
def tX8_search_30 := Bt_2 (q := 30) tX8_search_28 rfl
theorem dX8_search_30 : decode cX8_search 30 = .ok (.if_icmp .ge 21, 3) := de_a2 tX8_search_30 (by decide +kernel)
def tX8_search_33 := Bt_3 (q := 33) tX8_search_30 rfl
theorem dX8_search_33 : decode cX8_search 33 = .ok (.aload_n 0, 1) := de_2a tX8_search_33
def tX8_search_34 := Bt_1 (q := 34) tX8_search_33 rfl
theorem dX8_search_34 : decode cX8_search 34 = .ok (.getfield 33, 3) := de_b4 tX8_search_34 (by decide +kernel)
def tX8_search_37 := Bt_3 (q := 37) tX8_search_34 rfl
theorem dX8_search_37 : decode cX8_search 37 = .ok (.iload_n 3, 1) := de_1d tX8_search_37
def tX8_search_38 := Bt_1 (q := 38) tX8_search_37 rfl
theorem dX8_search_38 : decode cX8_search 38 = .ok (.aload_n 0, 1) := de_2a tX8_search_38
def tX8_search_39 := Bt_1 (q := 39) tX8_search_38 rfl
theorem dX8_search_39 : decode cX8_search 39 = .ok (.iload_n 2, 1) := de_1c tX8_search_39
def tX8_search_40 := Bt_1 (q := 40) tX8_search_39 rfl
theorem dX8_search_40 : decode cX8_search 40 = .ok (.iload_n 3, 1) := de_1d tX8_search_40
def tX8_search_41 := Bt_1 (q := 41) tX8_search_40 rfl
theorem dX8_search_41 : decode cX8_search 41 = .ok (.invokevirtual 51, 3) := de_b6 tX8_search_41 (by decide +kernel)
def tX8_search_44 := Bt_3 (q := 44) tX8_search_41 rfl
theorem dX8_search_44 : decode cX8_search 44 = .ok (.lastore, 1) := de_50 tX8_search_44
def tX8_search_45 := Bt_1 (q := 45) tX8_search_44 rfl
theorem dX8_search_45 : decode cX8_search 45 = .ok (.iinc 3 1, 3) := de_84 tX8_search_45 (by decide +kernel) (by decide +kernel)
def tX8_search_48 := Bt_3 (q := 48) tX8_search_45 rfl
theorem dX8_search_48 : decode cX8_search 48 = .ok (.goto (-21), 3) := de_a7 tX8_search_48 (by decide +kernel)
def tX8_search_51 := Bt_3 (q := 51) tX8_search_48 rfl
theorem dX8_search_51 : decode cX8_search 51 = .ok (.aload_n 0, 1) := de_2a tX8_search_51
def tX8_search_52 := Bt_1 (q := 52) tX8_search_51 rfl
theorem dX8_search_52 : decode cX8_search 52 = .ok (.invokevirtual 55, 3) := de_b6 tX8_search_52 (by decide +kernel)
def tX8_search_55 := Bt_3 (q := 55) tX8_search_52 rfl
theorem dX8_search_55 : decode cX8_search 55 = .ok (.iinc 2 1, 3) := de_84 tX8_search_55 (by decide +kernel) (by decide +kernel)
def tX8_search_58 := Bt_3 (q := 58) tX8_search_55 rfl
theorem dX8_search_58 : decode cX8_search 58 = .ok (.goto (-39), 3) := de_a7 tX8_search_58 (by decide +kernel)
def tX8_search_61 := Bt_3 (q := 61) tX8_search_58 rfl
theorem dX8_search_61 : decode cX8_search 61 = .ok (.ldc2_w 46, 3) := de_14 tX8_search_61 (by decide +kernel)
def tX8_search_64 := Bt_3 (q := 64) tX8_search_61 rfl
theorem dX8_search_64 : decode cX8_search 64 = .ok (.lstore_n 2, 1) := de_41 tX8_search_64
def tX8_search_65 := Bt_1 (q := 65) tX8_search_64 rfl
theorem dX8_search_65 : decode cX8_search 65 = .ok (.iconst 0, 1) := de_03 tX8_search_65
def tX8_search_66 := Bt_1 (q := 66) tX8_search_65 rfl
theorem dX8_search_66 : decode cX8_search 66 = .ok (.istore 4, 2) := de_36 tX8_search_66 (by decide +kernel)
def tX8_search_68 := Bt_2 (q := 68) tX8_search_66 rfl
theorem dX8_search_68 : decode cX8_search 68 = .ok (.iload 4, 2) := de_15 tX8_search_68 (by decide +kernel)
def tX8_search_70 := Bt_2 (q := 70) tX8_search_68 rfl
theorem dX8_search_70 : decode cX8_search 70 = .ok (.bipush 64, 2) := de_10 tX8_search_70 (by decide +kernel)
def tX8_search_72 := Bt_2 (q := 72) tX8_search_70 rfl
theorem dX8_search_72 : decode cX8_search 72 = .ok (.if_icmp .ge 42, 3) := de_a2 tX8_search_72 (by decide +kernel)
def tX8_search_75 := Bt_3 (q := 75) tX8_search_72 rfl
theorem dX8_search_75 : decode cX8_search 75 = .ok (.aload_n 0, 1) := de_2a tX8_search_75
def tX8_search_76 := Bt_1 (q := 76) tX8_search_75 rfl
theorem dX8_search_76 : decode cX8_search 76 = .ok (.getfield 29, 3) := de_b4 tX8_search_76 (by decide +kernel)
def tX8_search_79 := Bt_3 (q := 79) tX8_search_76 rfl
theorem dX8_search_79 : decode cX8_search 79 = .ok (.iload 4, 2) := de_15 tX8_search_79 (by decide +kernel)
def tX8_search_81 := Bt_2 (q := 81) tX8_search_79 rfl
theorem dX8_search_81 : decode cX8_search 81 = .ok (.laload, 1) := de_2f tX8_search_81
def tX8_search_82 := Bt_1 (q := 82) tX8_search_81 rfl
theorem dX8_search_82 : decode cX8_search 82 = .ok (.ldc2_w 46, 3) := de_14 tX8_search_82 (by decide +kernel)
def tX8_search_85 := Bt_3 (q := 85) tX8_search_82 rfl
theorem dX8_search_85 : decode cX8_search 85 = .ok (.lcmp, 1) := de_94 tX8_search_85
def tX8_search_86 := Bt_1 (q := 86) tX8_search_85 rfl
theorem dX8_search_86 : decode cX8_search 86 = .ok (.ifCond .eq 22, 3) := de_99 tX8_search_86 (by decide +kernel)
def tX8_search_89 := Bt_3 (q := 89) tX8_search_86 rfl
theorem dX8_search_89 : decode cX8_search 89 = .ok (.lload_n 2, 1) := de_20 tX8_search_89
def tX8_search_90 := Bt_1 (q := 90) tX8_search_89 rfl
theorem dX8_search_90 : decode cX8_search 90 = .ok (.aload_n 0, 1) := de_2a tX8_search_90
def tX8_search_91 := Bt_1 (q := 91) tX8_search_90 rfl
theorem dX8_search_91 : decode cX8_search 91 = .ok (.getfield 29, 3) := de_b4 tX8_search_91 (by decide +kernel)
def tX8_search_94 := Bt_3 (q := 94) tX8_search_91 rfl
theorem dX8_search_94 : decode cX8_search 94 = .ok (.iload 4, 2) := de_15 tX8_search_94 (by decide +kernel)
def tX8_search_96 := Bt_2 (q := 96) tX8_search_94 rfl
theorem dX8_search_96 : decode cX8_search 96 = .ok (.laload, 1) := de_2f tX8_search_96
def tX8_search_97 := Bt_1 (q := 97) tX8_search_96 rfl
theorem dX8_search_97 : decode cX8_search 97 = .ok (.iload 4, 2) := de_15 tX8_search_97 (by decide +kernel)
def tX8_search_99 := Bt_2 (q := 99) tX8_search_97 rfl
theorem dX8_search_99 : decode cX8_search 99 = .ok (.iload_n 1, 1) := de_1b tX8_search_99
def tX8_search_100 := Bt_1 (q := 100) tX8_search_99 rfl
theorem dX8_search_100 : decode cX8_search 100 = .ok (.invokestatic 58, 3) := de_b8 tX8_search_100 (by decide +kernel)
def tX8_search_103 := Bt_3 (q := 103) tX8_search_100 rfl
theorem dX8_search_103 : decode cX8_search 103 = .ok (.ladd, 1) := de_61 tX8_search_103
def tX8_search_104 := Bt_1 (q := 104) tX8_search_103 rfl
theorem dX8_search_104 : decode cX8_search 104 = .ok (.invokestatic 61, 3) := de_b8 tX8_search_104 (by decide +kernel)
def tX8_search_107 := Bt_3 (q := 107) tX8_search_104 rfl
theorem dX8_search_107 : decode cX8_search 107 = .ok (.lstore_n 2, 1) := de_41 tX8_search_107
def tX8_search_108 := Bt_1 (q := 108) tX8_search_107 rfl
theorem dX8_search_108 : decode cX8_search 108 = .ok (.iinc 4 1, 3) := de_84 tX8_search_108 (by decide +kernel) (by decide +kernel)
def tX8_search_111 := Bt_3 (q := 111) tX8_search_108 rfl
theorem dX8_search_111 : decode cX8_search 111 = .ok (.goto (-43), 3) := de_a7 tX8_search_111 (by decide +kernel)
def tX8_search_114 := Bt_3 (q := 114) tX8_search_111 rfl
theorem dX8_search_114 : decode cX8_search 114 = .ok (.aload_n 0, 1) := de_2a tX8_search_114
def tX8_search_115 := Bt_1 (q := 115) tX8_search_114 rfl
theorem dX8_search_115 : decode cX8_search 115 = .ok (.lload_n 2, 1) := de_20 tX8_search_115
def tX8_search_116 := Bt_1 (q := 116) tX8_search_115 rfl
theorem dX8_search_116 : decode cX8_search 116 = .ok (.iload_n 1, 1) := de_1b tX8_search_116
def tX8_search_117 := Bt_1 (q := 117) tX8_search_116 rfl
theorem dX8_search_117 : decode cX8_search 117 = .ok (.invokevirtual 67, 3) := de_b6 tX8_search_117 (by decide +kernel)
def tX8_search_120 := Bt_3 (q := 120) tX8_search_117 rfl
theorem dX8_search_120 : decode cX8_search 120 = .ok (.return_, 1) := de_b1 tX8_search_120
def tX8_costOf_0 := Bt_0 cX8_costOf
theorem dX8_costOf_0 : decode cX8_costOf 0 = .ok (.iload_n 2, 1) := de_1c tX8_costOf_0
def tX8_costOf_1 := Bt_1 (q := 1) tX8_costOf_0 rfl
theorem dX8_costOf_1 : decode cX8_costOf 1 = .ok (.invokestatic 71, 3) := de_b8 tX8_costOf_1 (by decide +kernel)
def tX8_costOf_4 := Bt_3 (q := 4) tX8_costOf_1 rfl
theorem dX8_costOf_4 : decode cX8_costOf 4 = .ok (.istore_n 3, 1) := de_3e tX8_costOf_4
def tX8_costOf_5 := Bt_1 (q := 5) tX8_costOf_4 rfl
theorem dX8_costOf_5 : decode cX8_costOf 5 = .ok (.iload_n 3, 1) := de_1d tX8_costOf_5
def tX8_costOf_6 := Bt_1 (q := 6) tX8_costOf_5 rfl
theorem dX8_costOf_6 : decode cX8_costOf 6 = .ok (.aload_n 0, 1) := de_2a tX8_costOf_6
def tX8_costOf_7 := Bt_1 (q := 7) tX8_costOf_6 rfl
theorem dX8_costOf_7 : decode cX8_costOf 7 = .ok (.getfield 11, 3) := de_b4 tX8_costOf_7 (by decide +kernel)
def tX8_costOf_10 := Bt_3 (q := 10) tX8_costOf_7 rfl
theorem dX8_costOf_10 : decode cX8_costOf 10 = .ok (.iload_n 1, 1) := de_1b tX8_costOf_10
def tX8_costOf_11 := Bt_1 (q := 11) tX8_costOf_10 rfl
theorem dX8_costOf_11 : decode cX8_costOf 11 = .ok (.iaload, 1) := de_2e tX8_costOf_11
def tX8_costOf_12 := Bt_1 (q := 12) tX8_costOf_11 rfl
theorem dX8_costOf_12 : decode cX8_costOf 12 = .ok (.if_icmp .le 7, 3) := de_a4 tX8_costOf_12 (by decide +kernel)
def tX8_costOf_15 := Bt_3 (q := 15) tX8_costOf_12 rfl
theorem dX8_costOf_15 : decode cX8_costOf 15 = .ok (.ldc2_w 46, 3) := de_14 tX8_costOf_15 (by decide +kernel)
def tX8_costOf_18 := Bt_3 (q := 18) tX8_costOf_15 rfl
theorem dX8_costOf_18 : decode cX8_costOf 18 = .ok (.lreturn, 1) := de_ad tX8_costOf_18
def tX8_costOf_19 := Bt_1 (q := 19) tX8_costOf_18 rfl
theorem dX8_costOf_19 : decode cX8_costOf 19 = .ok (.lconst 0, 1) := de_09 tX8_costOf_19
def tX8_costOf_20 := Bt_1 (q := 20) tX8_costOf_19 rfl
theorem dX8_costOf_20 : decode cX8_costOf 20 = .ok (.lstore 4, 2) := de_37 tX8_costOf_20 (by decide +kernel)
def tX8_costOf_22 := Bt_2 (q := 22) tX8_costOf_20 rfl
theorem dX8_costOf_22 : decode cX8_costOf 22 = .ok (.lconst 0, 1) := de_09 tX8_costOf_22
def tX8_costOf_23 := Bt_1 (q := 23) tX8_costOf_22 rfl
theorem dX8_costOf_23 : decode cX8_costOf 23 = .ok (.lstore 6, 2) := de_37 tX8_costOf_23 (by decide +kernel)
def tX8_costOf_25 := Bt_2 (q := 25) tX8_costOf_23 rfl
theorem dX8_costOf_25 : decode cX8_costOf 25 = .ok (.iconst 0, 1) := de_03 tX8_costOf_25
def tX8_costOf_26 := Bt_1 (q := 26) tX8_costOf_25 rfl
theorem dX8_costOf_26 : decode cX8_costOf 26 = .ok (.istore 8, 2) := de_36 tX8_costOf_26 (by decide +kernel)
def tX8_costOf_28 := Bt_2 (q := 28) tX8_costOf_26 rfl
theorem dX8_costOf_28 : decode cX8_costOf 28 = .ok (.iload 8, 2) := de_15 tX8_costOf_28 (by decide +kernel)
def tX8_costOf_30 := Bt_2 (q := 30) tX8_costOf_28 rfl
theorem dX8_costOf_30 : decode cX8_costOf 30 = .ok (.bipush 6, 2) := de_10 tX8_costOf_30 (by decide +kernel)
def tX8_costOf_32 := Bt_2 (q := 32) tX8_costOf_30 rfl
theorem dX8_costOf_32 : decode cX8_costOf 32 = .ok (.if_icmp .ge 81, 3) := de_a2 tX8_costOf_32 (by decide +kernel)
def tX8_costOf_35 := Bt_3 (q := 35) tX8_costOf_32 rfl
theorem dX8_costOf_35 : decode cX8_costOf 35 = .ok (.iload_n 2, 1) := de_1c tX8_costOf_35
def tX8_costOf_36 := Bt_1 (q := 36) tX8_costOf_35 rfl
theorem dX8_costOf_36 : decode cX8_costOf 36 = .ok (.iload 8, 2) := de_15 tX8_costOf_36 (by decide +kernel)
def tX8_costOf_38 := Bt_2 (q := 38) tX8_costOf_36 rfl
theorem dX8_costOf_38 : decode cX8_costOf 38 = .ok (.ishr, 1) := de_7a tX8_costOf_38
def tX8_costOf_39 := Bt_1 (q := 39) tX8_costOf_38 rfl
theorem dX8_costOf_39 : decode cX8_costOf 39 = .ok (.iconst 1, 1) := de_04 tX8_costOf_39
def tX8_costOf_40 := Bt_1 (q := 40) tX8_costOf_39 rfl
theorem dX8_costOf_40 : decode cX8_costOf 40 = .ok (.iand, 1) := de_7e tX8_costOf_40
def tX8_costOf_41 := Bt_1 (q := 41) tX8_costOf_40 rfl
theorem dX8_costOf_41 : decode cX8_costOf 41 = .ok (.iconst 1, 1) := de_04 tX8_costOf_41
def tX8_costOf_42 := Bt_1 (q := 42) tX8_costOf_41 rfl
theorem dX8_costOf_42 : decode cX8_costOf 42 = .ok (.if_icmp .ne 65, 3) := de_a0 tX8_costOf_42 (by decide +kernel)
def tX8_costOf_45 := Bt_3 (q := 45) tX8_costOf_42 rfl
theorem dX8_costOf_45 : decode cX8_costOf 45 = .ok (.iload_n 1, 1) := de_1b tX8_costOf_45
def tX8_costOf_46 := Bt_1 (q := 46) tX8_costOf_45 rfl
theorem dX8_costOf_46 : decode cX8_costOf 46 = .ok (.iload 8, 2) := de_15 tX8_costOf_46 (by decide +kernel)
def tX8_costOf_48 := Bt_2 (q := 48) tX8_costOf_46 rfl
theorem dX8_costOf_48 : decode cX8_costOf 48 = .ok (.invokestatic 42, 3) := de_b8 tX8_costOf_48 (by decide +kernel)
def tX8_costOf_51 := Bt_3 (q := 51) tX8_costOf_48 rfl
theorem dX8_costOf_51 : decode cX8_costOf 51 = .ok (.istore 9, 2) := de_36 tX8_costOf_51 (by decide +kernel)
def tX8_costOf_53 := Bt_2 (q := 53) tX8_costOf_51 rfl
theorem dX8_costOf_53 : decode cX8_costOf 53 = .ok (.aload_n 0, 1) := de_2a tX8_costOf_53
def tX8_costOf_54 := Bt_1 (q := 54) tX8_costOf_53 rfl
theorem dX8_costOf_54 : decode cX8_costOf 54 = .ok (.getfield 23, 3) := de_b4 tX8_costOf_54 (by decide +kernel)
def tX8_costOf_57 := Bt_3 (q := 57) tX8_costOf_54 rfl
theorem dX8_costOf_57 : decode cX8_costOf 57 = .ok (.iload 9, 2) := de_15 tX8_costOf_57 (by decide +kernel)
def tX8_costOf_59 := Bt_2 (q := 59) tX8_costOf_57 rfl
theorem dX8_costOf_59 : decode cX8_costOf 59 = .ok (.iaload, 1) := de_2e tX8_costOf_59
def tX8_costOf_60 := Bt_1 (q := 60) tX8_costOf_59 rfl
theorem dX8_costOf_60 : decode cX8_costOf 60 = .ok (.iconst (-1), 1) := de_02 tX8_costOf_60
def tX8_costOf_61 := Bt_1 (q := 61) tX8_costOf_60 rfl
theorem dX8_costOf_61 : decode cX8_costOf 61 = .ok (.if_icmp .ne 7, 3) := de_a0 tX8_costOf_61 (by decide +kernel)
def tX8_costOf_64 := Bt_3 (q := 64) tX8_costOf_61 rfl
theorem dX8_costOf_64 : decode cX8_costOf 64 = .ok (.ldc2_w 46, 3) := de_14 tX8_costOf_64 (by decide +kernel)
def tX8_costOf_67 := Bt_3 (q := 67) tX8_costOf_64 rfl
theorem dX8_costOf_67 : decode cX8_costOf 67 = .ok (.lreturn, 1) := de_ad tX8_costOf_67
def tX8_costOf_68 := Bt_1 (q := 68) tX8_costOf_67 rfl
theorem dX8_costOf_68 : decode cX8_costOf 68 = .ok (.lload 4, 2) := de_16 tX8_costOf_68 (by decide +kernel)
def tX8_costOf_70 := Bt_2 (q := 70) tX8_costOf_68 rfl
theorem dX8_costOf_70 : decode cX8_costOf 70 = .ok (.aload_n 0, 1) := de_2a tX8_costOf_70
def tX8_costOf_71 := Bt_1 (q := 71) tX8_costOf_70 rfl
theorem dX8_costOf_71 : decode cX8_costOf 71 = .ok (.getfield 26, 3) := de_b4 tX8_costOf_71 (by decide +kernel)
def tX8_costOf_74 := Bt_3 (q := 74) tX8_costOf_71 rfl
theorem dX8_costOf_74 : decode cX8_costOf 74 = .ok (.iload 9, 2) := de_15 tX8_costOf_74 (by decide +kernel)
def tX8_costOf_76 := Bt_2 (q := 76) tX8_costOf_74 rfl
theorem dX8_costOf_76 : decode cX8_costOf 76 = .ok (.iaload, 1) := de_2e tX8_costOf_76
def tX8_costOf_77 := Bt_1 (q := 77) tX8_costOf_76 rfl
theorem dX8_costOf_77 : decode cX8_costOf 77 = .ok (.i2l, 1) := de_85 tX8_costOf_77
def tX8_costOf_78 := Bt_1 (q := 78) tX8_costOf_77 rfl
theorem dX8_costOf_78 : decode cX8_costOf 78 = .ok (.ladd, 1) := de_61 tX8_costOf_78
def tX8_costOf_79 := Bt_1 (q := 79) tX8_costOf_78 rfl
theorem dX8_costOf_79 : decode cX8_costOf 79 = .ok (.lstore 4, 2) := de_37 tX8_costOf_79 (by decide +kernel)
def tX8_costOf_81 := Bt_2 (q := 81) tX8_costOf_79 rfl
theorem dX8_costOf_81 : decode cX8_costOf 81 = .ok (.lload 6, 2) := de_16 tX8_costOf_81 (by decide +kernel)
def tX8_costOf_83 := Bt_2 (q := 83) tX8_costOf_81 rfl
theorem dX8_costOf_83 : decode cX8_costOf 83 = .ok (.aload_n 0, 1) := de_2a tX8_costOf_83
def tX8_costOf_84 := Bt_1 (q := 84) tX8_costOf_83 rfl
theorem dX8_costOf_84 : decode cX8_costOf 84 = .ok (.getfield 23, 3) := de_b4 tX8_costOf_84 (by decide +kernel)
def tX8_costOf_87 := Bt_3 (q := 87) tX8_costOf_84 rfl
theorem dX8_costOf_87 : decode cX8_costOf 87 = .ok (.iload 9, 2) := de_15 tX8_costOf_87 (by decide +kernel)
def tX8_costOf_89 := Bt_2 (q := 89) tX8_costOf_87 rfl
theorem dX8_costOf_89 : decode cX8_costOf 89 = .ok (.iaload, 1) := de_2e tX8_costOf_89
def tX8_costOf_90 := Bt_1 (q := 90) tX8_costOf_89 rfl
theorem dX8_costOf_90 : decode cX8_costOf 90 = .ok (.i2l, 1) := de_85 tX8_costOf_90
def tX8_costOf_91 := Bt_1 (q := 91) tX8_costOf_90 rfl
theorem dX8_costOf_91 : decode cX8_costOf 91 = .ok (.bipush 20, 2) := de_10 tX8_costOf_91 (by decide +kernel)
def tX8_costOf_93 := Bt_2 (q := 93) tX8_costOf_91 rfl
theorem dX8_costOf_93 : decode cX8_costOf 93 = .ok (.lshl, 1) := de_79 tX8_costOf_93
def tX8_costOf_94 := Bt_1 (q := 94) tX8_costOf_93 rfl
theorem dX8_costOf_94 : decode cX8_costOf 94 = .ok (.iload_n 1, 1) := de_1b tX8_costOf_94
def tX8_costOf_95 := Bt_1 (q := 95) tX8_costOf_94 rfl
theorem dX8_costOf_95 : decode cX8_costOf 95 = .ok (.getstatic 77, 3) := de_b2 tX8_costOf_95 (by decide +kernel)
def tX8_costOf_98 := Bt_3 (q := 98) tX8_costOf_95 rfl
theorem dX8_costOf_98 : decode cX8_costOf 98 = .ok (.iload 8, 2) := de_15 tX8_costOf_98 (by decide +kernel)
def tX8_costOf_100 := Bt_2 (q := 100) tX8_costOf_98 rfl
theorem dX8_costOf_100 : decode cX8_costOf 100 = .ok (.iaload, 1) := de_2e tX8_costOf_100
def tX8_costOf_101 := Bt_1 (q := 101) tX8_costOf_100 rfl
theorem dX8_costOf_101 : decode cX8_costOf 101 = .ok (.imul, 1) := de_68 tX8_costOf_101
def tX8_costOf_102 := Bt_1 (q := 102) tX8_costOf_101 rfl
theorem dX8_costOf_102 : decode cX8_costOf 102 = .ok (.i2l, 1) := de_85 tX8_costOf_102
def tX8_costOf_103 := Bt_1 (q := 103) tX8_costOf_102 rfl
theorem dX8_costOf_103 : decode cX8_costOf 103 = .ok (.ladd, 1) := de_61 tX8_costOf_103
def tX8_costOf_104 := Bt_1 (q := 104) tX8_costOf_103 rfl
theorem dX8_costOf_104 : decode cX8_costOf 104 = .ok (.ladd, 1) := de_61 tX8_costOf_104
def tX8_costOf_105 := Bt_1 (q := 105) tX8_costOf_104 rfl
theorem dX8_costOf_105 : decode cX8_costOf 105 = .ok (.lstore 6, 2) := de_37 tX8_costOf_105 (by decide +kernel)
def tX8_costOf_107 := Bt_2 (q := 107) tX8_costOf_105 rfl
theorem dX8_costOf_107 : decode cX8_costOf 107 = .ok (.iinc 8 1, 3) := de_84 tX8_costOf_107 (by decide +kernel) (by decide +kernel)
def tX8_costOf_110 := Bt_3 (q := 110) tX8_costOf_107 rfl
theorem dX8_costOf_110 : decode cX8_costOf 110 = .ok (.goto (-82), 3) := de_a7 tX8_costOf_110 (by decide +kernel)
def tX8_costOf_113 := Bt_3 (q := 113) tX8_costOf_110 rfl
theorem dX8_costOf_113 : decode cX8_costOf 113 = .ok (.lload 4, 2) := de_16 tX8_costOf_113 (by decide +kernel)
def tX8_costOf_115 := Bt_2 (q := 115) tX8_costOf_113 rfl
theorem dX8_costOf_115 : decode cX8_costOf 115 = .ok (.bipush 100, 2) := de_10 tX8_costOf_115 (by decide +kernel)
def tX8_costOf_117 := Bt_2 (q := 117) tX8_costOf_115 rfl
theorem dX8_costOf_117 : decode cX8_costOf 117 = .ok (.aload_n 0, 1) := de_2a tX8_costOf_117
def tX8_costOf_118 := Bt_1 (q := 118) tX8_costOf_117 rfl
theorem dX8_costOf_118 : decode cX8_costOf 118 = .ok (.getfield 20, 3) := de_b4 tX8_costOf_118 (by decide +kernel)
def tX8_costOf_121 := Bt_3 (q := 121) tX8_costOf_118 rfl
theorem dX8_costOf_121 : decode cX8_costOf 121 = .ok (.iload_n 1, 1) := de_1b tX8_costOf_121
def tX8_costOf_122 := Bt_1 (q := 122) tX8_costOf_121 rfl
theorem dX8_costOf_122 : decode cX8_costOf 122 = .ok (.bipush 7, 2) := de_10 tX8_costOf_122 (by decide +kernel)
def tX8_costOf_124 := Bt_2 (q := 124) tX8_costOf_122 rfl
theorem dX8_costOf_124 : decode cX8_costOf 124 = .ok (.imul, 1) := de_68 tX8_costOf_124
def tX8_costOf_125 := Bt_1 (q := 125) tX8_costOf_124 rfl
theorem dX8_costOf_125 : decode cX8_costOf 125 = .ok (.iload_n 3, 1) := de_1d tX8_costOf_125
def tX8_costOf_126 := Bt_1 (q := 126) tX8_costOf_125 rfl
theorem dX8_costOf_126 : decode cX8_costOf 126 = .ok (.iadd, 1) := de_60 tX8_costOf_126
def tX8_costOf_127 := Bt_1 (q := 127) tX8_costOf_126 rfl
theorem dX8_costOf_127 : decode cX8_costOf 127 = .ok (.iaload, 1) := de_2e tX8_costOf_127
def tX8_costOf_128 := Bt_1 (q := 128) tX8_costOf_127 rfl
theorem dX8_costOf_128 : decode cX8_costOf 128 = .ok (.isub, 1) := de_64 tX8_costOf_128
def tX8_costOf_129 := Bt_1 (q := 129) tX8_costOf_128 rfl
theorem dX8_costOf_129 : decode cX8_costOf 129 = .ok (.i2l, 1) := de_85 tX8_costOf_129
def tX8_costOf_130 := Bt_1 (q := 130) tX8_costOf_129 rfl
theorem dX8_costOf_130 : decode cX8_costOf 130 = .ok (.lmul, 1) := de_69 tX8_costOf_130
def tX8_costOf_131 := Bt_1 (q := 131) tX8_costOf_130 rfl
theorem dX8_costOf_131 : decode cX8_costOf 131 = .ok (.lstore 8, 2) := de_37 tX8_costOf_131 (by decide +kernel)
def tX8_costOf_133 := Bt_2 (q := 133) tX8_costOf_131 rfl
theorem dX8_costOf_133 : decode cX8_costOf 133 = .ok (.lload 6, 2) := de_16 tX8_costOf_133 (by decide +kernel)
def tX8_costOf_135 := Bt_2 (q := 135) tX8_costOf_133 rfl
theorem dX8_costOf_135 : decode cX8_costOf 135 = .ok (.lload 8, 2) := de_16 tX8_costOf_135 (by decide +kernel)
def tX8_costOf_137 := Bt_2 (q := 137) tX8_costOf_135 rfl
theorem dX8_costOf_137 : decode cX8_costOf 137 = .ok (.ldc2_w 80, 3) := de_14 tX8_costOf_137 (by decide +kernel)
def tX8_costOf_140 := Bt_3 (q := 140) tX8_costOf_137 rfl
theorem dX8_costOf_140 : decode cX8_costOf 140 = .ok (.ladd, 1) := de_61 tX8_costOf_140
def tX8_costOf_141 := Bt_1 (q := 141) tX8_costOf_140 rfl
theorem dX8_costOf_141 : decode cX8_costOf 141 = .ok (.ldc2_w 82, 3) := de_14 tX8_costOf_141 (by decide +kernel)
def tX8_costOf_144 := Bt_3 (q := 144) tX8_costOf_141 rfl
theorem dX8_costOf_144 : decode cX8_costOf 144 = .ok (.ldiv, 1) := de_6d tX8_costOf_144
def tX8_costOf_145 := Bt_1 (q := 145) tX8_costOf_144 rfl
theorem dX8_costOf_145 : decode cX8_costOf 145 = .ok (.bipush 26, 2) := de_10 tX8_costOf_145 (by decide +kernel)
def tX8_costOf_147 := Bt_2 (q := 147) tX8_costOf_145 rfl
theorem dX8_costOf_147 : decode cX8_costOf 147 = .ok (.lshl, 1) := de_79 tX8_costOf_147
def tX8_costOf_148 := Bt_1 (q := 148) tX8_costOf_147 rfl
theorem dX8_costOf_148 : decode cX8_costOf 148 = .ok (.ladd, 1) := de_61 tX8_costOf_148
def tX8_costOf_149 := Bt_1 (q := 149) tX8_costOf_148 rfl
theorem dX8_costOf_149 : decode cX8_costOf 149 = .ok (.lreturn, 1) := de_ad tX8_costOf_149
def tX8_costOfRest_0 := Bt_0 cX8_costOfRest
theorem dX8_costOfRest_0 : decode cX8_costOfRest 0 = .ok (.lconst 0, 1) := de_09 tX8_costOfRest_0
def tX8_costOfRest_1 := Bt_1 (q := 1) tX8_costOfRest_0 rfl
theorem dX8_costOfRest_1 : decode cX8_costOfRest 1 = .ok (.lstore_n 2, 1) := de_41 tX8_costOfRest_1
def tX8_costOfRest_2 := Bt_1 (q := 2) tX8_costOfRest_1 rfl
theorem dX8_costOfRest_2 : decode cX8_costOfRest 2 = .ok (.iconst 0, 1) := de_03 tX8_costOfRest_2
def tX8_costOfRest_3 := Bt_1 (q := 3) tX8_costOfRest_2 rfl
theorem dX8_costOfRest_3 : decode cX8_costOfRest 3 = .ok (.istore 4, 2) := de_36 tX8_costOfRest_3 (by decide +kernel)
def tX8_costOfRest_5 := Bt_2 (q := 5) tX8_costOfRest_3 rfl
theorem dX8_costOfRest_5 : decode cX8_costOfRest 5 = .ok (.iload 4, 2) := de_15 tX8_costOfRest_5 (by decide +kernel)
def tX8_costOfRest_7 := Bt_2 (q := 7) tX8_costOfRest_5 rfl
theorem dX8_costOfRest_7 : decode cX8_costOfRest 7 = .ok (.bipush 6, 2) := de_10 tX8_costOfRest_7 (by decide +kernel)
def tX8_costOfRest_9 := Bt_2 (q := 9) tX8_costOfRest_7 rfl
theorem dX8_costOfRest_9 : decode cX8_costOfRest 9 = .ok (.if_icmp .ge 41, 3) := de_a2 tX8_costOfRest_9 (by decide +kernel)
def tX8_costOfRest_12 := Bt_3 (q := 12) tX8_costOfRest_9 rfl
theorem dX8_costOfRest_12 : decode cX8_costOfRest 12 = .ok (.iload 4, 2) := de_15 tX8_costOfRest_12 (by decide +kernel)
def tX8_costOfRest_14 := Bt_2 (q := 14) tX8_costOfRest_12 rfl
theorem dX8_costOfRest_14 : decode cX8_costOfRest 14 = .ok (.iload_n 1, 1) := de_1b tX8_costOfRest_14
def tX8_costOfRest_15 := Bt_1 (q := 15) tX8_costOfRest_14 rfl
theorem dX8_costOfRest_15 : decode cX8_costOfRest 15 = .ok (.if_icmp .ge 35, 3) := de_a2 tX8_costOfRest_15 (by decide +kernel)
def tX8_costOfRest_18 := Bt_3 (q := 18) tX8_costOfRest_15 rfl
theorem dX8_costOfRest_18 : decode cX8_costOfRest 18 = .ok (.iload_n 0, 1) := de_1a tX8_costOfRest_18
def tX8_costOfRest_19 := Bt_1 (q := 19) tX8_costOfRest_18 rfl
theorem dX8_costOfRest_19 : decode cX8_costOfRest 19 = .ok (.iload 4, 2) := de_15 tX8_costOfRest_19 (by decide +kernel)
def tX8_costOfRest_21 := Bt_2 (q := 21) tX8_costOfRest_19 rfl
theorem dX8_costOfRest_21 : decode cX8_costOfRest 21 = .ok (.ishr, 1) := de_7a tX8_costOfRest_21
def tX8_costOfRest_22 := Bt_1 (q := 22) tX8_costOfRest_21 rfl
theorem dX8_costOfRest_22 : decode cX8_costOfRest 22 = .ok (.iconst 1, 1) := de_04 tX8_costOfRest_22
def tX8_costOfRest_23 := Bt_1 (q := 23) tX8_costOfRest_22 rfl
theorem dX8_costOfRest_23 : decode cX8_costOfRest 23 = .ok (.iand, 1) := de_7e tX8_costOfRest_23
def tX8_costOfRest_24 := Bt_1 (q := 24) tX8_costOfRest_23 rfl
theorem dX8_costOfRest_24 : decode cX8_costOfRest 24 = .ok (.ifCond .ne 20, 3) := de_9a tX8_costOfRest_24 (by decide +kernel)
def tX8_costOfRest_27 := Bt_3 (q := 27) tX8_costOfRest_24 rfl
theorem dX8_costOfRest_27 : decode cX8_costOfRest 27 = .ok (.lload_n 2, 1) := de_20 tX8_costOfRest_27
def tX8_costOfRest_28 := Bt_1 (q := 28) tX8_costOfRest_27 rfl
theorem dX8_costOfRest_28 : decode cX8_costOfRest 28 = .ok (.ldc2_w 84, 3) := de_14 tX8_costOfRest_28 (by decide +kernel)
def tX8_costOfRest_31 := Bt_3 (q := 31) tX8_costOfRest_28 rfl
theorem dX8_costOfRest_31 : decode cX8_costOfRest 31 = .ok (.bipush 8, 2) := de_10 tX8_costOfRest_31 (by decide +kernel)
def tX8_costOfRest_33 := Bt_2 (q := 33) tX8_costOfRest_31 rfl
theorem dX8_costOfRest_33 : decode cX8_costOfRest 33 = .ok (.getstatic 77, 3) := de_b2 tX8_costOfRest_33 (by decide +kernel)
def tX8_costOfRest_36 := Bt_3 (q := 36) tX8_costOfRest_33 rfl
theorem dX8_costOfRest_36 : decode cX8_costOfRest 36 = .ok (.iload 4, 2) := de_15 tX8_costOfRest_36 (by decide +kernel)
def tX8_costOfRest_38 := Bt_2 (q := 38) tX8_costOfRest_36 rfl
theorem dX8_costOfRest_38 : decode cX8_costOfRest 38 = .ok (.iaload, 1) := de_2e tX8_costOfRest_38
def tX8_costOfRest_39 := Bt_1 (q := 39) tX8_costOfRest_38 rfl
theorem dX8_costOfRest_39 : decode cX8_costOfRest 39 = .ok (.imul, 1) := de_68 tX8_costOfRest_39
def tX8_costOfRest_40 := Bt_1 (q := 40) tX8_costOfRest_39 rfl
theorem dX8_costOfRest_40 : decode cX8_costOfRest 40 = .ok (.i2l, 1) := de_85 tX8_costOfRest_40
def tX8_costOfRest_41 := Bt_1 (q := 41) tX8_costOfRest_40 rfl
theorem dX8_costOfRest_41 : decode cX8_costOfRest 41 = .ok (.ladd, 1) := de_61 tX8_costOfRest_41
def tX8_costOfRest_42 := Bt_1 (q := 42) tX8_costOfRest_41 rfl
theorem dX8_costOfRest_42 : decode cX8_costOfRest 42 = .ok (.ladd, 1) := de_61 tX8_costOfRest_42
def tX8_costOfRest_43 := Bt_1 (q := 43) tX8_costOfRest_42 rfl
theorem dX8_costOfRest_43 : decode cX8_costOfRest 43 = .ok (.lstore_n 2, 1) := de_41 tX8_costOfRest_43
def tX8_costOfRest_44 := Bt_1 (q := 44) tX8_costOfRest_43 rfl
theorem dX8_costOfRest_44 : decode cX8_costOfRest 44 = .ok (.iinc 4 1, 3) := de_84 tX8_costOfRest_44 (by decide +kernel) (by decide +kernel)
def tX8_costOfRest_47 := Bt_3 (q := 47) tX8_costOfRest_44 rfl
theorem dX8_costOfRest_47 : decode cX8_costOfRest 47 = .ok (.goto (-42), 3) := de_a7 tX8_costOfRest_47 (by decide +kernel)
def tX8_costOfRest_50 := Bt_3 (q := 50) tX8_costOfRest_47 rfl
theorem dX8_costOfRest_50 : decode cX8_costOfRest 50 = .ok (.lload_n 2, 1) := de_20 tX8_costOfRest_50
def tX8_costOfRest_51 := Bt_1 (q := 51) tX8_costOfRest_50 rfl
theorem dX8_costOfRest_51 : decode cX8_costOfRest 51 = .ok (.lreturn, 1) := de_ad tX8_costOfRest_51
def tX8_addBidder_0 := Bt_0 cX8_addBidder
theorem dX8_addBidder_0 : decode cX8_addBidder 0 = .ok (.bipush 63, 2) := de_10 tX8_addBidder_0 (by decide +kernel)
def tX8_addBidder_2 := Bt_2 (q := 2) tX8_addBidder_0 rfl
theorem dX8_addBidder_2 : decode cX8_addBidder 2 = .ok (.istore_n 1, 1) := de_3c tX8_addBidder_2
def tX8_addBidder_3 := Bt_1 (q := 3) tX8_addBidder_2 rfl
theorem dX8_addBidder_3 : decode cX8_addBidder 3 = .ok (.iload_n 1, 1) := de_1b tX8_addBidder_3
def tX8_addBidder_4 := Bt_1 (q := 4) tX8_addBidder_3 rfl
theorem dX8_addBidder_4 : decode cX8_addBidder 4 = .ok (.ifCond .le 77, 3) := de_9e tX8_addBidder_4 (by decide +kernel)
def tX8_addBidder_7 := Bt_3 (q := 7) tX8_addBidder_4 rfl
theorem dX8_addBidder_7 : decode cX8_addBidder 7 = .ok (.iload_n 1, 1) := de_1b tX8_addBidder_7
def tX8_addBidder_8 := Bt_1 (q := 8) tX8_addBidder_7 rfl
theorem dX8_addBidder_8 : decode cX8_addBidder 8 = .ok (.istore_n 2, 1) := de_3d tX8_addBidder_8
def tX8_addBidder_9 := Bt_1 (q := 9) tX8_addBidder_8 rfl
theorem dX8_addBidder_9 : decode cX8_addBidder 9 = .ok (.iload_n 2, 1) := de_1c tX8_addBidder_9
def tX8_addBidder_10 := Bt_1 (q := 10) tX8_addBidder_9 rfl
theorem dX8_addBidder_10 : decode cX8_addBidder 10 = .ok (.ifCond .le 65, 3) := de_9e tX8_addBidder_10 (by decide +kernel)
def tX8_addBidder_13 := Bt_3 (q := 13) tX8_addBidder_10 rfl
theorem dX8_addBidder_13 : decode cX8_addBidder 13 = .ok (.aload_n 0, 1) := de_2a tX8_addBidder_13
def tX8_addBidder_14 := Bt_1 (q := 14) tX8_addBidder_13 rfl
theorem dX8_addBidder_14 : decode cX8_addBidder 14 = .ok (.getfield 29, 3) := de_b4 tX8_addBidder_14 (by decide +kernel)
def tX8_addBidder_17 := Bt_3 (q := 17) tX8_addBidder_14 rfl
theorem dX8_addBidder_17 : decode cX8_addBidder 17 = .ok (.iload_n 1, 1) := de_1b tX8_addBidder_17
def tX8_addBidder_18 := Bt_1 (q := 18) tX8_addBidder_17 rfl
theorem dX8_addBidder_18 : decode cX8_addBidder 18 = .ok (.iload_n 2, 1) := de_1c tX8_addBidder_18
def tX8_addBidder_19 := Bt_1 (q := 19) tX8_addBidder_18 rfl
theorem dX8_addBidder_19 : decode cX8_addBidder 19 = .ok (.isub, 1) := de_64 tX8_addBidder_19
def tX8_addBidder_20 := Bt_1 (q := 20) tX8_addBidder_19 rfl
theorem dX8_addBidder_20 : decode cX8_addBidder 20 = .ok (.laload, 1) := de_2f tX8_addBidder_20
def tX8_addBidder_21 := Bt_1 (q := 21) tX8_addBidder_20 rfl
theorem dX8_addBidder_21 : decode cX8_addBidder 21 = .ok (.lstore_n 3, 1) := de_42 tX8_addBidder_21
def tX8_addBidder_22 := Bt_1 (q := 22) tX8_addBidder_21 rfl
theorem dX8_addBidder_22 : decode cX8_addBidder 22 = .ok (.aload_n 0, 1) := de_2a tX8_addBidder_22
def tX8_addBidder_23 := Bt_1 (q := 23) tX8_addBidder_22 rfl
theorem dX8_addBidder_23 : decode cX8_addBidder 23 = .ok (.getfield 33, 3) := de_b4 tX8_addBidder_23 (by decide +kernel)
def tX8_addBidder_26 := Bt_3 (q := 26) tX8_addBidder_23 rfl
theorem dX8_addBidder_26 : decode cX8_addBidder 26 = .ok (.iload_n 2, 1) := de_1c tX8_addBidder_26
def tX8_addBidder_27 := Bt_1 (q := 27) tX8_addBidder_26 rfl
theorem dX8_addBidder_27 : decode cX8_addBidder 27 = .ok (.laload, 1) := de_2f tX8_addBidder_27
def tX8_addBidder_28 := Bt_1 (q := 28) tX8_addBidder_27 rfl
theorem dX8_addBidder_28 : decode cX8_addBidder 28 = .ok (.ldc2_w 46, 3) := de_14 tX8_addBidder_28 (by decide +kernel)
def tX8_addBidder_31 := Bt_3 (q := 31) tX8_addBidder_28 rfl
theorem dX8_addBidder_31 : decode cX8_addBidder 31 = .ok (.lcmp, 1) := de_94 tX8_addBidder_31
def tX8_addBidder_32 := Bt_1 (q := 32) tX8_addBidder_31 rfl
theorem dX8_addBidder_32 : decode cX8_addBidder 32 = .ok (.ifCond .eq 34, 3) := de_99 tX8_addBidder_32 (by decide +kernel)
def tX8_addBidder_35 := Bt_3 (q := 35) tX8_addBidder_32 rfl
theorem dX8_addBidder_35 : decode cX8_addBidder 35 = .ok (.lload_n 3, 1) := de_21 tX8_addBidder_35
def tX8_addBidder_36 := Bt_1 (q := 36) tX8_addBidder_35 rfl
theorem dX8_addBidder_36 : decode cX8_addBidder 36 = .ok (.ldc2_w 46, 3) := de_14 tX8_addBidder_36 (by decide +kernel)
def tX8_addBidder_39 := Bt_3 (q := 39) tX8_addBidder_36 rfl
theorem dX8_addBidder_39 : decode cX8_addBidder 39 = .ok (.lcmp, 1) := de_94 tX8_addBidder_39
def tX8_addBidder_40 := Bt_1 (q := 40) tX8_addBidder_39 rfl
theorem dX8_addBidder_40 : decode cX8_addBidder 40 = .ok (.ifCond .eq 26, 3) := de_99 tX8_addBidder_40 (by decide +kernel)
def tX8_addBidder_43 := Bt_3 (q := 43) tX8_addBidder_40 rfl
theorem dX8_addBidder_43 : decode cX8_addBidder 43 = .ok (.aload_n 0, 1) := de_2a tX8_addBidder_43
def tX8_addBidder_44 := Bt_1 (q := 44) tX8_addBidder_43 rfl
theorem dX8_addBidder_44 : decode cX8_addBidder 44 = .ok (.getfield 29, 3) := de_b4 tX8_addBidder_44 (by decide +kernel)
def tX8_addBidder_47 := Bt_3 (q := 47) tX8_addBidder_44 rfl
theorem dX8_addBidder_47 : decode cX8_addBidder 47 = .ok (.iload_n 1, 1) := de_1b tX8_addBidder_47
def tX8_addBidder_48 := Bt_1 (q := 48) tX8_addBidder_47 rfl
theorem dX8_addBidder_48 : decode cX8_addBidder 48 = .ok (.aload_n 0, 1) := de_2a tX8_addBidder_48
def tX8_addBidder_49 := Bt_1 (q := 49) tX8_addBidder_48 rfl
theorem dX8_addBidder_49 : decode cX8_addBidder 49 = .ok (.getfield 29, 3) := de_b4 tX8_addBidder_49 (by decide +kernel)
def tX8_addBidder_52 := Bt_3 (q := 52) tX8_addBidder_49 rfl
theorem dX8_addBidder_52 : decode cX8_addBidder 52 = .ok (.iload_n 1, 1) := de_1b tX8_addBidder_52
def tX8_addBidder_53 := Bt_1 (q := 53) tX8_addBidder_52 rfl
theorem dX8_addBidder_53 : decode cX8_addBidder 53 = .ok (.laload, 1) := de_2f tX8_addBidder_53
def tX8_addBidder_54 := Bt_1 (q := 54) tX8_addBidder_53 rfl
theorem dX8_addBidder_54 : decode cX8_addBidder 54 = .ok (.lload_n 3, 1) := de_21 tX8_addBidder_54
def tX8_addBidder_55 := Bt_1 (q := 55) tX8_addBidder_54 rfl
theorem dX8_addBidder_55 : decode cX8_addBidder 55 = .ok (.aload_n 0, 1) := de_2a tX8_addBidder_55
def tX8_addBidder_56 := Bt_1 (q := 56) tX8_addBidder_55 rfl
theorem dX8_addBidder_56 : decode cX8_addBidder 56 = .ok (.getfield 33, 3) := de_b4 tX8_addBidder_56 (by decide +kernel)
def tX8_addBidder_59 := Bt_3 (q := 59) tX8_addBidder_56 rfl
theorem dX8_addBidder_59 : decode cX8_addBidder 59 = .ok (.iload_n 2, 1) := de_1c tX8_addBidder_59
def tX8_addBidder_60 := Bt_1 (q := 60) tX8_addBidder_59 rfl
theorem dX8_addBidder_60 : decode cX8_addBidder 60 = .ok (.laload, 1) := de_2f tX8_addBidder_60
def tX8_addBidder_61 := Bt_1 (q := 61) tX8_addBidder_60 rfl
theorem dX8_addBidder_61 : decode cX8_addBidder 61 = .ok (.ladd, 1) := de_61 tX8_addBidder_61
def tX8_addBidder_62 := Bt_1 (q := 62) tX8_addBidder_61 rfl
theorem dX8_addBidder_62 : decode cX8_addBidder 62 = .ok (.invokestatic 61, 3) := de_b8 tX8_addBidder_62 (by decide +kernel)
def tX8_addBidder_65 := Bt_3 (q := 65) tX8_addBidder_62 rfl
theorem dX8_addBidder_65 : decode cX8_addBidder 65 = .ok (.lastore, 1) := de_50 tX8_addBidder_65
def tX8_addBidder_66 := Bt_1 (q := 66) tX8_addBidder_65 rfl
theorem dX8_addBidder_66 : decode cX8_addBidder 66 = .ok (.iload_n 2, 1) := de_1c tX8_addBidder_66
def tX8_addBidder_67 := Bt_1 (q := 67) tX8_addBidder_66 rfl
theorem dX8_addBidder_67 : decode cX8_addBidder 67 = .ok (.iconst 1, 1) := de_04 tX8_addBidder_67
def tX8_addBidder_68 := Bt_1 (q := 68) tX8_addBidder_67 rfl
theorem dX8_addBidder_68 : decode cX8_addBidder 68 = .ok (.isub, 1) := de_64 tX8_addBidder_68
def tX8_addBidder_69 := Bt_1 (q := 69) tX8_addBidder_68 rfl
theorem dX8_addBidder_69 : decode cX8_addBidder 69 = .ok (.iload_n 1, 1) := de_1b tX8_addBidder_69
def tX8_addBidder_70 := Bt_1 (q := 70) tX8_addBidder_69 rfl
theorem dX8_addBidder_70 : decode cX8_addBidder 70 = .ok (.iand, 1) := de_7e tX8_addBidder_70
def tX8_addBidder_71 := Bt_1 (q := 71) tX8_addBidder_70 rfl
theorem dX8_addBidder_71 : decode cX8_addBidder 71 = .ok (.istore_n 2, 1) := de_3d tX8_addBidder_71
def tX8_addBidder_72 := Bt_1 (q := 72) tX8_addBidder_71 rfl
theorem dX8_addBidder_72 : decode cX8_addBidder 72 = .ok (.goto (-63), 3) := de_a7 tX8_addBidder_72 (by decide +kernel)
def tX8_addBidder_75 := Bt_3 (q := 75) tX8_addBidder_72 rfl
theorem dX8_addBidder_75 : decode cX8_addBidder 75 = .ok (.iinc 1 (-1), 3) := de_84 tX8_addBidder_75 (by decide +kernel) (by decide +kernel)
def tX8_addBidder_78 := Bt_3 (q := 78) tX8_addBidder_75 rfl
theorem dX8_addBidder_78 : decode cX8_addBidder 78 = .ok (.goto (-75), 3) := de_a7 tX8_addBidder_78 (by decide +kernel)
def tX8_addBidder_81 := Bt_3 (q := 81) tX8_addBidder_78 rfl
theorem dX8_addBidder_81 : decode cX8_addBidder 81 = .ok (.return_, 1) := de_b1 tX8_addBidder_81
def tX8_keep_0 := Bt_0 cX8_keep
theorem dX8_keep_0 : decode cX8_keep 0 = .ok (.aload_n 0, 1) := de_2a tX8_keep_0
def tX8_keep_1 := Bt_1 (q := 1) tX8_keep_0 rfl
theorem dX8_keep_1 : decode cX8_keep 1 = .ok (.iload_n 3, 1) := de_1d tX8_keep_1
def tX8_keep_2 := Bt_1 (q := 2) tX8_keep_1 rfl
theorem dX8_keep_2 : decode cX8_keep 2 = .ok (.lload_n 1, 1) := de_1f tX8_keep_2
def tX8_keep_3 := Bt_1 (q := 3) tX8_keep_2 rfl
theorem dX8_keep_3 : decode cX8_keep 3 = .ok (.bipush 56, 2) := de_10 tX8_keep_3 (by decide +kernel)
def tX8_keep_5 := Bt_2 (q := 5) tX8_keep_3 rfl
theorem dX8_keep_5 : decode cX8_keep 5 = .ok (.lshr, 1) := de_7b tX8_keep_5
def tX8_keep_6 := Bt_1 (q := 6) tX8_keep_5 rfl
theorem dX8_keep_6 : decode cX8_keep 6 = .ok (.l2i, 1) := de_88 tX8_keep_6
def tX8_keep_7 := Bt_1 (q := 7) tX8_keep_6 rfl
theorem dX8_keep_7 : decode cX8_keep 7 = .ok (.isub, 1) := de_64 tX8_keep_7
def tX8_keep_8 := Bt_1 (q := 8) tX8_keep_7 rfl
theorem dX8_keep_8 : decode cX8_keep 8 = .ok (.putfield 86, 3) := de_b5 tX8_keep_8 (by decide +kernel)
def tX8_keep_11 := Bt_3 (q := 11) tX8_keep_8 rfl
theorem dX8_keep_11 : decode cX8_keep 11 = .ok (.aload_n 0, 1) := de_2a tX8_keep_11
def tX8_keep_12 := Bt_1 (q := 12) tX8_keep_11 rfl
theorem dX8_keep_12 : decode cX8_keep 12 = .ok (.lload_n 1, 1) := de_1f tX8_keep_12
def tX8_keep_13 := Bt_1 (q := 13) tX8_keep_12 rfl
theorem dX8_keep_13 : decode cX8_keep 13 = .ok (.bipush 26, 2) := de_10 tX8_keep_13 (by decide +kernel)
def tX8_keep_15 := Bt_2 (q := 15) tX8_keep_13 rfl
theorem dX8_keep_15 : decode cX8_keep 15 = .ok (.lshr, 1) := de_7b tX8_keep_15
def tX8_keep_16 := Bt_1 (q := 16) tX8_keep_15 rfl
theorem dX8_keep_16 : decode cX8_keep 16 = .ok (.ldc2_w 90, 3) := de_14 tX8_keep_16 (by decide +kernel)
def tX8_keep_19 := Bt_3 (q := 19) tX8_keep_16 rfl
theorem dX8_keep_19 : decode cX8_keep 19 = .ok (.land, 1) := de_7f tX8_keep_19
def tX8_keep_20 := Bt_1 (q := 20) tX8_keep_19 rfl
theorem dX8_keep_20 : decode cX8_keep 20 = .ok (.l2i, 1) := de_88 tX8_keep_20
def tX8_keep_21 := Bt_1 (q := 21) tX8_keep_20 rfl
theorem dX8_keep_21 : decode cX8_keep 21 = .ok (.putfield 92, 3) := de_b5 tX8_keep_21 (by decide +kernel)
def tX8_keep_24 := Bt_3 (q := 24) tX8_keep_21 rfl
theorem dX8_keep_24 : decode cX8_keep 24 = .ok (.lload_n 1, 1) := de_1f tX8_keep_24
def tX8_keep_25 := Bt_1 (q := 25) tX8_keep_24 rfl
theorem dX8_keep_25 : decode cX8_keep 25 = .ok (.ldc2_w 95, 3) := de_14 tX8_keep_25 (by decide +kernel)
def tX8_keep_28 := Bt_3 (q := 28) tX8_keep_25 rfl
theorem dX8_keep_28 : decode cX8_keep 28 = .ok (.land, 1) := de_7f tX8_keep_28
def tX8_keep_29 := Bt_1 (q := 29) tX8_keep_28 rfl
theorem dX8_keep_29 : decode cX8_keep 29 = .ok (.l2i, 1) := de_88 tX8_keep_29
def tX8_keep_30 := Bt_1 (q := 30) tX8_keep_29 rfl
theorem dX8_keep_30 : decode cX8_keep 30 = .ok (.istore 4, 2) := de_36 tX8_keep_30 (by decide +kernel)
def tX8_keep_32 := Bt_2 (q := 32) tX8_keep_30 rfl
theorem dX8_keep_32 : decode cX8_keep 32 = .ok (.iconst 5, 1) := de_08 tX8_keep_32
def tX8_keep_33 := Bt_1 (q := 33) tX8_keep_32 rfl
theorem dX8_keep_33 : decode cX8_keep 33 = .ok (.istore 5, 2) := de_36 tX8_keep_33 (by decide +kernel)
def tX8_keep_35 := Bt_2 (q := 35) tX8_keep_33 rfl
theorem dX8_keep_35 : decode cX8_keep 35 = .ok (.iload 5, 2) := de_15 tX8_keep_35 (by decide +kernel)
def tX8_keep_37 := Bt_2 (q := 37) tX8_keep_35 rfl
theorem dX8_keep_37 : decode cX8_keep 37 = .ok (.ifCond .lt 50, 3) := de_9b tX8_keep_37 (by decide +kernel)
def tX8_keep_40 := Bt_3 (q := 40) tX8_keep_37 rfl
theorem dX8_keep_40 : decode cX8_keep 40 = .ok (.iload 4, 2) := de_15 tX8_keep_40 (by decide +kernel)
def tX8_keep_42 := Bt_2 (q := 42) tX8_keep_40 rfl
theorem dX8_keep_42 : decode cX8_keep 42 = .ok (.bipush 9, 2) := de_10 tX8_keep_42 (by decide +kernel)
def tX8_keep_44 := Bt_2 (q := 44) tX8_keep_42 rfl
theorem dX8_keep_44 : decode cX8_keep 44 = .ok (.irem, 1) := de_70 tX8_keep_44
def tX8_keep_45 := Bt_1 (q := 45) tX8_keep_44 rfl
theorem dX8_keep_45 : decode cX8_keep 45 = .ok (.istore 6, 2) := de_36 tX8_keep_45 (by decide +kernel)
def tX8_keep_47 := Bt_2 (q := 47) tX8_keep_45 rfl
theorem dX8_keep_47 : decode cX8_keep 47 = .ok (.iload 4, 2) := de_15 tX8_keep_47 (by decide +kernel)
def tX8_keep_49 := Bt_2 (q := 49) tX8_keep_47 rfl
theorem dX8_keep_49 : decode cX8_keep 49 = .ok (.bipush 9, 2) := de_10 tX8_keep_49 (by decide +kernel)
def tX8_keep_51 := Bt_2 (q := 51) tX8_keep_49 rfl
theorem dX8_keep_51 : decode cX8_keep 51 = .ok (.idiv, 1) := de_6c tX8_keep_51
def tX8_keep_52 := Bt_1 (q := 52) tX8_keep_51 rfl
theorem dX8_keep_52 : decode cX8_keep 52 = .ok (.istore 4, 2) := de_36 tX8_keep_52 (by decide +kernel)
def tX8_keep_54 := Bt_2 (q := 54) tX8_keep_52 rfl
theorem dX8_keep_54 : decode cX8_keep 54 = .ok (.aload_n 0, 1) := de_2a tX8_keep_54
def tX8_keep_55 := Bt_1 (q := 55) tX8_keep_54 rfl
theorem dX8_keep_55 : decode cX8_keep 55 = .ok (.getfield 17, 3) := de_b4 tX8_keep_55 (by decide +kernel)
def tX8_keep_58 := Bt_3 (q := 58) tX8_keep_55 rfl
theorem dX8_keep_58 : decode cX8_keep 58 = .ok (.iload 5, 2) := de_15 tX8_keep_58 (by decide +kernel)
def tX8_keep_60 := Bt_2 (q := 60) tX8_keep_58 rfl
theorem dX8_keep_60 : decode cX8_keep 60 = .ok (.iload 5, 2) := de_15 tX8_keep_60 (by decide +kernel)
def tX8_keep_62 := Bt_2 (q := 62) tX8_keep_60 rfl
theorem dX8_keep_62 : decode cX8_keep 62 = .ok (.iload_n 3, 1) := de_1d tX8_keep_62
def tX8_keep_63 := Bt_1 (q := 63) tX8_keep_62 rfl
theorem dX8_keep_63 : decode cX8_keep 63 = .ok (.if_icmp .ge 10, 3) := de_a2 tX8_keep_63 (by decide +kernel)
def tX8_keep_66 := Bt_3 (q := 66) tX8_keep_63 rfl
theorem dX8_keep_66 : decode cX8_keep 66 = .ok (.iload 6, 2) := de_15 tX8_keep_66 (by decide +kernel)
def tX8_keep_68 := Bt_2 (q := 68) tX8_keep_66 rfl
theorem dX8_keep_68 : decode cX8_keep 68 = .ok (.bipush 8, 2) := de_10 tX8_keep_68 (by decide +kernel)
def tX8_keep_70 := Bt_2 (q := 70) tX8_keep_68 rfl
theorem dX8_keep_70 : decode cX8_keep 70 = .ok (.if_icmp .ne 8, 3) := de_a0 tX8_keep_70 (by decide +kernel)
def tX8_keep_73 := Bt_3 (q := 73) tX8_keep_70 rfl
theorem dX8_keep_73 : decode cX8_keep 73 = .ok (.bipush (-9), 2) := de_10 tX8_keep_73 (by decide +kernel)
def tX8_keep_75 := Bt_2 (q := 75) tX8_keep_73 rfl
theorem dX8_keep_75 : decode cX8_keep 75 = .ok (.goto 5, 3) := de_a7 tX8_keep_75 (by decide +kernel)
def tX8_keep_78 := Bt_3 (q := 78) tX8_keep_75 rfl
theorem dX8_keep_78 : decode cX8_keep 78 = .ok (.iload 6, 2) := de_15 tX8_keep_78 (by decide +kernel)
def tX8_keep_80 := Bt_2 (q := 80) tX8_keep_78 rfl
theorem dX8_keep_80 : decode cX8_keep 80 = .ok (.iastore, 1) := de_4f tX8_keep_80
def tX8_keep_81 := Bt_1 (q := 81) tX8_keep_80 rfl
theorem dX8_keep_81 : decode cX8_keep 81 = .ok (.iinc 5 (-1), 3) := de_84 tX8_keep_81 (by decide +kernel) (by decide +kernel)
def tX8_keep_84 := Bt_3 (q := 84) tX8_keep_81 rfl
theorem dX8_keep_84 : decode cX8_keep 84 = .ok (.goto (-49), 3) := de_a7 tX8_keep_84 (by decide +kernel)
def tX8_keep_87 := Bt_3 (q := 87) tX8_keep_84 rfl
theorem dX8_keep_87 : decode cX8_keep 87 = .ok (.return_, 1) := de_b1 tX8_keep_87
def tJ6_numberOfTrailingZeros_0f7a4_0 := Bt_0 cJ6_numberOfTrailingZeros_0f7a4
theorem dJ6_numberOfTrailingZeros_0f7a4_0 : decode cJ6_numberOfTrailingZeros_0f7a4 0 = .ok (.iload_n 0, 1) := de_1a tJ6_numberOfTrailingZeros_0f7a4_0
def tJ6_numberOfTrailingZeros_0f7a4_1 := Bt_1 (q := 1) tJ6_numberOfTrailingZeros_0f7a4_0 rfl
theorem dJ6_numberOfTrailingZeros_0f7a4_1 : decode cJ6_numberOfTrailingZeros_0f7a4 1 = .ok (.iconst (-1), 1) := de_02 tJ6_numberOfTrailingZeros_0f7a4_1
def tJ6_numberOfTrailingZeros_0f7a4_2 := Bt_1 (q := 2) tJ6_numberOfTrailingZeros_0f7a4_1 rfl
theorem dJ6_numberOfTrailingZeros_0f7a4_2 : decode cJ6_numberOfTrailingZeros_0f7a4 2 = .ok (.ixor, 1) := de_82 tJ6_numberOfTrailingZeros_0f7a4_2
def tJ6_numberOfTrailingZeros_0f7a4_3 := Bt_1 (q := 3) tJ6_numberOfTrailingZeros_0f7a4_2 rfl
theorem dJ6_numberOfTrailingZeros_0f7a4_3 : decode cJ6_numberOfTrailingZeros_0f7a4 3 = .ok (.iload_n 0, 1) := de_1a tJ6_numberOfTrailingZeros_0f7a4_3
def tJ6_numberOfTrailingZeros_0f7a4_4 := Bt_1 (q := 4) tJ6_numberOfTrailingZeros_0f7a4_3 rfl
theorem dJ6_numberOfTrailingZeros_0f7a4_4 : decode cJ6_numberOfTrailingZeros_0f7a4 4 = .ok (.iconst 1, 1) := de_04 tJ6_numberOfTrailingZeros_0f7a4_4
def tJ6_numberOfTrailingZeros_0f7a4_5 := Bt_1 (q := 5) tJ6_numberOfTrailingZeros_0f7a4_4 rfl
theorem dJ6_numberOfTrailingZeros_0f7a4_5 : decode cJ6_numberOfTrailingZeros_0f7a4 5 = .ok (.isub, 1) := de_64 tJ6_numberOfTrailingZeros_0f7a4_5
def tJ6_numberOfTrailingZeros_0f7a4_6 := Bt_1 (q := 6) tJ6_numberOfTrailingZeros_0f7a4_5 rfl
theorem dJ6_numberOfTrailingZeros_0f7a4_6 : decode cJ6_numberOfTrailingZeros_0f7a4 6 = .ok (.iand, 1) := de_7e tJ6_numberOfTrailingZeros_0f7a4_6
def tJ6_numberOfTrailingZeros_0f7a4_7 := Bt_1 (q := 7) tJ6_numberOfTrailingZeros_0f7a4_6 rfl
theorem dJ6_numberOfTrailingZeros_0f7a4_7 : decode cJ6_numberOfTrailingZeros_0f7a4 7 = .ok (.istore_n 0, 1) := de_3b tJ6_numberOfTrailingZeros_0f7a4_7
def tJ6_numberOfTrailingZeros_0f7a4_8 := Bt_1 (q := 8) tJ6_numberOfTrailingZeros_0f7a4_7 rfl
theorem dJ6_numberOfTrailingZeros_0f7a4_8 : decode cJ6_numberOfTrailingZeros_0f7a4 8 = .ok (.iload_n 0, 1) := de_1a tJ6_numberOfTrailingZeros_0f7a4_8
def tJ6_numberOfTrailingZeros_0f7a4_9 := Bt_1 (q := 9) tJ6_numberOfTrailingZeros_0f7a4_8 rfl
theorem dJ6_numberOfTrailingZeros_0f7a4_9 : decode cJ6_numberOfTrailingZeros_0f7a4 9 = .ok (.ifCond .gt 8, 3) := de_9d tJ6_numberOfTrailingZeros_0f7a4_9 (by decide +kernel)
def tJ6_numberOfTrailingZeros_0f7a4_12 := Bt_3 (q := 12) tJ6_numberOfTrailingZeros_0f7a4_9 rfl
theorem dJ6_numberOfTrailingZeros_0f7a4_12 : decode cJ6_numberOfTrailingZeros_0f7a4 12 = .ok (.iload_n 0, 1) := de_1a tJ6_numberOfTrailingZeros_0f7a4_12
def tJ6_numberOfTrailingZeros_0f7a4_13 := Bt_1 (q := 13) tJ6_numberOfTrailingZeros_0f7a4_12 rfl
theorem dJ6_numberOfTrailingZeros_0f7a4_13 : decode cJ6_numberOfTrailingZeros_0f7a4 13 = .ok (.bipush 32, 2) := de_10 tJ6_numberOfTrailingZeros_0f7a4_13 (by decide +kernel)
def tJ6_numberOfTrailingZeros_0f7a4_15 := Bt_2 (q := 15) tJ6_numberOfTrailingZeros_0f7a4_13 rfl
theorem dJ6_numberOfTrailingZeros_0f7a4_15 : decode cJ6_numberOfTrailingZeros_0f7a4 15 = .ok (.iand, 1) := de_7e tJ6_numberOfTrailingZeros_0f7a4_15
def tJ6_numberOfTrailingZeros_0f7a4_16 := Bt_1 (q := 16) tJ6_numberOfTrailingZeros_0f7a4_15 rfl
theorem dJ6_numberOfTrailingZeros_0f7a4_16 : decode cJ6_numberOfTrailingZeros_0f7a4 16 = .ok (.ireturn, 1) := de_ac tJ6_numberOfTrailingZeros_0f7a4_16
def tJ6_numberOfTrailingZeros_0f7a4_17 := Bt_1 (q := 17) tJ6_numberOfTrailingZeros_0f7a4_16 rfl
theorem dJ6_numberOfTrailingZeros_0f7a4_17 : decode cJ6_numberOfTrailingZeros_0f7a4 17 = .ok (.iconst 1, 1) := de_04 tJ6_numberOfTrailingZeros_0f7a4_17
def tJ6_numberOfTrailingZeros_0f7a4_18 := Bt_1 (q := 18) tJ6_numberOfTrailingZeros_0f7a4_17 rfl
theorem dJ6_numberOfTrailingZeros_0f7a4_18 : decode cJ6_numberOfTrailingZeros_0f7a4 18 = .ok (.istore_n 1, 1) := de_3c tJ6_numberOfTrailingZeros_0f7a4_18
def tJ6_numberOfTrailingZeros_0f7a4_19 := Bt_1 (q := 19) tJ6_numberOfTrailingZeros_0f7a4_18 rfl
theorem dJ6_numberOfTrailingZeros_0f7a4_19 : decode cJ6_numberOfTrailingZeros_0f7a4 19 = .ok (.iload_n 0, 1) := de_1a tJ6_numberOfTrailingZeros_0f7a4_19
def tJ6_numberOfTrailingZeros_0f7a4_20 := Bt_1 (q := 20) tJ6_numberOfTrailingZeros_0f7a4_19 rfl
theorem dJ6_numberOfTrailingZeros_0f7a4_20 : decode cJ6_numberOfTrailingZeros_0f7a4 20 = .ok (.ldc_w 264, 3) := de_13 tJ6_numberOfTrailingZeros_0f7a4_20 (by decide +kernel)
def tJ6_numberOfTrailingZeros_0f7a4_23 := Bt_3 (q := 23) tJ6_numberOfTrailingZeros_0f7a4_20 rfl
theorem dJ6_numberOfTrailingZeros_0f7a4_23 : decode cJ6_numberOfTrailingZeros_0f7a4 23 = .ok (.if_icmp .le 11, 3) := de_a4 tJ6_numberOfTrailingZeros_0f7a4_23 (by decide +kernel)
def tJ6_numberOfTrailingZeros_0f7a4_26 := Bt_3 (q := 26) tJ6_numberOfTrailingZeros_0f7a4_23 rfl
theorem dJ6_numberOfTrailingZeros_0f7a4_26 : decode cJ6_numberOfTrailingZeros_0f7a4 26 = .ok (.iinc 1 16, 3) := de_84 tJ6_numberOfTrailingZeros_0f7a4_26 (by decide +kernel) (by decide +kernel)
def tJ6_numberOfTrailingZeros_0f7a4_29 := Bt_3 (q := 29) tJ6_numberOfTrailingZeros_0f7a4_26 rfl
theorem dJ6_numberOfTrailingZeros_0f7a4_29 : decode cJ6_numberOfTrailingZeros_0f7a4 29 = .ok (.iload_n 0, 1) := de_1a tJ6_numberOfTrailingZeros_0f7a4_29
def tJ6_numberOfTrailingZeros_0f7a4_30 := Bt_1 (q := 30) tJ6_numberOfTrailingZeros_0f7a4_29 rfl
theorem dJ6_numberOfTrailingZeros_0f7a4_30 : decode cJ6_numberOfTrailingZeros_0f7a4 30 = .ok (.bipush 16, 2) := de_10 tJ6_numberOfTrailingZeros_0f7a4_30 (by decide +kernel)
def tJ6_numberOfTrailingZeros_0f7a4_32 := Bt_2 (q := 32) tJ6_numberOfTrailingZeros_0f7a4_30 rfl
theorem dJ6_numberOfTrailingZeros_0f7a4_32 : decode cJ6_numberOfTrailingZeros_0f7a4 32 = .ok (.iushr, 1) := de_7c tJ6_numberOfTrailingZeros_0f7a4_32
def tJ6_numberOfTrailingZeros_0f7a4_33 := Bt_1 (q := 33) tJ6_numberOfTrailingZeros_0f7a4_32 rfl
theorem dJ6_numberOfTrailingZeros_0f7a4_33 : decode cJ6_numberOfTrailingZeros_0f7a4 33 = .ok (.istore_n 0, 1) := de_3b tJ6_numberOfTrailingZeros_0f7a4_33
def tJ6_numberOfTrailingZeros_0f7a4_34 := Bt_1 (q := 34) tJ6_numberOfTrailingZeros_0f7a4_33 rfl
theorem dJ6_numberOfTrailingZeros_0f7a4_34 : decode cJ6_numberOfTrailingZeros_0f7a4 34 = .ok (.iload_n 0, 1) := de_1a tJ6_numberOfTrailingZeros_0f7a4_34
def tJ6_numberOfTrailingZeros_0f7a4_35 := Bt_1 (q := 35) tJ6_numberOfTrailingZeros_0f7a4_34 rfl
theorem dJ6_numberOfTrailingZeros_0f7a4_35 : decode cJ6_numberOfTrailingZeros_0f7a4 35 = .ok (.sipush 256, 3) := de_11 tJ6_numberOfTrailingZeros_0f7a4_35 (by decide +kernel)
def tJ6_numberOfTrailingZeros_0f7a4_38 := Bt_3 (q := 38) tJ6_numberOfTrailingZeros_0f7a4_35 rfl
theorem dJ6_numberOfTrailingZeros_0f7a4_38 : decode cJ6_numberOfTrailingZeros_0f7a4 38 = .ok (.if_icmp .le 11, 3) := de_a4 tJ6_numberOfTrailingZeros_0f7a4_38 (by decide +kernel)
def tJ6_numberOfTrailingZeros_0f7a4_41 := Bt_3 (q := 41) tJ6_numberOfTrailingZeros_0f7a4_38 rfl
theorem dJ6_numberOfTrailingZeros_0f7a4_41 : decode cJ6_numberOfTrailingZeros_0f7a4 41 = .ok (.iinc 1 8, 3) := de_84 tJ6_numberOfTrailingZeros_0f7a4_41 (by decide +kernel) (by decide +kernel)
def tJ6_numberOfTrailingZeros_0f7a4_44 := Bt_3 (q := 44) tJ6_numberOfTrailingZeros_0f7a4_41 rfl
theorem dJ6_numberOfTrailingZeros_0f7a4_44 : decode cJ6_numberOfTrailingZeros_0f7a4 44 = .ok (.iload_n 0, 1) := de_1a tJ6_numberOfTrailingZeros_0f7a4_44
def tJ6_numberOfTrailingZeros_0f7a4_45 := Bt_1 (q := 45) tJ6_numberOfTrailingZeros_0f7a4_44 rfl
theorem dJ6_numberOfTrailingZeros_0f7a4_45 : decode cJ6_numberOfTrailingZeros_0f7a4 45 = .ok (.bipush 8, 2) := de_10 tJ6_numberOfTrailingZeros_0f7a4_45 (by decide +kernel)
def tJ6_numberOfTrailingZeros_0f7a4_47 := Bt_2 (q := 47) tJ6_numberOfTrailingZeros_0f7a4_45 rfl
theorem dJ6_numberOfTrailingZeros_0f7a4_47 : decode cJ6_numberOfTrailingZeros_0f7a4 47 = .ok (.iushr, 1) := de_7c tJ6_numberOfTrailingZeros_0f7a4_47
def tJ6_numberOfTrailingZeros_0f7a4_48 := Bt_1 (q := 48) tJ6_numberOfTrailingZeros_0f7a4_47 rfl
theorem dJ6_numberOfTrailingZeros_0f7a4_48 : decode cJ6_numberOfTrailingZeros_0f7a4 48 = .ok (.istore_n 0, 1) := de_3b tJ6_numberOfTrailingZeros_0f7a4_48
def tJ6_numberOfTrailingZeros_0f7a4_49 := Bt_1 (q := 49) tJ6_numberOfTrailingZeros_0f7a4_48 rfl
theorem dJ6_numberOfTrailingZeros_0f7a4_49 : decode cJ6_numberOfTrailingZeros_0f7a4 49 = .ok (.iload_n 0, 1) := de_1a tJ6_numberOfTrailingZeros_0f7a4_49
def tJ6_numberOfTrailingZeros_0f7a4_50 := Bt_1 (q := 50) tJ6_numberOfTrailingZeros_0f7a4_49 rfl
theorem dJ6_numberOfTrailingZeros_0f7a4_50 : decode cJ6_numberOfTrailingZeros_0f7a4 50 = .ok (.bipush 16, 2) := de_10 tJ6_numberOfTrailingZeros_0f7a4_50 (by decide +kernel)
def tJ6_numberOfTrailingZeros_0f7a4_52 := Bt_2 (q := 52) tJ6_numberOfTrailingZeros_0f7a4_50 rfl
theorem dJ6_numberOfTrailingZeros_0f7a4_52 : decode cJ6_numberOfTrailingZeros_0f7a4 52 = .ok (.if_icmp .le 10, 3) := de_a4 tJ6_numberOfTrailingZeros_0f7a4_52 (by decide +kernel)
def tJ6_numberOfTrailingZeros_0f7a4_55 := Bt_3 (q := 55) tJ6_numberOfTrailingZeros_0f7a4_52 rfl
theorem dJ6_numberOfTrailingZeros_0f7a4_55 : decode cJ6_numberOfTrailingZeros_0f7a4 55 = .ok (.iinc 1 4, 3) := de_84 tJ6_numberOfTrailingZeros_0f7a4_55 (by decide +kernel) (by decide +kernel)
def tJ6_numberOfTrailingZeros_0f7a4_58 := Bt_3 (q := 58) tJ6_numberOfTrailingZeros_0f7a4_55 rfl
theorem dJ6_numberOfTrailingZeros_0f7a4_58 : decode cJ6_numberOfTrailingZeros_0f7a4 58 = .ok (.iload_n 0, 1) := de_1a tJ6_numberOfTrailingZeros_0f7a4_58
def tJ6_numberOfTrailingZeros_0f7a4_59 := Bt_1 (q := 59) tJ6_numberOfTrailingZeros_0f7a4_58 rfl
theorem dJ6_numberOfTrailingZeros_0f7a4_59 : decode cJ6_numberOfTrailingZeros_0f7a4 59 = .ok (.iconst 4, 1) := de_07 tJ6_numberOfTrailingZeros_0f7a4_59
def tJ6_numberOfTrailingZeros_0f7a4_60 := Bt_1 (q := 60) tJ6_numberOfTrailingZeros_0f7a4_59 rfl
theorem dJ6_numberOfTrailingZeros_0f7a4_60 : decode cJ6_numberOfTrailingZeros_0f7a4 60 = .ok (.iushr, 1) := de_7c tJ6_numberOfTrailingZeros_0f7a4_60
def tJ6_numberOfTrailingZeros_0f7a4_61 := Bt_1 (q := 61) tJ6_numberOfTrailingZeros_0f7a4_60 rfl
theorem dJ6_numberOfTrailingZeros_0f7a4_61 : decode cJ6_numberOfTrailingZeros_0f7a4 61 = .ok (.istore_n 0, 1) := de_3b tJ6_numberOfTrailingZeros_0f7a4_61
def tJ6_numberOfTrailingZeros_0f7a4_62 := Bt_1 (q := 62) tJ6_numberOfTrailingZeros_0f7a4_61 rfl
theorem dJ6_numberOfTrailingZeros_0f7a4_62 : decode cJ6_numberOfTrailingZeros_0f7a4 62 = .ok (.iload_n 0, 1) := de_1a tJ6_numberOfTrailingZeros_0f7a4_62
def tJ6_numberOfTrailingZeros_0f7a4_63 := Bt_1 (q := 63) tJ6_numberOfTrailingZeros_0f7a4_62 rfl
theorem dJ6_numberOfTrailingZeros_0f7a4_63 : decode cJ6_numberOfTrailingZeros_0f7a4 63 = .ok (.iconst 4, 1) := de_07 tJ6_numberOfTrailingZeros_0f7a4_63
def tJ6_numberOfTrailingZeros_0f7a4_64 := Bt_1 (q := 64) tJ6_numberOfTrailingZeros_0f7a4_63 rfl
theorem dJ6_numberOfTrailingZeros_0f7a4_64 : decode cJ6_numberOfTrailingZeros_0f7a4 64 = .ok (.if_icmp .le 10, 3) := de_a4 tJ6_numberOfTrailingZeros_0f7a4_64 (by decide +kernel)
def tJ6_numberOfTrailingZeros_0f7a4_67 := Bt_3 (q := 67) tJ6_numberOfTrailingZeros_0f7a4_64 rfl
theorem dJ6_numberOfTrailingZeros_0f7a4_67 : decode cJ6_numberOfTrailingZeros_0f7a4 67 = .ok (.iinc 1 2, 3) := de_84 tJ6_numberOfTrailingZeros_0f7a4_67 (by decide +kernel) (by decide +kernel)
def tJ6_numberOfTrailingZeros_0f7a4_70 := Bt_3 (q := 70) tJ6_numberOfTrailingZeros_0f7a4_67 rfl
theorem dJ6_numberOfTrailingZeros_0f7a4_70 : decode cJ6_numberOfTrailingZeros_0f7a4 70 = .ok (.iload_n 0, 1) := de_1a tJ6_numberOfTrailingZeros_0f7a4_70
def tJ6_numberOfTrailingZeros_0f7a4_71 := Bt_1 (q := 71) tJ6_numberOfTrailingZeros_0f7a4_70 rfl
theorem dJ6_numberOfTrailingZeros_0f7a4_71 : decode cJ6_numberOfTrailingZeros_0f7a4 71 = .ok (.iconst 2, 1) := de_05 tJ6_numberOfTrailingZeros_0f7a4_71
def tJ6_numberOfTrailingZeros_0f7a4_72 := Bt_1 (q := 72) tJ6_numberOfTrailingZeros_0f7a4_71 rfl
theorem dJ6_numberOfTrailingZeros_0f7a4_72 : decode cJ6_numberOfTrailingZeros_0f7a4 72 = .ok (.iushr, 1) := de_7c tJ6_numberOfTrailingZeros_0f7a4_72
def tJ6_numberOfTrailingZeros_0f7a4_73 := Bt_1 (q := 73) tJ6_numberOfTrailingZeros_0f7a4_72 rfl
theorem dJ6_numberOfTrailingZeros_0f7a4_73 : decode cJ6_numberOfTrailingZeros_0f7a4 73 = .ok (.istore_n 0, 1) := de_3b tJ6_numberOfTrailingZeros_0f7a4_73
def tJ6_numberOfTrailingZeros_0f7a4_74 := Bt_1 (q := 74) tJ6_numberOfTrailingZeros_0f7a4_73 rfl
theorem dJ6_numberOfTrailingZeros_0f7a4_74 : decode cJ6_numberOfTrailingZeros_0f7a4 74 = .ok (.iload_n 1, 1) := de_1b tJ6_numberOfTrailingZeros_0f7a4_74
def tJ6_numberOfTrailingZeros_0f7a4_75 := Bt_1 (q := 75) tJ6_numberOfTrailingZeros_0f7a4_74 rfl
theorem dJ6_numberOfTrailingZeros_0f7a4_75 : decode cJ6_numberOfTrailingZeros_0f7a4 75 = .ok (.iload_n 0, 1) := de_1a tJ6_numberOfTrailingZeros_0f7a4_75
def tJ6_numberOfTrailingZeros_0f7a4_76 := Bt_1 (q := 76) tJ6_numberOfTrailingZeros_0f7a4_75 rfl
theorem dJ6_numberOfTrailingZeros_0f7a4_76 : decode cJ6_numberOfTrailingZeros_0f7a4 76 = .ok (.iconst 1, 1) := de_04 tJ6_numberOfTrailingZeros_0f7a4_76
def tJ6_numberOfTrailingZeros_0f7a4_77 := Bt_1 (q := 77) tJ6_numberOfTrailingZeros_0f7a4_76 rfl
theorem dJ6_numberOfTrailingZeros_0f7a4_77 : decode cJ6_numberOfTrailingZeros_0f7a4 77 = .ok (.iushr, 1) := de_7c tJ6_numberOfTrailingZeros_0f7a4_77
def tJ6_numberOfTrailingZeros_0f7a4_78 := Bt_1 (q := 78) tJ6_numberOfTrailingZeros_0f7a4_77 rfl
theorem dJ6_numberOfTrailingZeros_0f7a4_78 : decode cJ6_numberOfTrailingZeros_0f7a4 78 = .ok (.iadd, 1) := de_60 tJ6_numberOfTrailingZeros_0f7a4_78
def tJ6_numberOfTrailingZeros_0f7a4_79 := Bt_1 (q := 79) tJ6_numberOfTrailingZeros_0f7a4_78 rfl
theorem dJ6_numberOfTrailingZeros_0f7a4_79 : decode cJ6_numberOfTrailingZeros_0f7a4 79 = .ok (.ireturn, 1) := de_ac tJ6_numberOfTrailingZeros_0f7a4_79
def tJ6_bitCount_0f7a4_0 := Bt_0 cJ6_bitCount_0f7a4
theorem dJ6_bitCount_0f7a4_0 : decode cJ6_bitCount_0f7a4 0 = .ok (.iload_n 0, 1) := de_1a tJ6_bitCount_0f7a4_0
def tJ6_bitCount_0f7a4_1 := Bt_1 (q := 1) tJ6_bitCount_0f7a4_0 rfl
theorem dJ6_bitCount_0f7a4_1 : decode cJ6_bitCount_0f7a4 1 = .ok (.iload_n 0, 1) := de_1a tJ6_bitCount_0f7a4_1
def tJ6_bitCount_0f7a4_2 := Bt_1 (q := 2) tJ6_bitCount_0f7a4_1 rfl
theorem dJ6_bitCount_0f7a4_2 : decode cJ6_bitCount_0f7a4 2 = .ok (.iconst 1, 1) := de_04 tJ6_bitCount_0f7a4_2
def tJ6_bitCount_0f7a4_3 := Bt_1 (q := 3) tJ6_bitCount_0f7a4_2 rfl
theorem dJ6_bitCount_0f7a4_3 : decode cJ6_bitCount_0f7a4 3 = .ok (.iushr, 1) := de_7c tJ6_bitCount_0f7a4_3
def tJ6_bitCount_0f7a4_4 := Bt_1 (q := 4) tJ6_bitCount_0f7a4_3 rfl
theorem dJ6_bitCount_0f7a4_4 : decode cJ6_bitCount_0f7a4 4 = .ok (.ldc_w 265, 3) := de_13 tJ6_bitCount_0f7a4_4 (by decide +kernel)
def tJ6_bitCount_0f7a4_7 := Bt_3 (q := 7) tJ6_bitCount_0f7a4_4 rfl
theorem dJ6_bitCount_0f7a4_7 : decode cJ6_bitCount_0f7a4 7 = .ok (.iand, 1) := de_7e tJ6_bitCount_0f7a4_7
def tJ6_bitCount_0f7a4_8 := Bt_1 (q := 8) tJ6_bitCount_0f7a4_7 rfl
theorem dJ6_bitCount_0f7a4_8 : decode cJ6_bitCount_0f7a4 8 = .ok (.isub, 1) := de_64 tJ6_bitCount_0f7a4_8
def tJ6_bitCount_0f7a4_9 := Bt_1 (q := 9) tJ6_bitCount_0f7a4_8 rfl
theorem dJ6_bitCount_0f7a4_9 : decode cJ6_bitCount_0f7a4 9 = .ok (.istore_n 0, 1) := de_3b tJ6_bitCount_0f7a4_9
def tJ6_bitCount_0f7a4_10 := Bt_1 (q := 10) tJ6_bitCount_0f7a4_9 rfl
theorem dJ6_bitCount_0f7a4_10 : decode cJ6_bitCount_0f7a4 10 = .ok (.iload_n 0, 1) := de_1a tJ6_bitCount_0f7a4_10
def tJ6_bitCount_0f7a4_11 := Bt_1 (q := 11) tJ6_bitCount_0f7a4_10 rfl
theorem dJ6_bitCount_0f7a4_11 : decode cJ6_bitCount_0f7a4 11 = .ok (.ldc_w 266, 3) := de_13 tJ6_bitCount_0f7a4_11 (by decide +kernel)
def tJ6_bitCount_0f7a4_14 := Bt_3 (q := 14) tJ6_bitCount_0f7a4_11 rfl
theorem dJ6_bitCount_0f7a4_14 : decode cJ6_bitCount_0f7a4 14 = .ok (.iand, 1) := de_7e tJ6_bitCount_0f7a4_14
def tJ6_bitCount_0f7a4_15 := Bt_1 (q := 15) tJ6_bitCount_0f7a4_14 rfl
theorem dJ6_bitCount_0f7a4_15 : decode cJ6_bitCount_0f7a4 15 = .ok (.iload_n 0, 1) := de_1a tJ6_bitCount_0f7a4_15
def tJ6_bitCount_0f7a4_16 := Bt_1 (q := 16) tJ6_bitCount_0f7a4_15 rfl
theorem dJ6_bitCount_0f7a4_16 : decode cJ6_bitCount_0f7a4 16 = .ok (.iconst 2, 1) := de_05 tJ6_bitCount_0f7a4_16
def tJ6_bitCount_0f7a4_17 := Bt_1 (q := 17) tJ6_bitCount_0f7a4_16 rfl
theorem dJ6_bitCount_0f7a4_17 : decode cJ6_bitCount_0f7a4 17 = .ok (.iushr, 1) := de_7c tJ6_bitCount_0f7a4_17
def tJ6_bitCount_0f7a4_18 := Bt_1 (q := 18) tJ6_bitCount_0f7a4_17 rfl
theorem dJ6_bitCount_0f7a4_18 : decode cJ6_bitCount_0f7a4 18 = .ok (.ldc_w 266, 3) := de_13 tJ6_bitCount_0f7a4_18 (by decide +kernel)
def tJ6_bitCount_0f7a4_21 := Bt_3 (q := 21) tJ6_bitCount_0f7a4_18 rfl
theorem dJ6_bitCount_0f7a4_21 : decode cJ6_bitCount_0f7a4 21 = .ok (.iand, 1) := de_7e tJ6_bitCount_0f7a4_21
def tJ6_bitCount_0f7a4_22 := Bt_1 (q := 22) tJ6_bitCount_0f7a4_21 rfl
theorem dJ6_bitCount_0f7a4_22 : decode cJ6_bitCount_0f7a4 22 = .ok (.iadd, 1) := de_60 tJ6_bitCount_0f7a4_22
def tJ6_bitCount_0f7a4_23 := Bt_1 (q := 23) tJ6_bitCount_0f7a4_22 rfl
theorem dJ6_bitCount_0f7a4_23 : decode cJ6_bitCount_0f7a4 23 = .ok (.istore_n 0, 1) := de_3b tJ6_bitCount_0f7a4_23
def tJ6_bitCount_0f7a4_24 := Bt_1 (q := 24) tJ6_bitCount_0f7a4_23 rfl
theorem dJ6_bitCount_0f7a4_24 : decode cJ6_bitCount_0f7a4 24 = .ok (.iload_n 0, 1) := de_1a tJ6_bitCount_0f7a4_24
def tJ6_bitCount_0f7a4_25 := Bt_1 (q := 25) tJ6_bitCount_0f7a4_24 rfl
theorem dJ6_bitCount_0f7a4_25 : decode cJ6_bitCount_0f7a4 25 = .ok (.iload_n 0, 1) := de_1a tJ6_bitCount_0f7a4_25
def tJ6_bitCount_0f7a4_26 := Bt_1 (q := 26) tJ6_bitCount_0f7a4_25 rfl
theorem dJ6_bitCount_0f7a4_26 : decode cJ6_bitCount_0f7a4 26 = .ok (.iconst 4, 1) := de_07 tJ6_bitCount_0f7a4_26
def tJ6_bitCount_0f7a4_27 := Bt_1 (q := 27) tJ6_bitCount_0f7a4_26 rfl
theorem dJ6_bitCount_0f7a4_27 : decode cJ6_bitCount_0f7a4 27 = .ok (.iushr, 1) := de_7c tJ6_bitCount_0f7a4_27
def tJ6_bitCount_0f7a4_28 := Bt_1 (q := 28) tJ6_bitCount_0f7a4_27 rfl
theorem dJ6_bitCount_0f7a4_28 : decode cJ6_bitCount_0f7a4 28 = .ok (.iadd, 1) := de_60 tJ6_bitCount_0f7a4_28
def tJ6_bitCount_0f7a4_29 := Bt_1 (q := 29) tJ6_bitCount_0f7a4_28 rfl
theorem dJ6_bitCount_0f7a4_29 : decode cJ6_bitCount_0f7a4 29 = .ok (.ldc_w 267, 3) := de_13 tJ6_bitCount_0f7a4_29 (by decide +kernel)
def tJ6_bitCount_0f7a4_32 := Bt_3 (q := 32) tJ6_bitCount_0f7a4_29 rfl
theorem dJ6_bitCount_0f7a4_32 : decode cJ6_bitCount_0f7a4 32 = .ok (.iand, 1) := de_7e tJ6_bitCount_0f7a4_32
def tJ6_bitCount_0f7a4_33 := Bt_1 (q := 33) tJ6_bitCount_0f7a4_32 rfl
theorem dJ6_bitCount_0f7a4_33 : decode cJ6_bitCount_0f7a4 33 = .ok (.istore_n 0, 1) := de_3b tJ6_bitCount_0f7a4_33
def tJ6_bitCount_0f7a4_34 := Bt_1 (q := 34) tJ6_bitCount_0f7a4_33 rfl
theorem dJ6_bitCount_0f7a4_34 : decode cJ6_bitCount_0f7a4 34 = .ok (.iload_n 0, 1) := de_1a tJ6_bitCount_0f7a4_34
def tJ6_bitCount_0f7a4_35 := Bt_1 (q := 35) tJ6_bitCount_0f7a4_34 rfl
theorem dJ6_bitCount_0f7a4_35 : decode cJ6_bitCount_0f7a4 35 = .ok (.iload_n 0, 1) := de_1a tJ6_bitCount_0f7a4_35
def tJ6_bitCount_0f7a4_36 := Bt_1 (q := 36) tJ6_bitCount_0f7a4_35 rfl
theorem dJ6_bitCount_0f7a4_36 : decode cJ6_bitCount_0f7a4 36 = .ok (.bipush 8, 2) := de_10 tJ6_bitCount_0f7a4_36 (by decide +kernel)
def tJ6_bitCount_0f7a4_38 := Bt_2 (q := 38) tJ6_bitCount_0f7a4_36 rfl
theorem dJ6_bitCount_0f7a4_38 : decode cJ6_bitCount_0f7a4 38 = .ok (.iushr, 1) := de_7c tJ6_bitCount_0f7a4_38
def tJ6_bitCount_0f7a4_39 := Bt_1 (q := 39) tJ6_bitCount_0f7a4_38 rfl
theorem dJ6_bitCount_0f7a4_39 : decode cJ6_bitCount_0f7a4 39 = .ok (.iadd, 1) := de_60 tJ6_bitCount_0f7a4_39
def tJ6_bitCount_0f7a4_40 := Bt_1 (q := 40) tJ6_bitCount_0f7a4_39 rfl
theorem dJ6_bitCount_0f7a4_40 : decode cJ6_bitCount_0f7a4 40 = .ok (.istore_n 0, 1) := de_3b tJ6_bitCount_0f7a4_40
def tJ6_bitCount_0f7a4_41 := Bt_1 (q := 41) tJ6_bitCount_0f7a4_40 rfl
theorem dJ6_bitCount_0f7a4_41 : decode cJ6_bitCount_0f7a4 41 = .ok (.iload_n 0, 1) := de_1a tJ6_bitCount_0f7a4_41
def tJ6_bitCount_0f7a4_42 := Bt_1 (q := 42) tJ6_bitCount_0f7a4_41 rfl
theorem dJ6_bitCount_0f7a4_42 : decode cJ6_bitCount_0f7a4 42 = .ok (.iload_n 0, 1) := de_1a tJ6_bitCount_0f7a4_42
def tJ6_bitCount_0f7a4_43 := Bt_1 (q := 43) tJ6_bitCount_0f7a4_42 rfl
theorem dJ6_bitCount_0f7a4_43 : decode cJ6_bitCount_0f7a4 43 = .ok (.bipush 16, 2) := de_10 tJ6_bitCount_0f7a4_43 (by decide +kernel)
def tJ6_bitCount_0f7a4_45 := Bt_2 (q := 45) tJ6_bitCount_0f7a4_43 rfl
theorem dJ6_bitCount_0f7a4_45 : decode cJ6_bitCount_0f7a4 45 = .ok (.iushr, 1) := de_7c tJ6_bitCount_0f7a4_45
def tJ6_bitCount_0f7a4_46 := Bt_1 (q := 46) tJ6_bitCount_0f7a4_45 rfl
theorem dJ6_bitCount_0f7a4_46 : decode cJ6_bitCount_0f7a4 46 = .ok (.iadd, 1) := de_60 tJ6_bitCount_0f7a4_46
def tJ6_bitCount_0f7a4_47 := Bt_1 (q := 47) tJ6_bitCount_0f7a4_46 rfl
theorem dJ6_bitCount_0f7a4_47 : decode cJ6_bitCount_0f7a4 47 = .ok (.istore_n 0, 1) := de_3b tJ6_bitCount_0f7a4_47
def tJ6_bitCount_0f7a4_48 := Bt_1 (q := 48) tJ6_bitCount_0f7a4_47 rfl
theorem dJ6_bitCount_0f7a4_48 : decode cJ6_bitCount_0f7a4 48 = .ok (.iload_n 0, 1) := de_1a tJ6_bitCount_0f7a4_48
def tJ6_bitCount_0f7a4_49 := Bt_1 (q := 49) tJ6_bitCount_0f7a4_48 rfl
theorem dJ6_bitCount_0f7a4_49 : decode cJ6_bitCount_0f7a4 49 = .ok (.bipush 63, 2) := de_10 tJ6_bitCount_0f7a4_49 (by decide +kernel)
def tJ6_bitCount_0f7a4_51 := Bt_2 (q := 51) tJ6_bitCount_0f7a4_49 rfl
theorem dJ6_bitCount_0f7a4_51 : decode cJ6_bitCount_0f7a4 51 = .ok (.iand, 1) := de_7e tJ6_bitCount_0f7a4_51
def tJ6_bitCount_0f7a4_52 := Bt_1 (q := 52) tJ6_bitCount_0f7a4_51 rfl
theorem dJ6_bitCount_0f7a4_52 : decode cJ6_bitCount_0f7a4 52 = .ok (.ireturn, 1) := de_ac tJ6_bitCount_0f7a4_52
def tJ13_compare_74951_0 := Bt_0 cJ13_compare_74951
theorem dJ13_compare_74951_0 : decode cJ13_compare_74951 0 = .ok (.lload_n 0, 1) := de_1e tJ13_compare_74951_0
def tJ13_compare_74951_1 := Bt_1 (q := 1) tJ13_compare_74951_0 rfl
theorem dJ13_compare_74951_1 : decode cJ13_compare_74951 1 = .ok (.lload_n 2, 1) := de_20 tJ13_compare_74951_1
def tJ13_compare_74951_2 := Bt_1 (q := 2) tJ13_compare_74951_1 rfl
theorem dJ13_compare_74951_2 : decode cJ13_compare_74951 2 = .ok (.lcmp, 1) := de_94 tJ13_compare_74951_2
def tJ13_compare_74951_3 := Bt_1 (q := 3) tJ13_compare_74951_2 rfl
theorem dJ13_compare_74951_3 : decode cJ13_compare_74951 3 = .ok (.ifCond .ge 7, 3) := de_9c tJ13_compare_74951_3 (by decide +kernel)
def tJ13_compare_74951_6 := Bt_3 (q := 6) tJ13_compare_74951_3 rfl
theorem dJ13_compare_74951_6 : decode cJ13_compare_74951 6 = .ok (.iconst (-1), 1) := de_02 tJ13_compare_74951_6
def tJ13_compare_74951_7 := Bt_1 (q := 7) tJ13_compare_74951_6 rfl
theorem dJ13_compare_74951_7 : decode cJ13_compare_74951 7 = .ok (.goto 14, 3) := de_a7 tJ13_compare_74951_7 (by decide +kernel)
def tJ13_compare_74951_10 := Bt_3 (q := 10) tJ13_compare_74951_7 rfl
theorem dJ13_compare_74951_10 : decode cJ13_compare_74951 10 = .ok (.lload_n 0, 1) := de_1e tJ13_compare_74951_10
def tJ13_compare_74951_11 := Bt_1 (q := 11) tJ13_compare_74951_10 rfl
theorem dJ13_compare_74951_11 : decode cJ13_compare_74951 11 = .ok (.lload_n 2, 1) := de_20 tJ13_compare_74951_11
def tJ13_compare_74951_12 := Bt_1 (q := 12) tJ13_compare_74951_11 rfl
theorem dJ13_compare_74951_12 : decode cJ13_compare_74951 12 = .ok (.lcmp, 1) := de_94 tJ13_compare_74951_12
def tJ13_compare_74951_13 := Bt_1 (q := 13) tJ13_compare_74951_12 rfl
theorem dJ13_compare_74951_13 : decode cJ13_compare_74951 13 = .ok (.ifCond .ne 7, 3) := de_9a tJ13_compare_74951_13 (by decide +kernel)
def tJ13_compare_74951_16 := Bt_3 (q := 16) tJ13_compare_74951_13 rfl
theorem dJ13_compare_74951_16 : decode cJ13_compare_74951 16 = .ok (.iconst 0, 1) := de_03 tJ13_compare_74951_16
def tJ13_compare_74951_17 := Bt_1 (q := 17) tJ13_compare_74951_16 rfl
theorem dJ13_compare_74951_17 : decode cJ13_compare_74951 17 = .ok (.goto 4, 3) := de_a7 tJ13_compare_74951_17 (by decide +kernel)
def tJ13_compare_74951_20 := Bt_3 (q := 20) tJ13_compare_74951_17 rfl
theorem dJ13_compare_74951_20 : decode cJ13_compare_74951 20 = .ok (.iconst 1, 1) := de_04 tJ13_compare_74951_20
def tJ13_compare_74951_21 := Bt_1 (q := 21) tJ13_compare_74951_20 rfl
theorem dJ13_compare_74951_21 : decode cJ13_compare_74951 21 = .ok (.ireturn, 1) := de_ac tJ13_compare_74951_21
def tJ9_abs_067f4_0 := Bt_0 cJ9_abs_067f4
theorem dJ9_abs_067f4_0 : decode cJ9_abs_067f4 0 = .ok (.lload_n 0, 1) := de_1e tJ9_abs_067f4_0
def tJ9_abs_067f4_1 := Bt_1 (q := 1) tJ9_abs_067f4_0 rfl
theorem dJ9_abs_067f4_1 : decode cJ9_abs_067f4 1 = .ok (.lconst 0, 1) := de_09 tJ9_abs_067f4_1
def tJ9_abs_067f4_2 := Bt_1 (q := 2) tJ9_abs_067f4_1 rfl
theorem dJ9_abs_067f4_2 : decode cJ9_abs_067f4 2 = .ok (.lcmp, 1) := de_94 tJ9_abs_067f4_2
def tJ9_abs_067f4_3 := Bt_1 (q := 3) tJ9_abs_067f4_2 rfl
theorem dJ9_abs_067f4_3 : decode cJ9_abs_067f4 3 = .ok (.ifCond .ge 8, 3) := de_9c tJ9_abs_067f4_3 (by decide +kernel)
def tJ9_abs_067f4_6 := Bt_3 (q := 6) tJ9_abs_067f4_3 rfl
theorem dJ9_abs_067f4_6 : decode cJ9_abs_067f4 6 = .ok (.lload_n 0, 1) := de_1e tJ9_abs_067f4_6
def tJ9_abs_067f4_7 := Bt_1 (q := 7) tJ9_abs_067f4_6 rfl
theorem dJ9_abs_067f4_7 : decode cJ9_abs_067f4 7 = .ok (.lneg, 1) := de_75 tJ9_abs_067f4_7
def tJ9_abs_067f4_8 := Bt_1 (q := 8) tJ9_abs_067f4_7 rfl
theorem dJ9_abs_067f4_8 : decode cJ9_abs_067f4 8 = .ok (.goto 4, 3) := de_a7 tJ9_abs_067f4_8 (by decide +kernel)
def tJ9_abs_067f4_11 := Bt_3 (q := 11) tJ9_abs_067f4_8 rfl
theorem dJ9_abs_067f4_11 : decode cJ9_abs_067f4 11 = .ok (.lload_n 0, 1) := de_1e tJ9_abs_067f4_11
def tJ9_abs_067f4_12 := Bt_1 (q := 12) tJ9_abs_067f4_11 rfl
theorem dJ9_abs_067f4_12 : decode cJ9_abs_067f4 12 = .ok (.lreturn, 1) := de_ad tJ9_abs_067f4_12
def tJ9_max_7cf53_0 := Bt_0 cJ9_max_7cf53
theorem dJ9_max_7cf53_0 : decode cJ9_max_7cf53 0 = .ok (.iload_n 0, 1) := de_1a tJ9_max_7cf53_0
def tJ9_max_7cf53_1 := Bt_1 (q := 1) tJ9_max_7cf53_0 rfl
theorem dJ9_max_7cf53_1 : decode cJ9_max_7cf53 1 = .ok (.iload_n 1, 1) := de_1b tJ9_max_7cf53_1
def tJ9_max_7cf53_2 := Bt_1 (q := 2) tJ9_max_7cf53_1 rfl
theorem dJ9_max_7cf53_2 : decode cJ9_max_7cf53 2 = .ok (.if_icmp .lt 7, 3) := de_a1 tJ9_max_7cf53_2 (by decide +kernel)
def tJ9_max_7cf53_5 := Bt_3 (q := 5) tJ9_max_7cf53_2 rfl
theorem dJ9_max_7cf53_5 : decode cJ9_max_7cf53 5 = .ok (.iload_n 0, 1) := de_1a tJ9_max_7cf53_5
def tJ9_max_7cf53_6 := Bt_1 (q := 6) tJ9_max_7cf53_5 rfl
theorem dJ9_max_7cf53_6 : decode cJ9_max_7cf53 6 = .ok (.goto 4, 3) := de_a7 tJ9_max_7cf53_6 (by decide +kernel)
def tJ9_max_7cf53_9 := Bt_3 (q := 9) tJ9_max_7cf53_6 rfl
theorem dJ9_max_7cf53_9 : decode cJ9_max_7cf53 9 = .ok (.iload_n 1, 1) := de_1b tJ9_max_7cf53_9
def tJ9_max_7cf53_10 := Bt_1 (q := 10) tJ9_max_7cf53_9 rfl
theorem dJ9_max_7cf53_10 : decode cJ9_max_7cf53 10 = .ok (.ireturn, 1) := de_ac tJ9_max_7cf53_10
def tJ9_max_f86c9_0 := Bt_0 cJ9_max_f86c9
theorem dJ9_max_f86c9_0 : decode cJ9_max_f86c9 0 = .ok (.lload_n 0, 1) := de_1e tJ9_max_f86c9_0
def tJ9_max_f86c9_1 := Bt_1 (q := 1) tJ9_max_f86c9_0 rfl
theorem dJ9_max_f86c9_1 : decode cJ9_max_f86c9 1 = .ok (.lload_n 2, 1) := de_20 tJ9_max_f86c9_1
def tJ9_max_f86c9_2 := Bt_1 (q := 2) tJ9_max_f86c9_1 rfl
theorem dJ9_max_f86c9_2 : decode cJ9_max_f86c9 2 = .ok (.lcmp, 1) := de_94 tJ9_max_f86c9_2
def tJ9_max_f86c9_3 := Bt_1 (q := 3) tJ9_max_f86c9_2 rfl
theorem dJ9_max_f86c9_3 : decode cJ9_max_f86c9 3 = .ok (.ifCond .lt 7, 3) := de_9b tJ9_max_f86c9_3 (by decide +kernel)
def tJ9_max_f86c9_6 := Bt_3 (q := 6) tJ9_max_f86c9_3 rfl
theorem dJ9_max_f86c9_6 : decode cJ9_max_f86c9 6 = .ok (.lload_n 0, 1) := de_1e tJ9_max_f86c9_6
def tJ9_max_f86c9_7 := Bt_1 (q := 7) tJ9_max_f86c9_6 rfl
theorem dJ9_max_f86c9_7 : decode cJ9_max_f86c9 7 = .ok (.goto 4, 3) := de_a7 tJ9_max_f86c9_7 (by decide +kernel)
def tJ9_max_f86c9_10 := Bt_3 (q := 10) tJ9_max_f86c9_7 rfl
theorem dJ9_max_f86c9_10 : decode cJ9_max_f86c9 10 = .ok (.lload_n 2, 1) := de_20 tJ9_max_f86c9_10
def tJ9_max_f86c9_11 := Bt_1 (q := 11) tJ9_max_f86c9_10 rfl
theorem dJ9_max_f86c9_11 : decode cJ9_max_f86c9 11 = .ok (.lreturn, 1) := de_ad tJ9_max_f86c9_11
def tJ9_min_7cf53_0 := Bt_0 cJ9_min_7cf53
theorem dJ9_min_7cf53_0 : decode cJ9_min_7cf53 0 = .ok (.iload_n 0, 1) := de_1a tJ9_min_7cf53_0
def tJ9_min_7cf53_1 := Bt_1 (q := 1) tJ9_min_7cf53_0 rfl
theorem dJ9_min_7cf53_1 : decode cJ9_min_7cf53 1 = .ok (.iload_n 1, 1) := de_1b tJ9_min_7cf53_1
def tJ9_min_7cf53_2 := Bt_1 (q := 2) tJ9_min_7cf53_1 rfl
theorem dJ9_min_7cf53_2 : decode cJ9_min_7cf53 2 = .ok (.if_icmp .gt 7, 3) := de_a3 tJ9_min_7cf53_2 (by decide +kernel)
def tJ9_min_7cf53_5 := Bt_3 (q := 5) tJ9_min_7cf53_2 rfl
theorem dJ9_min_7cf53_5 : decode cJ9_min_7cf53 5 = .ok (.iload_n 0, 1) := de_1a tJ9_min_7cf53_5
def tJ9_min_7cf53_6 := Bt_1 (q := 6) tJ9_min_7cf53_5 rfl
theorem dJ9_min_7cf53_6 : decode cJ9_min_7cf53 6 = .ok (.goto 4, 3) := de_a7 tJ9_min_7cf53_6 (by decide +kernel)
def tJ9_min_7cf53_9 := Bt_3 (q := 9) tJ9_min_7cf53_6 rfl
theorem dJ9_min_7cf53_9 : decode cJ9_min_7cf53 9 = .ok (.iload_n 1, 1) := de_1b tJ9_min_7cf53_9
def tJ9_min_7cf53_10 := Bt_1 (q := 10) tJ9_min_7cf53_9 rfl
theorem dJ9_min_7cf53_10 : decode cJ9_min_7cf53 10 = .ok (.ireturn, 1) := de_ac tJ9_min_7cf53_10
def tJ9_min_f86c9_0 := Bt_0 cJ9_min_f86c9
theorem dJ9_min_f86c9_0 : decode cJ9_min_f86c9 0 = .ok (.lload_n 0, 1) := de_1e tJ9_min_f86c9_0
def tJ9_min_f86c9_1 := Bt_1 (q := 1) tJ9_min_f86c9_0 rfl
theorem dJ9_min_f86c9_1 : decode cJ9_min_f86c9 1 = .ok (.lload_n 2, 1) := de_20 tJ9_min_f86c9_1
def tJ9_min_f86c9_2 := Bt_1 (q := 2) tJ9_min_f86c9_1 rfl
theorem dJ9_min_f86c9_2 : decode cJ9_min_f86c9 2 = .ok (.lcmp, 1) := de_94 tJ9_min_f86c9_2
def tJ9_min_f86c9_3 := Bt_1 (q := 3) tJ9_min_f86c9_2 rfl
theorem dJ9_min_f86c9_3 : decode cJ9_min_f86c9 3 = .ok (.ifCond .gt 7, 3) := de_9d tJ9_min_f86c9_3 (by decide +kernel)
def tJ9_min_f86c9_6 := Bt_3 (q := 6) tJ9_min_f86c9_3 rfl
theorem dJ9_min_f86c9_6 : decode cJ9_min_f86c9 6 = .ok (.lload_n 0, 1) := de_1e tJ9_min_f86c9_6
def tJ9_min_f86c9_7 := Bt_1 (q := 7) tJ9_min_f86c9_6 rfl
theorem dJ9_min_f86c9_7 : decode cJ9_min_f86c9 7 = .ok (.goto 4, 3) := de_a7 tJ9_min_f86c9_7 (by decide +kernel)
def tJ9_min_f86c9_10 := Bt_3 (q := 10) tJ9_min_f86c9_7 rfl
theorem dJ9_min_f86c9_10 : decode cJ9_min_f86c9 10 = .ok (.lload_n 2, 1) := de_20 tJ9_min_f86c9_10
def tJ9_min_f86c9_11 := Bt_1 (q := 11) tJ9_min_f86c9_10 rfl
theorem dJ9_min_f86c9_11 : decode cJ9_min_f86c9 11 = .ok (.lreturn, 1) := de_ad tJ9_min_f86c9_11
def tJ7_fill_d0a16_0 := Bt_0 cJ7_fill_d0a16
theorem dJ7_fill_d0a16_0 : decode cJ7_fill_d0a16 0 = .ok (.iconst 0, 1) := de_03 tJ7_fill_d0a16_0
def tJ7_fill_d0a16_1 := Bt_1 (q := 1) tJ7_fill_d0a16_0 rfl
theorem dJ7_fill_d0a16_1 : decode cJ7_fill_d0a16 1 = .ok (.istore_n 3, 1) := de_3e tJ7_fill_d0a16_1
def tJ7_fill_d0a16_2 := Bt_1 (q := 2) tJ7_fill_d0a16_1 rfl
theorem dJ7_fill_d0a16_2 : decode cJ7_fill_d0a16 2 = .ok (.aload_n 0, 1) := de_2a tJ7_fill_d0a16_2
def tJ7_fill_d0a16_3 := Bt_1 (q := 3) tJ7_fill_d0a16_2 rfl
theorem dJ7_fill_d0a16_3 : decode cJ7_fill_d0a16 3 = .ok (.arraylength, 1) := de_be tJ7_fill_d0a16_3
def tJ7_fill_d0a16_4 := Bt_1 (q := 4) tJ7_fill_d0a16_3 rfl
theorem dJ7_fill_d0a16_4 : decode cJ7_fill_d0a16 4 = .ok (.istore 4, 2) := de_36 tJ7_fill_d0a16_4 (by decide +kernel)
def tJ7_fill_d0a16_6 := Bt_2 (q := 6) tJ7_fill_d0a16_4 rfl
theorem dJ7_fill_d0a16_6 : decode cJ7_fill_d0a16 6 = .ok (.iload_n 3, 1) := de_1d tJ7_fill_d0a16_6
def tJ7_fill_d0a16_7 := Bt_1 (q := 7) tJ7_fill_d0a16_6 rfl
theorem dJ7_fill_d0a16_7 : decode cJ7_fill_d0a16 7 = .ok (.iload 4, 2) := de_15 tJ7_fill_d0a16_7 (by decide +kernel)
def tJ7_fill_d0a16_9 := Bt_2 (q := 9) tJ7_fill_d0a16_7 rfl
theorem dJ7_fill_d0a16_9 : decode cJ7_fill_d0a16 9 = .ok (.if_icmp .ge 13, 3) := de_a2 tJ7_fill_d0a16_9 (by decide +kernel)
def tJ7_fill_d0a16_12 := Bt_3 (q := 12) tJ7_fill_d0a16_9 rfl
theorem dJ7_fill_d0a16_12 : decode cJ7_fill_d0a16 12 = .ok (.aload_n 0, 1) := de_2a tJ7_fill_d0a16_12
def tJ7_fill_d0a16_13 := Bt_1 (q := 13) tJ7_fill_d0a16_12 rfl
theorem dJ7_fill_d0a16_13 : decode cJ7_fill_d0a16 13 = .ok (.iload_n 3, 1) := de_1d tJ7_fill_d0a16_13
def tJ7_fill_d0a16_14 := Bt_1 (q := 14) tJ7_fill_d0a16_13 rfl
theorem dJ7_fill_d0a16_14 : decode cJ7_fill_d0a16 14 = .ok (.lload_n 1, 1) := de_1f tJ7_fill_d0a16_14
def tJ7_fill_d0a16_15 := Bt_1 (q := 15) tJ7_fill_d0a16_14 rfl
theorem dJ7_fill_d0a16_15 : decode cJ7_fill_d0a16 15 = .ok (.lastore, 1) := de_50 tJ7_fill_d0a16_15
def tJ7_fill_d0a16_16 := Bt_1 (q := 16) tJ7_fill_d0a16_15 rfl
theorem dJ7_fill_d0a16_16 : decode cJ7_fill_d0a16 16 = .ok (.iinc 3 1, 3) := de_84 tJ7_fill_d0a16_16 (by decide +kernel) (by decide +kernel)
def tJ7_fill_d0a16_19 := Bt_3 (q := 19) tJ7_fill_d0a16_16 rfl
theorem dJ7_fill_d0a16_19 : decode cJ7_fill_d0a16 19 = .ok (.goto (-13), 3) := de_a7 tJ7_fill_d0a16_19 (by decide +kernel)
def tJ7_fill_d0a16_22 := Bt_3 (q := 22) tJ7_fill_d0a16_19 rfl
theorem dJ7_fill_d0a16_22 : decode cJ7_fill_d0a16 22 = .ok (.return_, 1) := de_b1 tJ7_fill_d0a16_22
def tJ7_fill_53178_0 := Bt_0 cJ7_fill_53178
theorem dJ7_fill_53178_0 : decode cJ7_fill_53178 0 = .ok (.iconst 0, 1) := de_03 tJ7_fill_53178_0
def tJ7_fill_53178_1 := Bt_1 (q := 1) tJ7_fill_53178_0 rfl
theorem dJ7_fill_53178_1 : decode cJ7_fill_53178 1 = .ok (.istore_n 2, 1) := de_3d tJ7_fill_53178_1
def tJ7_fill_53178_2 := Bt_1 (q := 2) tJ7_fill_53178_1 rfl
theorem dJ7_fill_53178_2 : decode cJ7_fill_53178 2 = .ok (.aload_n 0, 1) := de_2a tJ7_fill_53178_2
def tJ7_fill_53178_3 := Bt_1 (q := 3) tJ7_fill_53178_2 rfl
theorem dJ7_fill_53178_3 : decode cJ7_fill_53178 3 = .ok (.arraylength, 1) := de_be tJ7_fill_53178_3
def tJ7_fill_53178_4 := Bt_1 (q := 4) tJ7_fill_53178_3 rfl
theorem dJ7_fill_53178_4 : decode cJ7_fill_53178 4 = .ok (.istore_n 3, 1) := de_3e tJ7_fill_53178_4
def tJ7_fill_53178_5 := Bt_1 (q := 5) tJ7_fill_53178_4 rfl
theorem dJ7_fill_53178_5 : decode cJ7_fill_53178 5 = .ok (.iload_n 2, 1) := de_1c tJ7_fill_53178_5
def tJ7_fill_53178_6 := Bt_1 (q := 6) tJ7_fill_53178_5 rfl
theorem dJ7_fill_53178_6 : decode cJ7_fill_53178 6 = .ok (.iload_n 3, 1) := de_1d tJ7_fill_53178_6
def tJ7_fill_53178_7 := Bt_1 (q := 7) tJ7_fill_53178_6 rfl
theorem dJ7_fill_53178_7 : decode cJ7_fill_53178 7 = .ok (.if_icmp .ge 13, 3) := de_a2 tJ7_fill_53178_7 (by decide +kernel)
def tJ7_fill_53178_10 := Bt_3 (q := 10) tJ7_fill_53178_7 rfl
theorem dJ7_fill_53178_10 : decode cJ7_fill_53178 10 = .ok (.aload_n 0, 1) := de_2a tJ7_fill_53178_10
def tJ7_fill_53178_11 := Bt_1 (q := 11) tJ7_fill_53178_10 rfl
theorem dJ7_fill_53178_11 : decode cJ7_fill_53178 11 = .ok (.iload_n 2, 1) := de_1c tJ7_fill_53178_11
def tJ7_fill_53178_12 := Bt_1 (q := 12) tJ7_fill_53178_11 rfl
theorem dJ7_fill_53178_12 : decode cJ7_fill_53178 12 = .ok (.iload_n 1, 1) := de_1b tJ7_fill_53178_12
def tJ7_fill_53178_13 := Bt_1 (q := 13) tJ7_fill_53178_12 rfl
theorem dJ7_fill_53178_13 : decode cJ7_fill_53178 13 = .ok (.iastore, 1) := de_4f tJ7_fill_53178_13
def tJ7_fill_53178_14 := Bt_1 (q := 14) tJ7_fill_53178_13 rfl
theorem dJ7_fill_53178_14 : decode cJ7_fill_53178 14 = .ok (.iinc 2 1, 3) := de_84 tJ7_fill_53178_14 (by decide +kernel) (by decide +kernel)
def tJ7_fill_53178_17 := Bt_3 (q := 17) tJ7_fill_53178_14 rfl
theorem dJ7_fill_53178_17 : decode cJ7_fill_53178 17 = .ok (.goto (-12), 3) := de_a7 tJ7_fill_53178_17 (by decide +kernel)
def tJ7_fill_53178_20 := Bt_3 (q := 20) tJ7_fill_53178_17 rfl
theorem dJ7_fill_53178_20 : decode cJ7_fill_53178 20 = .ok (.return_, 1) := de_b1 tJ7_fill_53178_20
