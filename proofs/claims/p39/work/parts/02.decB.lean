def tX9_init_0 := Bt_0 cX9_init
theorem dX9_init_0 : decode cX9_init 0 = .ok (.aload_n 0, 1) := de_2a tX9_init_0
def tX9_init_1 := Bt_1 (q := 1) tX9_init_0 rfl
theorem dX9_init_1 : decode cX9_init 1 = .ok (.invokespecial 3, 3) := de_b7 tX9_init_1 (by decide +kernel)
def tX9_init_4 := Bt_3 (q := 4) tX9_init_1 rfl
theorem dX9_init_4 : decode cX9_init 4 = .ok (.aload_n 0, 1) := de_2a tX9_init_4
def tX9_init_5 := Bt_1 (q := 5) tX9_init_4 rfl
theorem dX9_init_5 : decode cX9_init 5 = .ok (.new 9, 3) := de_bb tX9_init_5 (by decide +kernel)
def tX9_init_8 := Bt_3 (q := 8) tX9_init_5 rfl
theorem dX9_init_8 : decode cX9_init 8 = .ok (.dup, 1) := de_59 tX9_init_8
def tX9_init_9 := Bt_1 (q := 9) tX9_init_8 rfl
theorem dX9_init_9 : decode cX9_init 9 = .ok (.invokespecial 11, 3) := de_b7 tX9_init_9 (by decide +kernel)
def tX9_init_12 := Bt_3 (q := 12) tX9_init_9 rfl
theorem dX9_init_12 : decode cX9_init 12 = .ok (.putfield 12, 3) := de_b5 tX9_init_12 (by decide +kernel)
def tX9_init_15 := Bt_3 (q := 15) tX9_init_12 rfl
theorem dX9_init_15 : decode cX9_init 15 = .ok (.aload_n 0, 1) := de_2a tX9_init_15
def tX9_init_16 := Bt_1 (q := 16) tX9_init_15 rfl
theorem dX9_init_16 : decode cX9_init 16 = .ok (.new 16, 3) := de_bb tX9_init_16 (by decide +kernel)
def tX9_init_19 := Bt_3 (q := 19) tX9_init_16 rfl
theorem dX9_init_19 : decode cX9_init 19 = .ok (.dup, 1) := de_59 tX9_init_19
def tX9_init_20 := Bt_1 (q := 20) tX9_init_19 rfl
theorem dX9_init_20 : decode cX9_init 20 = .ok (.invokespecial 18, 3) := de_b7 tX9_init_20 (by decide +kernel)
def tX9_init_23 := Bt_3 (q := 23) tX9_init_20 rfl
theorem dX9_init_23 : decode cX9_init 23 = .ok (.putfield 19, 3) := de_b5 tX9_init_23 (by decide +kernel)
def tX9_init_26 := Bt_3 (q := 26) tX9_init_23 rfl
theorem dX9_init_26 : decode cX9_init 26 = .ok (.aload_n 0, 1) := de_2a tX9_init_26
def tX9_init_27 := Bt_1 (q := 27) tX9_init_26 rfl
theorem dX9_init_27 : decode cX9_init 27 = .ok (.new 23, 3) := de_bb tX9_init_27 (by decide +kernel)
def tX9_init_30 := Bt_3 (q := 30) tX9_init_27 rfl
theorem dX9_init_30 : decode cX9_init 30 = .ok (.dup, 1) := de_59 tX9_init_30
def tX9_init_31 := Bt_1 (q := 31) tX9_init_30 rfl
theorem dX9_init_31 : decode cX9_init 31 = .ok (.invokespecial 25, 3) := de_b7 tX9_init_31 (by decide +kernel)
def tX9_init_34 := Bt_3 (q := 34) tX9_init_31 rfl
theorem dX9_init_34 : decode cX9_init 34 = .ok (.putfield 26, 3) := de_b5 tX9_init_34 (by decide +kernel)
def tX9_init_37 := Bt_3 (q := 37) tX9_init_34 rfl
theorem dX9_init_37 : decode cX9_init 37 = .ok (.aload_n 0, 1) := de_2a tX9_init_37
def tX9_init_38 := Bt_1 (q := 38) tX9_init_37 rfl
theorem dX9_init_38 : decode cX9_init 38 = .ok (.new 30, 3) := de_bb tX9_init_38 (by decide +kernel)
def tX9_init_41 := Bt_3 (q := 41) tX9_init_38 rfl
theorem dX9_init_41 : decode cX9_init 41 = .ok (.dup, 1) := de_59 tX9_init_41
def tX9_init_42 := Bt_1 (q := 42) tX9_init_41 rfl
theorem dX9_init_42 : decode cX9_init 42 = .ok (.invokespecial 32, 3) := de_b7 tX9_init_42 (by decide +kernel)
def tX9_init_45 := Bt_3 (q := 45) tX9_init_42 rfl
theorem dX9_init_45 : decode cX9_init 45 = .ok (.putfield 33, 3) := de_b5 tX9_init_45 (by decide +kernel)
def tX9_init_48 := Bt_3 (q := 48) tX9_init_45 rfl
theorem dX9_init_48 : decode cX9_init 48 = .ok (.aload_n 0, 1) := de_2a tX9_init_48
def tX9_init_49 := Bt_1 (q := 49) tX9_init_48 rfl
theorem dX9_init_49 : decode cX9_init 49 = .ok (.new 37, 3) := de_bb tX9_init_49 (by decide +kernel)
def tX9_init_52 := Bt_3 (q := 52) tX9_init_49 rfl
theorem dX9_init_52 : decode cX9_init 52 = .ok (.dup, 1) := de_59 tX9_init_52
def tX9_init_53 := Bt_1 (q := 53) tX9_init_52 rfl
theorem dX9_init_53 : decode cX9_init 53 = .ok (.invokespecial 39, 3) := de_b7 tX9_init_53 (by decide +kernel)
def tX9_init_56 := Bt_3 (q := 56) tX9_init_53 rfl
theorem dX9_init_56 : decode cX9_init 56 = .ok (.putfield 40, 3) := de_b5 tX9_init_56 (by decide +kernel)
def tX9_init_59 := Bt_3 (q := 59) tX9_init_56 rfl
theorem dX9_init_59 : decode cX9_init 59 = .ok (.aload_n 0, 1) := de_2a tX9_init_59
def tX9_init_60 := Bt_1 (q := 60) tX9_init_59 rfl
theorem dX9_init_60 : decode cX9_init 60 = .ok (.new 44, 3) := de_bb tX9_init_60 (by decide +kernel)
def tX9_init_63 := Bt_3 (q := 63) tX9_init_60 rfl
theorem dX9_init_63 : decode cX9_init 63 = .ok (.dup, 1) := de_59 tX9_init_63
def tX9_init_64 := Bt_1 (q := 64) tX9_init_63 rfl
theorem dX9_init_64 : decode cX9_init 64 = .ok (.invokespecial 46, 3) := de_b7 tX9_init_64 (by decide +kernel)
def tX9_init_67 := Bt_3 (q := 67) tX9_init_64 rfl
theorem dX9_init_67 : decode cX9_init 67 = .ok (.putfield 47, 3) := de_b5 tX9_init_67 (by decide +kernel)
def tX9_init_70 := Bt_3 (q := 70) tX9_init_67 rfl
theorem dX9_init_70 : decode cX9_init 70 = .ok (.aload_n 0, 1) := de_2a tX9_init_70
def tX9_init_71 := Bt_1 (q := 71) tX9_init_70 rfl
theorem dX9_init_71 : decode cX9_init 71 = .ok (.new 51, 3) := de_bb tX9_init_71 (by decide +kernel)
def tX9_init_74 := Bt_3 (q := 74) tX9_init_71 rfl
theorem dX9_init_74 : decode cX9_init 74 = .ok (.dup, 1) := de_59 tX9_init_74
def tX9_init_75 := Bt_1 (q := 75) tX9_init_74 rfl
theorem dX9_init_75 : decode cX9_init 75 = .ok (.invokespecial 53, 3) := de_b7 tX9_init_75 (by decide +kernel)
def tX9_init_78 := Bt_3 (q := 78) tX9_init_75 rfl
theorem dX9_init_78 : decode cX9_init 78 = .ok (.putfield 54, 3) := de_b5 tX9_init_78 (by decide +kernel)
def tX9_init_81 := Bt_3 (q := 81) tX9_init_78 rfl
theorem dX9_init_81 : decode cX9_init 81 = .ok (.aload_n 0, 1) := de_2a tX9_init_81
def tX9_init_82 := Bt_1 (q := 82) tX9_init_81 rfl
theorem dX9_init_82 : decode cX9_init 82 = .ok (.bipush 8, 2) := de_10 tX9_init_82 (by decide +kernel)
def tX9_init_84 := Bt_2 (q := 84) tX9_init_82 rfl
theorem dX9_init_84 : decode cX9_init 84 = .ok (.newarray .int, 2) := de_bc_0a tX9_init_84
def tX9_init_86 := Bt_2 (q := 86) tX9_init_84 rfl
theorem dX9_init_86 : decode cX9_init 86 = .ok (.putfield 58, 3) := de_b5 tX9_init_86 (by decide +kernel)
def tX9_init_89 := Bt_3 (q := 89) tX9_init_86 rfl
theorem dX9_init_89 : decode cX9_init 89 = .ok (.return_, 1) := de_b1 tX9_init_89
def tX9_time_0 := Bt_0 cX9_time
theorem dX9_time_0 : decode cX9_time 0 = .ok (.iload_n 1, 1) := de_1b tX9_time_0
def tX9_time_1 := Bt_1 (q := 1) tX9_time_0 rfl
theorem dX9_time_1 : decode cX9_time 1 = .ok (.iconst 1, 1) := de_04 tX9_time_1
def tX9_time_2 := Bt_1 (q := 2) tX9_time_1 rfl
theorem dX9_time_2 : decode cX9_time 2 = .ok (.if_icmp .ge 10, 3) := de_a2 tX9_time_2 (by decide +kernel)
def tX9_time_5 := Bt_3 (q := 5) tX9_time_2 rfl
theorem dX9_time_5 : decode cX9_time 5 = .ok (.aload_n 0, 1) := de_2a tX9_time_5
def tX9_time_6 := Bt_1 (q := 6) tX9_time_5 rfl
theorem dX9_time_6 : decode cX9_time 6 = .ok (.bipush (-4), 2) := de_10 tX9_time_6 (by decide +kernel)
def tX9_time_8 := Bt_2 (q := 8) tX9_time_6 rfl
theorem dX9_time_8 : decode cX9_time 8 = .ok (.invokevirtual 62, 3) := de_b6 tX9_time_8 (by decide +kernel)
def tX9_time_11 := Bt_3 (q := 11) tX9_time_8 rfl
theorem dX9_time_11 : decode cX9_time 11 = .ok (.ireturn, 1) := de_ac tX9_time_11
def tX9_time_12 := Bt_1 (q := 12) tX9_time_11 rfl
theorem dX9_time_12 : decode cX9_time 12 = .ok (.iload_n 1, 1) := de_1b tX9_time_12
def tX9_time_13 := Bt_1 (q := 13) tX9_time_12 rfl
theorem dX9_time_13 : decode cX9_time 13 = .ok (.ldc 66, 2) := de_12 tX9_time_13 (by decide +kernel)
def tX9_time_15 := Bt_2 (q := 15) tX9_time_13 rfl
theorem dX9_time_15 : decode cX9_time 15 = .ok (.aload_n 0, 1) := de_2a tX9_time_15
def tX9_time_16 := Bt_1 (q := 16) tX9_time_15 rfl
theorem dX9_time_16 : decode cX9_time 16 = .ok (.getfield 12, 3) := de_b4 tX9_time_16 (by decide +kernel)
def tX9_time_19 := Bt_3 (q := 19) tX9_time_16 rfl
theorem dX9_time_19 : decode cX9_time 19 = .ok (.getfield 67, 3) := de_b4 tX9_time_19 (by decide +kernel)
def tX9_time_22 := Bt_3 (q := 22) tX9_time_19 rfl
theorem dX9_time_22 : decode cX9_time 22 = .ok (.isub, 1) := de_64 tX9_time_22
def tX9_time_23 := Bt_1 (q := 23) tX9_time_22 rfl
theorem dX9_time_23 : decode cX9_time 23 = .ok (.if_icmp .le 10, 3) := de_a4 tX9_time_23 (by decide +kernel)
def tX9_time_26 := Bt_3 (q := 26) tX9_time_23 rfl
theorem dX9_time_26 : decode cX9_time 26 = .ok (.aload_n 0, 1) := de_2a tX9_time_26
def tX9_time_27 := Bt_1 (q := 27) tX9_time_26 rfl
theorem dX9_time_27 : decode cX9_time 27 = .ok (.bipush (-6), 2) := de_10 tX9_time_27 (by decide +kernel)
def tX9_time_29 := Bt_2 (q := 29) tX9_time_27 rfl
theorem dX9_time_29 : decode cX9_time 29 = .ok (.invokevirtual 62, 3) := de_b6 tX9_time_29 (by decide +kernel)
def tX9_time_32 := Bt_3 (q := 32) tX9_time_29 rfl
theorem dX9_time_32 : decode cX9_time 32 = .ok (.ireturn, 1) := de_ac tX9_time_32
def tX9_time_33 := Bt_1 (q := 33) tX9_time_32 rfl
theorem dX9_time_33 : decode cX9_time 33 = .ok (.aload_n 0, 1) := de_2a tX9_time_33
def tX9_time_34 := Bt_1 (q := 34) tX9_time_33 rfl
theorem dX9_time_34 : decode cX9_time 34 = .ok (.getfield 12, 3) := de_b4 tX9_time_34 (by decide +kernel)
def tX9_time_37 := Bt_3 (q := 37) tX9_time_34 rfl
theorem dX9_time_37 : decode cX9_time 37 = .ok (.dup, 1) := de_59 tX9_time_37
def tX9_time_38 := Bt_1 (q := 38) tX9_time_37 rfl
theorem dX9_time_38 : decode cX9_time 38 = .ok (.getfield 67, 3) := de_b4 tX9_time_38 (by decide +kernel)
def tX9_time_41 := Bt_3 (q := 41) tX9_time_38 rfl
theorem dX9_time_41 : decode cX9_time 41 = .ok (.iload_n 1, 1) := de_1b tX9_time_41
def tX9_time_42 := Bt_1 (q := 42) tX9_time_41 rfl
theorem dX9_time_42 : decode cX9_time 42 = .ok (.iadd, 1) := de_60 tX9_time_42
def tX9_time_43 := Bt_1 (q := 43) tX9_time_42 rfl
theorem dX9_time_43 : decode cX9_time 43 = .ok (.putfield 67, 3) := de_b5 tX9_time_43 (by decide +kernel)
def tX9_time_46 := Bt_3 (q := 46) tX9_time_43 rfl
theorem dX9_time_46 : decode cX9_time 46 = .ok (.aload_n 0, 1) := de_2a tX9_time_46
def tX9_time_47 := Bt_1 (q := 47) tX9_time_46 rfl
theorem dX9_time_47 : decode cX9_time 47 = .ok (.getfield 12, 3) := de_b4 tX9_time_47 (by decide +kernel)
def tX9_time_50 := Bt_3 (q := 50) tX9_time_47 rfl
theorem dX9_time_50 : decode cX9_time 50 = .ok (.getfield 67, 3) := de_b4 tX9_time_50 (by decide +kernel)
def tX9_time_53 := Bt_3 (q := 53) tX9_time_50 rfl
theorem dX9_time_53 : decode cX9_time 53 = .ok (.ireturn, 1) := de_ac tX9_time_53
def tX9_rate_0 := Bt_0 cX9_rate
theorem dX9_rate_0 : decode cX9_rate 0 = .ok (.iload_n 1, 1) := de_1b tX9_rate_0
def tX9_rate_1 := Bt_1 (q := 1) tX9_rate_0 rfl
theorem dX9_rate_1 : decode cX9_rate 1 = .ok (.iconst 1, 1) := de_04 tX9_rate_1
def tX9_rate_2 := Bt_1 (q := 2) tX9_rate_1 rfl
theorem dX9_rate_2 : decode cX9_rate 2 = .ok (.if_icmp .lt 8, 3) := de_a1 tX9_rate_2 (by decide +kernel)
def tX9_rate_5 := Bt_3 (q := 5) tX9_rate_2 rfl
theorem dX9_rate_5 : decode cX9_rate 5 = .ok (.iload_n 1, 1) := de_1b tX9_rate_5
def tX9_rate_6 := Bt_1 (q := 6) tX9_rate_5 rfl
theorem dX9_rate_6 : decode cX9_rate 6 = .ok (.iconst 4, 1) := de_07 tX9_rate_6
def tX9_rate_7 := Bt_1 (q := 7) tX9_rate_6 rfl
theorem dX9_rate_7 : decode cX9_rate 7 = .ok (.if_icmp .lt 9, 3) := de_a1 tX9_rate_7 (by decide +kernel)
def tX9_rate_10 := Bt_3 (q := 10) tX9_rate_7 rfl
theorem dX9_rate_10 : decode cX9_rate 10 = .ok (.aload_n 0, 1) := de_2a tX9_rate_10
def tX9_rate_11 := Bt_1 (q := 11) tX9_rate_10 rfl
theorem dX9_rate_11 : decode cX9_rate 11 = .ok (.iconst (-1), 1) := de_02 tX9_rate_11
def tX9_rate_12 := Bt_1 (q := 12) tX9_rate_11 rfl
theorem dX9_rate_12 : decode cX9_rate 12 = .ok (.invokevirtual 62, 3) := de_b6 tX9_rate_12 (by decide +kernel)
def tX9_rate_15 := Bt_3 (q := 15) tX9_rate_12 rfl
theorem dX9_rate_15 : decode cX9_rate 15 = .ok (.ireturn, 1) := de_ac tX9_rate_15
def tX9_rate_16 := Bt_1 (q := 16) tX9_rate_15 rfl
theorem dX9_rate_16 : decode cX9_rate 16 = .ok (.aload_n 0, 1) := de_2a tX9_rate_16
def tX9_rate_17 := Bt_1 (q := 17) tX9_rate_16 rfl
theorem dX9_rate_17 : decode cX9_rate 17 = .ok (.getfield 12, 3) := de_b4 tX9_rate_17 (by decide +kernel)
def tX9_rate_20 := Bt_3 (q := 20) tX9_rate_17 rfl
theorem dX9_rate_20 : decode cX9_rate 20 = .ok (.invokevirtual 71, 3) := de_b6 tX9_rate_20 (by decide +kernel)
def tX9_rate_23 := Bt_3 (q := 23) tX9_rate_20 rfl
theorem dX9_rate_23 : decode cX9_rate 23 = .ok (.ifCond .ne 10, 3) := de_9a tX9_rate_23 (by decide +kernel)
def tX9_rate_26 := Bt_3 (q := 26) tX9_rate_23 rfl
theorem dX9_rate_26 : decode cX9_rate 26 = .ok (.aload_n 0, 1) := de_2a tX9_rate_26
def tX9_rate_27 := Bt_1 (q := 27) tX9_rate_26 rfl
theorem dX9_rate_27 : decode cX9_rate 27 = .ok (.bipush (-3), 2) := de_10 tX9_rate_27 (by decide +kernel)
def tX9_rate_29 := Bt_2 (q := 29) tX9_rate_27 rfl
theorem dX9_rate_29 : decode cX9_rate 29 = .ok (.invokevirtual 62, 3) := de_b6 tX9_rate_29 (by decide +kernel)
def tX9_rate_32 := Bt_3 (q := 32) tX9_rate_29 rfl
theorem dX9_rate_32 : decode cX9_rate 32 = .ok (.ireturn, 1) := de_ac tX9_rate_32
def tX9_rate_33 := Bt_1 (q := 33) tX9_rate_32 rfl
theorem dX9_rate_33 : decode cX9_rate 33 = .ok (.iload_n 2, 1) := de_1c tX9_rate_33
def tX9_rate_34 := Bt_1 (q := 34) tX9_rate_33 rfl
theorem dX9_rate_34 : decode cX9_rate 34 = .ok (.iconst 1, 1) := de_04 tX9_rate_34
def tX9_rate_35 := Bt_1 (q := 35) tX9_rate_34 rfl
theorem dX9_rate_35 : decode cX9_rate 35 = .ok (.ldc 75, 2) := de_12 tX9_rate_35 (by decide +kernel)
def tX9_rate_37 := Bt_2 (q := 37) tX9_rate_35 rfl
theorem dX9_rate_37 : decode cX9_rate 37 = .ok (.invokestatic 76, 3) := de_b8 tX9_rate_37 (by decide +kernel)
def tX9_rate_40 := Bt_3 (q := 40) tX9_rate_37 rfl
theorem dX9_rate_40 : decode cX9_rate 40 = .ok (.istore_n 3, 1) := de_3e tX9_rate_40
def tX9_rate_41 := Bt_1 (q := 41) tX9_rate_40 rfl
theorem dX9_rate_41 : decode cX9_rate 41 = .ok (.iload_n 3, 1) := de_1d tX9_rate_41
def tX9_rate_42 := Bt_1 (q := 42) tX9_rate_41 rfl
theorem dX9_rate_42 : decode cX9_rate 42 = .ok (.ifCond .eq 9, 3) := de_99 tX9_rate_42 (by decide +kernel)
def tX9_rate_45 := Bt_3 (q := 45) tX9_rate_42 rfl
theorem dX9_rate_45 : decode cX9_rate 45 = .ok (.aload_n 0, 1) := de_2a tX9_rate_45
def tX9_rate_46 := Bt_1 (q := 46) tX9_rate_45 rfl
theorem dX9_rate_46 : decode cX9_rate 46 = .ok (.iload_n 3, 1) := de_1d tX9_rate_46
def tX9_rate_47 := Bt_1 (q := 47) tX9_rate_46 rfl
theorem dX9_rate_47 : decode cX9_rate 47 = .ok (.invokevirtual 62, 3) := de_b6 tX9_rate_47 (by decide +kernel)
def tX9_rate_50 := Bt_3 (q := 50) tX9_rate_47 rfl
theorem dX9_rate_50 : decode cX9_rate 50 = .ok (.ireturn, 1) := de_ac tX9_rate_50
def tX9_rate_51 := Bt_1 (q := 51) tX9_rate_50 rfl
theorem dX9_rate_51 : decode cX9_rate 51 = .ok (.aload_n 0, 1) := de_2a tX9_rate_51
def tX9_rate_52 := Bt_1 (q := 52) tX9_rate_51 rfl
theorem dX9_rate_52 : decode cX9_rate 52 = .ok (.getfield 12, 3) := de_b4 tX9_rate_52 (by decide +kernel)
def tX9_rate_55 := Bt_3 (q := 55) tX9_rate_52 rfl
theorem dX9_rate_55 : decode cX9_rate 55 = .ok (.getfield 80, 3) := de_b4 tX9_rate_55 (by decide +kernel)
def tX9_rate_58 := Bt_3 (q := 58) tX9_rate_55 rfl
theorem dX9_rate_58 : decode cX9_rate 58 = .ok (.iload_n 1, 1) := de_1b tX9_rate_58
def tX9_rate_59 := Bt_1 (q := 59) tX9_rate_58 rfl
theorem dX9_rate_59 : decode cX9_rate 59 = .ok (.iaload, 1) := de_2e tX9_rate_59
def tX9_rate_60 := Bt_1 (q := 60) tX9_rate_59 rfl
theorem dX9_rate_60 : decode cX9_rate 60 = .ok (.istore 4, 2) := de_36 tX9_rate_60 (by decide +kernel)
def tX9_rate_62 := Bt_2 (q := 62) tX9_rate_60 rfl
theorem dX9_rate_62 : decode cX9_rate 62 = .ok (.aload_n 0, 1) := de_2a tX9_rate_62
def tX9_rate_63 := Bt_1 (q := 63) tX9_rate_62 rfl
theorem dX9_rate_63 : decode cX9_rate 63 = .ok (.getfield 12, 3) := de_b4 tX9_rate_63 (by decide +kernel)
def tX9_rate_66 := Bt_3 (q := 66) tX9_rate_63 rfl
theorem dX9_rate_66 : decode cX9_rate 66 = .ok (.getfield 80, 3) := de_b4 tX9_rate_66 (by decide +kernel)
def tX9_rate_69 := Bt_3 (q := 69) tX9_rate_66 rfl
theorem dX9_rate_69 : decode cX9_rate 69 = .ok (.iload_n 1, 1) := de_1b tX9_rate_69
def tX9_rate_70 := Bt_1 (q := 70) tX9_rate_69 rfl
theorem dX9_rate_70 : decode cX9_rate 70 = .ok (.iload_n 2, 1) := de_1c tX9_rate_70
def tX9_rate_71 := Bt_1 (q := 71) tX9_rate_70 rfl
theorem dX9_rate_71 : decode cX9_rate 71 = .ok (.iastore, 1) := de_4f tX9_rate_71
def tX9_rate_72 := Bt_1 (q := 72) tX9_rate_71 rfl
theorem dX9_rate_72 : decode cX9_rate 72 = .ok (.iload 4, 2) := de_15 tX9_rate_72 (by decide +kernel)
def tX9_rate_74 := Bt_2 (q := 74) tX9_rate_72 rfl
theorem dX9_rate_74 : decode cX9_rate 74 = .ok (.ireturn, 1) := de_ac tX9_rate_74
def tX9_lots_0 := Bt_0 cX9_lots
theorem dX9_lots_0 : decode cX9_lots 0 = .ok (.aload_n 0, 1) := de_2a tX9_lots_0
def tX9_lots_1 := Bt_1 (q := 1) tX9_lots_0 rfl
theorem dX9_lots_1 : decode cX9_lots 1 = .ok (.getfield 12, 3) := de_b4 tX9_lots_1 (by decide +kernel)
def tX9_lots_4 := Bt_3 (q := 4) tX9_lots_1 rfl
theorem dX9_lots_4 : decode cX9_lots 4 = .ok (.invokevirtual 71, 3) := de_b6 tX9_lots_4 (by decide +kernel)
def tX9_lots_7 := Bt_3 (q := 7) tX9_lots_4 rfl
theorem dX9_lots_7 : decode cX9_lots 7 = .ok (.ifCond .ne 10, 3) := de_9a tX9_lots_7 (by decide +kernel)
def tX9_lots_10 := Bt_3 (q := 10) tX9_lots_7 rfl
theorem dX9_lots_10 : decode cX9_lots 10 = .ok (.aload_n 0, 1) := de_2a tX9_lots_10
def tX9_lots_11 := Bt_1 (q := 11) tX9_lots_10 rfl
theorem dX9_lots_11 : decode cX9_lots 11 = .ok (.bipush (-3), 2) := de_10 tX9_lots_11 (by decide +kernel)
def tX9_lots_13 := Bt_2 (q := 13) tX9_lots_11 rfl
theorem dX9_lots_13 : decode cX9_lots 13 = .ok (.invokevirtual 62, 3) := de_b6 tX9_lots_13 (by decide +kernel)
def tX9_lots_16 := Bt_3 (q := 16) tX9_lots_13 rfl
theorem dX9_lots_16 : decode cX9_lots 16 = .ok (.ireturn, 1) := de_ac tX9_lots_16
def tX9_lots_17 := Bt_1 (q := 17) tX9_lots_16 rfl
theorem dX9_lots_17 : decode cX9_lots 17 = .ok (.iload_n 1, 1) := de_1b tX9_lots_17
def tX9_lots_18 := Bt_1 (q := 18) tX9_lots_17 rfl
theorem dX9_lots_18 : decode cX9_lots 18 = .ok (.iconst 1, 1) := de_04 tX9_lots_18
def tX9_lots_19 := Bt_1 (q := 19) tX9_lots_18 rfl
theorem dX9_lots_19 : decode cX9_lots 19 = .ok (.bipush 6, 2) := de_10 tX9_lots_19 (by decide +kernel)
def tX9_lots_21 := Bt_2 (q := 21) tX9_lots_19 rfl
theorem dX9_lots_21 : decode cX9_lots 21 = .ok (.invokestatic 76, 3) := de_b8 tX9_lots_21 (by decide +kernel)
def tX9_lots_24 := Bt_3 (q := 24) tX9_lots_21 rfl
theorem dX9_lots_24 : decode cX9_lots 24 = .ok (.istore_n 2, 1) := de_3d tX9_lots_24
def tX9_lots_25 := Bt_1 (q := 25) tX9_lots_24 rfl
theorem dX9_lots_25 : decode cX9_lots 25 = .ok (.iload_n 2, 1) := de_1c tX9_lots_25
def tX9_lots_26 := Bt_1 (q := 26) tX9_lots_25 rfl
theorem dX9_lots_26 : decode cX9_lots 26 = .ok (.ifCond .eq 9, 3) := de_99 tX9_lots_26 (by decide +kernel)
def tX9_lots_29 := Bt_3 (q := 29) tX9_lots_26 rfl
theorem dX9_lots_29 : decode cX9_lots 29 = .ok (.aload_n 0, 1) := de_2a tX9_lots_29
def tX9_lots_30 := Bt_1 (q := 30) tX9_lots_29 rfl
theorem dX9_lots_30 : decode cX9_lots 30 = .ok (.iload_n 2, 1) := de_1c tX9_lots_30
def tX9_lots_31 := Bt_1 (q := 31) tX9_lots_30 rfl
theorem dX9_lots_31 : decode cX9_lots 31 = .ok (.invokevirtual 62, 3) := de_b6 tX9_lots_31 (by decide +kernel)
def tX9_lots_34 := Bt_3 (q := 34) tX9_lots_31 rfl
theorem dX9_lots_34 : decode cX9_lots 34 = .ok (.ireturn, 1) := de_ac tX9_lots_34
def tX9_lots_35 := Bt_1 (q := 35) tX9_lots_34 rfl
theorem dX9_lots_35 : decode cX9_lots 35 = .ok (.aload_n 0, 1) := de_2a tX9_lots_35
def tX9_lots_36 := Bt_1 (q := 36) tX9_lots_35 rfl
theorem dX9_lots_36 : decode cX9_lots 36 = .ok (.getfield 12, 3) := de_b4 tX9_lots_36 (by decide +kernel)
def tX9_lots_39 := Bt_3 (q := 39) tX9_lots_36 rfl
theorem dX9_lots_39 : decode cX9_lots 39 = .ok (.getfield 83, 3) := de_b4 tX9_lots_39 (by decide +kernel)
def tX9_lots_42 := Bt_3 (q := 42) tX9_lots_39 rfl
theorem dX9_lots_42 : decode cX9_lots 42 = .ok (.istore_n 3, 1) := de_3e tX9_lots_42
def tX9_lots_43 := Bt_1 (q := 43) tX9_lots_42 rfl
theorem dX9_lots_43 : decode cX9_lots 43 = .ok (.aload_n 0, 1) := de_2a tX9_lots_43
def tX9_lots_44 := Bt_1 (q := 44) tX9_lots_43 rfl
theorem dX9_lots_44 : decode cX9_lots 44 = .ok (.getfield 12, 3) := de_b4 tX9_lots_44 (by decide +kernel)
def tX9_lots_47 := Bt_3 (q := 47) tX9_lots_44 rfl
theorem dX9_lots_47 : decode cX9_lots 47 = .ok (.iload_n 1, 1) := de_1b tX9_lots_47
def tX9_lots_48 := Bt_1 (q := 48) tX9_lots_47 rfl
theorem dX9_lots_48 : decode cX9_lots 48 = .ok (.invokevirtual 86, 3) := de_b6 tX9_lots_48 (by decide +kernel)
def tX9_lots_51 := Bt_3 (q := 51) tX9_lots_48 rfl
theorem dX9_lots_51 : decode cX9_lots 51 = .ok (.iload_n 3, 1) := de_1d tX9_lots_51
def tX9_lots_52 := Bt_1 (q := 52) tX9_lots_51 rfl
theorem dX9_lots_52 : decode cX9_lots 52 = .ok (.ireturn, 1) := de_ac tX9_lots_52
def tX9_closing_0 := Bt_0 cX9_closing
theorem dX9_closing_0 : decode cX9_closing 0 = .ok (.aload_n 0, 1) := de_2a tX9_closing_0
def tX9_closing_1 := Bt_1 (q := 1) tX9_closing_0 rfl
theorem dX9_closing_1 : decode cX9_closing 1 = .ok (.getfield 12, 3) := de_b4 tX9_closing_1 (by decide +kernel)
def tX9_closing_4 := Bt_3 (q := 4) tX9_closing_1 rfl
theorem dX9_closing_4 : decode cX9_closing 4 = .ok (.getfield 90, 3) := de_b4 tX9_closing_4 (by decide +kernel)
def tX9_closing_7 := Bt_3 (q := 7) tX9_closing_4 rfl
theorem dX9_closing_7 : decode cX9_closing 7 = .ok (.iconst (-1), 1) := de_02 tX9_closing_7
def tX9_closing_8 := Bt_1 (q := 8) tX9_closing_7 rfl
theorem dX9_closing_8 : decode cX9_closing 8 = .ok (.if_icmp .eq 10, 3) := de_9f tX9_closing_8 (by decide +kernel)
def tX9_closing_11 := Bt_3 (q := 11) tX9_closing_8 rfl
theorem dX9_closing_11 : decode cX9_closing 11 = .ok (.aload_n 0, 1) := de_2a tX9_closing_11
def tX9_closing_12 := Bt_1 (q := 12) tX9_closing_11 rfl
theorem dX9_closing_12 : decode cX9_closing 12 = .ok (.bipush (-3), 2) := de_10 tX9_closing_12 (by decide +kernel)
def tX9_closing_14 := Bt_2 (q := 14) tX9_closing_12 rfl
theorem dX9_closing_14 : decode cX9_closing 14 = .ok (.invokevirtual 62, 3) := de_b6 tX9_closing_14 (by decide +kernel)
def tX9_closing_17 := Bt_3 (q := 17) tX9_closing_14 rfl
theorem dX9_closing_17 : decode cX9_closing 17 = .ok (.ireturn, 1) := de_ac tX9_closing_17
def tX9_closing_18 := Bt_1 (q := 18) tX9_closing_17 rfl
theorem dX9_closing_18 : decode cX9_closing 18 = .ok (.iload_n 1, 1) := de_1b tX9_closing_18
def tX9_closing_19 := Bt_1 (q := 19) tX9_closing_18 rfl
theorem dX9_closing_19 : decode cX9_closing 19 = .ok (.aload_n 0, 1) := de_2a tX9_closing_19
def tX9_closing_20 := Bt_1 (q := 20) tX9_closing_19 rfl
theorem dX9_closing_20 : decode cX9_closing 20 = .ok (.getfield 12, 3) := de_b4 tX9_closing_20 (by decide +kernel)
def tX9_closing_23 := Bt_3 (q := 23) tX9_closing_20 rfl
theorem dX9_closing_23 : decode cX9_closing 23 = .ok (.getfield 67, 3) := de_b4 tX9_closing_23 (by decide +kernel)
def tX9_closing_26 := Bt_3 (q := 26) tX9_closing_23 rfl
theorem dX9_closing_26 : decode cX9_closing 26 = .ok (.ldc 66, 2) := de_12 tX9_closing_26 (by decide +kernel)
def tX9_closing_28 := Bt_2 (q := 28) tX9_closing_26 rfl
theorem dX9_closing_28 : decode cX9_closing 28 = .ok (.invokestatic 76, 3) := de_b8 tX9_closing_28 (by decide +kernel)
def tX9_closing_31 := Bt_3 (q := 31) tX9_closing_28 rfl
theorem dX9_closing_31 : decode cX9_closing 31 = .ok (.istore_n 2, 1) := de_3d tX9_closing_31
def tX9_closing_32 := Bt_1 (q := 32) tX9_closing_31 rfl
theorem dX9_closing_32 : decode cX9_closing 32 = .ok (.iload_n 2, 1) := de_1c tX9_closing_32
def tX9_closing_33 := Bt_1 (q := 33) tX9_closing_32 rfl
theorem dX9_closing_33 : decode cX9_closing 33 = .ok (.ifCond .eq 9, 3) := de_99 tX9_closing_33 (by decide +kernel)
def tX9_closing_36 := Bt_3 (q := 36) tX9_closing_33 rfl
theorem dX9_closing_36 : decode cX9_closing 36 = .ok (.aload_n 0, 1) := de_2a tX9_closing_36
def tX9_closing_37 := Bt_1 (q := 37) tX9_closing_36 rfl
theorem dX9_closing_37 : decode cX9_closing 37 = .ok (.iload_n 2, 1) := de_1c tX9_closing_37
def tX9_closing_38 := Bt_1 (q := 38) tX9_closing_37 rfl
theorem dX9_closing_38 : decode cX9_closing 38 = .ok (.invokevirtual 62, 3) := de_b6 tX9_closing_38 (by decide +kernel)
def tX9_closing_41 := Bt_3 (q := 41) tX9_closing_38 rfl
theorem dX9_closing_41 : decode cX9_closing 41 = .ok (.ireturn, 1) := de_ac tX9_closing_41
def tX9_closing_42 := Bt_1 (q := 42) tX9_closing_41 rfl
theorem dX9_closing_42 : decode cX9_closing 42 = .ok (.aload_n 0, 1) := de_2a tX9_closing_42
def tX9_closing_43 := Bt_1 (q := 43) tX9_closing_42 rfl
theorem dX9_closing_43 : decode cX9_closing 43 = .ok (.getfield 12, 3) := de_b4 tX9_closing_43 (by decide +kernel)
def tX9_closing_46 := Bt_3 (q := 46) tX9_closing_43 rfl
theorem dX9_closing_46 : decode cX9_closing 46 = .ok (.iload_n 1, 1) := de_1b tX9_closing_46
def tX9_closing_47 := Bt_1 (q := 47) tX9_closing_46 rfl
theorem dX9_closing_47 : decode cX9_closing 47 = .ok (.putfield 90, 3) := de_b5 tX9_closing_47 (by decide +kernel)
def tX9_closing_50 := Bt_3 (q := 50) tX9_closing_47 rfl
theorem dX9_closing_50 : decode cX9_closing 50 = .ok (.iconst 1, 1) := de_04 tX9_closing_50
def tX9_closing_51 := Bt_1 (q := 51) tX9_closing_50 rfl
theorem dX9_closing_51 : decode cX9_closing 51 = .ok (.ireturn, 1) := de_ac tX9_closing_51
def tX9_bid_0 := Bt_0 cX9_bid
theorem dX9_bid_0 : decode cX9_bid 0 = .ok (.aload_n 0, 1) := de_2a tX9_bid_0
def tX9_bid_1 := Bt_1 (q := 1) tX9_bid_0 rfl
theorem dX9_bid_1 : decode cX9_bid 1 = .ok (.iload_n 1, 1) := de_1b tX9_bid_1
def tX9_bid_2 := Bt_1 (q := 2) tX9_bid_1 rfl
theorem dX9_bid_2 : decode cX9_bid 2 = .ok (.iload_n 2, 1) := de_1c tX9_bid_2
def tX9_bid_3 := Bt_1 (q := 3) tX9_bid_2 rfl
theorem dX9_bid_3 : decode cX9_bid 3 = .ok (.invokevirtual 93, 3) := de_b6 tX9_bid_3 (by decide +kernel)
def tX9_bid_6 := Bt_3 (q := 6) tX9_bid_3 rfl
theorem dX9_bid_6 : decode cX9_bid 6 = .ok (.ifCond .ne 12, 3) := de_9a tX9_bid_6 (by decide +kernel)
def tX9_bid_9 := Bt_3 (q := 9) tX9_bid_6 rfl
theorem dX9_bid_9 : decode cX9_bid 9 = .ok (.iload_n 3, 1) := de_1d tX9_bid_9
def tX9_bid_10 := Bt_1 (q := 10) tX9_bid_9 rfl
theorem dX9_bid_10 : decode cX9_bid 10 = .ok (.ifCond .lt 8, 3) := de_9b tX9_bid_10 (by decide +kernel)
def tX9_bid_13 := Bt_3 (q := 13) tX9_bid_10 rfl
theorem dX9_bid_13 : decode cX9_bid 13 = .ok (.iload_n 3, 1) := de_1d tX9_bid_13
def tX9_bid_14 := Bt_1 (q := 14) tX9_bid_13 rfl
theorem dX9_bid_14 : decode cX9_bid 14 = .ok (.iconst 4, 1) := de_07 tX9_bid_14
def tX9_bid_15 := Bt_1 (q := 15) tX9_bid_14 rfl
theorem dX9_bid_15 : decode cX9_bid 15 = .ok (.if_icmp .lt 9, 3) := de_a1 tX9_bid_15 (by decide +kernel)
def tX9_bid_18 := Bt_3 (q := 18) tX9_bid_15 rfl
theorem dX9_bid_18 : decode cX9_bid 18 = .ok (.aload_n 0, 1) := de_2a tX9_bid_18
def tX9_bid_19 := Bt_1 (q := 19) tX9_bid_18 rfl
theorem dX9_bid_19 : decode cX9_bid 19 = .ok (.iconst (-1), 1) := de_02 tX9_bid_19
def tX9_bid_20 := Bt_1 (q := 20) tX9_bid_19 rfl
theorem dX9_bid_20 : decode cX9_bid 20 = .ok (.invokevirtual 62, 3) := de_b6 tX9_bid_20 (by decide +kernel)
def tX9_bid_23 := Bt_3 (q := 23) tX9_bid_20 rfl
theorem dX9_bid_23 : decode cX9_bid 23 = .ok (.ireturn, 1) := de_ac tX9_bid_23
def tX9_bid_24 := Bt_1 (q := 24) tX9_bid_23 rfl
theorem dX9_bid_24 : decode cX9_bid 24 = .ok (.iload 4, 2) := de_15 tX9_bid_24 (by decide +kernel)
def tX9_bid_26 := Bt_2 (q := 26) tX9_bid_24 rfl
theorem dX9_bid_26 : decode cX9_bid 26 = .ok (.iload 5, 2) := de_15 tX9_bid_26 (by decide +kernel)
def tX9_bid_28 := Bt_2 (q := 28) tX9_bid_26 rfl
theorem dX9_bid_28 : decode cX9_bid 28 = .ok (.invokestatic 97, 3) := de_b8 tX9_bid_28 (by decide +kernel)
def tX9_bid_31 := Bt_3 (q := 31) tX9_bid_28 rfl
theorem dX9_bid_31 : decode cX9_bid 31 = .ok (.iload 6, 2) := de_15 tX9_bid_31 (by decide +kernel)
def tX9_bid_33 := Bt_2 (q := 33) tX9_bid_31 rfl
theorem dX9_bid_33 : decode cX9_bid 33 = .ok (.iload 7, 2) := de_15 tX9_bid_33 (by decide +kernel)
def tX9_bid_35 := Bt_2 (q := 35) tX9_bid_33 rfl
theorem dX9_bid_35 : decode cX9_bid 35 = .ok (.invokestatic 97, 3) := de_b8 tX9_bid_35 (by decide +kernel)
def tX9_bid_38 := Bt_3 (q := 38) tX9_bid_35 rfl
theorem dX9_bid_38 : decode cX9_bid 38 = .ok (.invokestatic 97, 3) := de_b8 tX9_bid_38 (by decide +kernel)
def tX9_bid_41 := Bt_3 (q := 41) tX9_bid_38 rfl
theorem dX9_bid_41 : decode cX9_bid 41 = .ok (.istore 10, 2) := de_36 tX9_bid_41 (by decide +kernel)
def tX9_bid_43 := Bt_2 (q := 43) tX9_bid_41 rfl
theorem dX9_bid_43 : decode cX9_bid 43 = .ok (.iload 10, 2) := de_15 tX9_bid_43 (by decide +kernel)
def tX9_bid_45 := Bt_2 (q := 45) tX9_bid_43 rfl
theorem dX9_bid_45 : decode cX9_bid 45 = .ok (.ifCond .lt 13, 3) := de_9b tX9_bid_45 (by decide +kernel)
def tX9_bid_48 := Bt_3 (q := 48) tX9_bid_45 rfl
theorem dX9_bid_48 : decode cX9_bid 48 = .ok (.iload 8, 2) := de_15 tX9_bid_48 (by decide +kernel)
def tX9_bid_50 := Bt_2 (q := 50) tX9_bid_48 rfl
theorem dX9_bid_50 : decode cX9_bid 50 = .ok (.ifCond .lt 8, 3) := de_9b tX9_bid_50 (by decide +kernel)
def tX9_bid_53 := Bt_3 (q := 53) tX9_bid_50 rfl
theorem dX9_bid_53 : decode cX9_bid 53 = .ok (.iload 9, 2) := de_15 tX9_bid_53 (by decide +kernel)
def tX9_bid_55 := Bt_2 (q := 55) tX9_bid_53 rfl
theorem dX9_bid_55 : decode cX9_bid 55 = .ok (.ifCond .ge 10, 3) := de_9c tX9_bid_55 (by decide +kernel)
def tX9_bid_58 := Bt_3 (q := 58) tX9_bid_55 rfl
theorem dX9_bid_58 : decode cX9_bid 58 = .ok (.aload_n 0, 1) := de_2a tX9_bid_58
def tX9_bid_59 := Bt_1 (q := 59) tX9_bid_58 rfl
theorem dX9_bid_59 : decode cX9_bid 59 = .ok (.bipush (-4), 2) := de_10 tX9_bid_59 (by decide +kernel)
def tX9_bid_61 := Bt_2 (q := 61) tX9_bid_59 rfl
theorem dX9_bid_61 : decode cX9_bid 61 = .ok (.invokevirtual 62, 3) := de_b6 tX9_bid_61 (by decide +kernel)
def tX9_bid_64 := Bt_3 (q := 64) tX9_bid_61 rfl
theorem dX9_bid_64 : decode cX9_bid 64 = .ok (.ireturn, 1) := de_ac tX9_bid_64
def tX9_bid_65 := Bt_1 (q := 65) tX9_bid_64 rfl
theorem dX9_bid_65 : decode cX9_bid 65 = .ok (.iload 4, 2) := de_15 tX9_bid_65 (by decide +kernel)
def tX9_bid_67 := Bt_2 (q := 67) tX9_bid_65 rfl
theorem dX9_bid_67 : decode cX9_bid 67 = .ok (.iload 5, 2) := de_15 tX9_bid_67 (by decide +kernel)
def tX9_bid_69 := Bt_2 (q := 69) tX9_bid_67 rfl
theorem dX9_bid_69 : decode cX9_bid 69 = .ok (.invokestatic 103, 3) := de_b8 tX9_bid_69 (by decide +kernel)
def tX9_bid_72 := Bt_3 (q := 72) tX9_bid_69 rfl
theorem dX9_bid_72 : decode cX9_bid 72 = .ok (.iload 6, 2) := de_15 tX9_bid_72 (by decide +kernel)
def tX9_bid_74 := Bt_2 (q := 74) tX9_bid_72 rfl
theorem dX9_bid_74 : decode cX9_bid 74 = .ok (.iload 7, 2) := de_15 tX9_bid_74 (by decide +kernel)
def tX9_bid_76 := Bt_2 (q := 76) tX9_bid_74 rfl
theorem dX9_bid_76 : decode cX9_bid 76 = .ok (.invokestatic 103, 3) := de_b8 tX9_bid_76 (by decide +kernel)
def tX9_bid_79 := Bt_3 (q := 79) tX9_bid_76 rfl
theorem dX9_bid_79 : decode cX9_bid 79 = .ok (.invokestatic 103, 3) := de_b8 tX9_bid_79 (by decide +kernel)
def tX9_bid_82 := Bt_3 (q := 82) tX9_bid_79 rfl
theorem dX9_bid_82 : decode cX9_bid 82 = .ok (.istore 11, 2) := de_36 tX9_bid_82 (by decide +kernel)
def tX9_bid_84 := Bt_2 (q := 84) tX9_bid_82 rfl
theorem dX9_bid_84 : decode cX9_bid 84 = .ok (.iload 11, 2) := de_15 tX9_bid_84 (by decide +kernel)
def tX9_bid_86 := Bt_2 (q := 86) tX9_bid_84 rfl
theorem dX9_bid_86 : decode cX9_bid 86 = .ok (.ldc 106, 2) := de_12 tX9_bid_86 (by decide +kernel)
def tX9_bid_88 := Bt_2 (q := 88) tX9_bid_86 rfl
theorem dX9_bid_88 : decode cX9_bid 88 = .ok (.if_icmp .gt 17, 3) := de_a3 tX9_bid_88 (by decide +kernel)
def tX9_bid_91 := Bt_3 (q := 91) tX9_bid_88 rfl
theorem dX9_bid_91 : decode cX9_bid 91 = .ok (.iload 8, 2) := de_15 tX9_bid_91 (by decide +kernel)
def tX9_bid_93 := Bt_2 (q := 93) tX9_bid_91 rfl
theorem dX9_bid_93 : decode cX9_bid 93 = .ok (.ldc 66, 2) := de_12 tX9_bid_93 (by decide +kernel)
def tX9_bid_95 := Bt_2 (q := 95) tX9_bid_93 rfl
theorem dX9_bid_95 : decode cX9_bid 95 = .ok (.if_icmp .gt 10, 3) := de_a3 tX9_bid_95 (by decide +kernel)
def tX9_bid_98 := Bt_3 (q := 98) tX9_bid_95 rfl
theorem dX9_bid_98 : decode cX9_bid 98 = .ok (.iload 9, 2) := de_15 tX9_bid_98 (by decide +kernel)
def tX9_bid_100 := Bt_2 (q := 100) tX9_bid_98 rfl
theorem dX9_bid_100 : decode cX9_bid 100 = .ok (.ldc 106, 2) := de_12 tX9_bid_100 (by decide +kernel)
def tX9_bid_102 := Bt_2 (q := 102) tX9_bid_100 rfl
theorem dX9_bid_102 : decode cX9_bid 102 = .ok (.if_icmp .le 10, 3) := de_a4 tX9_bid_102 (by decide +kernel)
def tX9_bid_105 := Bt_3 (q := 105) tX9_bid_102 rfl
theorem dX9_bid_105 : decode cX9_bid 105 = .ok (.aload_n 0, 1) := de_2a tX9_bid_105
def tX9_bid_106 := Bt_1 (q := 106) tX9_bid_105 rfl
theorem dX9_bid_106 : decode cX9_bid 106 = .ok (.bipush (-6), 2) := de_10 tX9_bid_106 (by decide +kernel)
def tX9_bid_108 := Bt_2 (q := 108) tX9_bid_106 rfl
theorem dX9_bid_108 : decode cX9_bid 108 = .ok (.invokevirtual 62, 3) := de_b6 tX9_bid_108 (by decide +kernel)
def tX9_bid_111 := Bt_3 (q := 111) tX9_bid_108 rfl
theorem dX9_bid_111 : decode cX9_bid 111 = .ok (.ireturn, 1) := de_ac tX9_bid_111
def tX9_bid_112 := Bt_1 (q := 112) tX9_bid_111 rfl
theorem dX9_bid_112 : decode cX9_bid 112 = .ok (.aload_n 0, 1) := de_2a tX9_bid_112
def tX9_bid_113 := Bt_1 (q := 113) tX9_bid_112 rfl
theorem dX9_bid_113 : decode cX9_bid 113 = .ok (.getfield 12, 3) := de_b4 tX9_bid_113 (by decide +kernel)
def tX9_bid_116 := Bt_3 (q := 116) tX9_bid_113 rfl
theorem dX9_bid_116 : decode cX9_bid 116 = .ok (.invokevirtual 71, 3) := de_b6 tX9_bid_116 (by decide +kernel)
def tX9_bid_119 := Bt_3 (q := 119) tX9_bid_116 rfl
theorem dX9_bid_119 : decode cX9_bid 119 = .ok (.ifCond .ne 19, 3) := de_9a tX9_bid_119 (by decide +kernel)
def tX9_bid_122 := Bt_3 (q := 122) tX9_bid_119 rfl
theorem dX9_bid_122 : decode cX9_bid 122 = .ok (.aload_n 0, 1) := de_2a tX9_bid_122
def tX9_bid_123 := Bt_1 (q := 123) tX9_bid_122 rfl
theorem dX9_bid_123 : decode cX9_bid 123 = .ok (.getfield 12, 3) := de_b4 tX9_bid_123 (by decide +kernel)
def tX9_bid_126 := Bt_3 (q := 126) tX9_bid_123 rfl
theorem dX9_bid_126 : decode cX9_bid 126 = .ok (.dup, 1) := de_59 tX9_bid_126
def tX9_bid_127 := Bt_1 (q := 127) tX9_bid_126 rfl
theorem dX9_bid_127 : decode cX9_bid 127 = .ok (.getfield 107, 3) := de_b4 tX9_bid_127 (by decide +kernel)
def tX9_bid_130 := Bt_3 (q := 130) tX9_bid_127 rfl
theorem dX9_bid_130 : decode cX9_bid 130 = .ok (.iconst 1, 1) := de_04 tX9_bid_130
def tX9_bid_131 := Bt_1 (q := 131) tX9_bid_130 rfl
theorem dX9_bid_131 : decode cX9_bid 131 = .ok (.iadd, 1) := de_60 tX9_bid_131
def tX9_bid_132 := Bt_1 (q := 132) tX9_bid_131 rfl
theorem dX9_bid_132 : decode cX9_bid 132 = .ok (.putfield 107, 3) := de_b5 tX9_bid_132 (by decide +kernel)
def tX9_bid_135 := Bt_3 (q := 135) tX9_bid_132 rfl
theorem dX9_bid_135 : decode cX9_bid 135 = .ok (.bipush (-9), 2) := de_10 tX9_bid_135 (by decide +kernel)
def tX9_bid_137 := Bt_2 (q := 137) tX9_bid_135 rfl
theorem dX9_bid_137 : decode cX9_bid 137 = .ok (.ireturn, 1) := de_ac tX9_bid_137
def tX9_bid_138 := Bt_1 (q := 138) tX9_bid_137 rfl
theorem dX9_bid_138 : decode cX9_bid 138 = .ok (.iload_n 1, 1) := de_1b tX9_bid_138
def tX9_bid_139 := Bt_1 (q := 139) tX9_bid_138 rfl
theorem dX9_bid_139 : decode cX9_bid 139 = .ok (.iload_n 2, 1) := de_1c tX9_bid_139
def tX9_bid_140 := Bt_1 (q := 140) tX9_bid_139 rfl
theorem dX9_bid_140 : decode cX9_bid 140 = .ok (.invokestatic 110, 3) := de_b8 tX9_bid_140 (by decide +kernel)
def tX9_bid_143 := Bt_3 (q := 143) tX9_bid_140 rfl
theorem dX9_bid_143 : decode cX9_bid 143 = .ok (.istore 12, 2) := de_36 tX9_bid_143 (by decide +kernel)
def tX9_bid_145 := Bt_2 (q := 145) tX9_bid_143 rfl
theorem dX9_bid_145 : decode cX9_bid 145 = .ok (.aload_n 0, 1) := de_2a tX9_bid_145
def tX9_bid_146 := Bt_1 (q := 146) tX9_bid_145 rfl
theorem dX9_bid_146 : decode cX9_bid 146 = .ok (.getfield 12, 3) := de_b4 tX9_bid_146 (by decide +kernel)
def tX9_bid_149 := Bt_3 (q := 149) tX9_bid_146 rfl
theorem dX9_bid_149 : decode cX9_bid 149 = .ok (.getfield 113, 3) := de_b4 tX9_bid_149 (by decide +kernel)
def tX9_bid_152 := Bt_3 (q := 152) tX9_bid_149 rfl
theorem dX9_bid_152 : decode cX9_bid 152 = .ok (.iload 12, 2) := de_15 tX9_bid_152 (by decide +kernel)
def tX9_bid_154 := Bt_2 (q := 154) tX9_bid_152 rfl
theorem dX9_bid_154 : decode cX9_bid 154 = .ok (.baload, 1) := de_33 tX9_bid_154
def tX9_bid_155 := Bt_1 (q := 155) tX9_bid_154 rfl
theorem dX9_bid_155 : decode cX9_bid 155 = .ok (.istore 13, 2) := de_36 tX9_bid_155 (by decide +kernel)
def tX9_bid_157 := Bt_2 (q := 157) tX9_bid_155 rfl
theorem dX9_bid_157 : decode cX9_bid 157 = .ok (.aload_n 0, 1) := de_2a tX9_bid_157
def tX9_bid_158 := Bt_1 (q := 158) tX9_bid_157 rfl
theorem dX9_bid_158 : decode cX9_bid 158 = .ok (.getfield 12, 3) := de_b4 tX9_bid_158 (by decide +kernel)
def tX9_bid_161 := Bt_3 (q := 161) tX9_bid_158 rfl
theorem dX9_bid_161 : decode cX9_bid 161 = .ok (.iload 12, 2) := de_15 tX9_bid_161 (by decide +kernel)
def tX9_bid_163 := Bt_2 (q := 163) tX9_bid_161 rfl
theorem dX9_bid_163 : decode cX9_bid 163 = .ok (.invokevirtual 117, 3) := de_b6 tX9_bid_163 (by decide +kernel)
def tX9_bid_166 := Bt_3 (q := 166) tX9_bid_163 rfl
theorem dX9_bid_166 : decode cX9_bid 166 = .ok (.aload_n 0, 1) := de_2a tX9_bid_166
def tX9_bid_167 := Bt_1 (q := 167) tX9_bid_166 rfl
theorem dX9_bid_167 : decode cX9_bid 167 = .ok (.getfield 12, 3) := de_b4 tX9_bid_167 (by decide +kernel)
def tX9_bid_170 := Bt_3 (q := 170) tX9_bid_167 rfl
theorem dX9_bid_170 : decode cX9_bid 170 = .ok (.iload 12, 2) := de_15 tX9_bid_170 (by decide +kernel)
def tX9_bid_172 := Bt_2 (q := 172) tX9_bid_170 rfl
theorem dX9_bid_172 : decode cX9_bid 172 = .ok (.iload_n 3, 1) := de_1d tX9_bid_172
def tX9_bid_173 := Bt_1 (q := 173) tX9_bid_172 rfl
theorem dX9_bid_173 : decode cX9_bid 173 = .ok (.iload 8, 2) := de_15 tX9_bid_173 (by decide +kernel)
def tX9_bid_175 := Bt_2 (q := 175) tX9_bid_173 rfl
theorem dX9_bid_175 : decode cX9_bid 175 = .ok (.iload 9, 2) := de_15 tX9_bid_175 (by decide +kernel)
def tX9_bid_177 := Bt_2 (q := 177) tX9_bid_175 rfl
theorem dX9_bid_177 : decode cX9_bid 177 = .ok (.invokevirtual 120, 3) := de_b6 tX9_bid_177 (by decide +kernel)
def tX9_bid_180 := Bt_3 (q := 180) tX9_bid_177 rfl
theorem dX9_bid_180 : decode cX9_bid 180 = .ok (.aload_n 0, 1) := de_2a tX9_bid_180
def tX9_bid_181 := Bt_1 (q := 181) tX9_bid_180 rfl
theorem dX9_bid_181 : decode cX9_bid 181 = .ok (.getfield 12, 3) := de_b4 tX9_bid_181 (by decide +kernel)
def tX9_bid_184 := Bt_3 (q := 184) tX9_bid_181 rfl
theorem dX9_bid_184 : decode cX9_bid 184 = .ok (.iload 12, 2) := de_15 tX9_bid_184 (by decide +kernel)
def tX9_bid_186 := Bt_2 (q := 186) tX9_bid_184 rfl
theorem dX9_bid_186 : decode cX9_bid 186 = .ok (.iload 4, 2) := de_15 tX9_bid_186 (by decide +kernel)
def tX9_bid_188 := Bt_2 (q := 188) tX9_bid_186 rfl
theorem dX9_bid_188 : decode cX9_bid 188 = .ok (.iload 5, 2) := de_15 tX9_bid_188 (by decide +kernel)
def tX9_bid_190 := Bt_2 (q := 190) tX9_bid_188 rfl
theorem dX9_bid_190 : decode cX9_bid 190 = .ok (.iload 6, 2) := de_15 tX9_bid_190 (by decide +kernel)
def tX9_bid_192 := Bt_2 (q := 192) tX9_bid_190 rfl
theorem dX9_bid_192 : decode cX9_bid 192 = .ok (.iload 7, 2) := de_15 tX9_bid_192 (by decide +kernel)
def tX9_bid_194 := Bt_2 (q := 194) tX9_bid_192 rfl
theorem dX9_bid_194 : decode cX9_bid 194 = .ok (.invokevirtual 124, 3) := de_b6 tX9_bid_194 (by decide +kernel)
def tX9_bid_197 := Bt_3 (q := 197) tX9_bid_194 rfl
theorem dX9_bid_197 : decode cX9_bid 197 = .ok (.iload 13, 2) := de_15 tX9_bid_197 (by decide +kernel)
def tX9_bid_199 := Bt_2 (q := 199) tX9_bid_197 rfl
theorem dX9_bid_199 : decode cX9_bid 199 = .ok (.ifCond .eq 7, 3) := de_99 tX9_bid_199 (by decide +kernel)
def tX9_bid_202 := Bt_3 (q := 202) tX9_bid_199 rfl
theorem dX9_bid_202 : decode cX9_bid 202 = .ok (.iconst 0, 1) := de_03 tX9_bid_202
def tX9_bid_203 := Bt_1 (q := 203) tX9_bid_202 rfl
theorem dX9_bid_203 : decode cX9_bid 203 = .ok (.goto 4, 3) := de_a7 tX9_bid_203 (by decide +kernel)
def tX9_bid_206 := Bt_3 (q := 206) tX9_bid_203 rfl
theorem dX9_bid_206 : decode cX9_bid 206 = .ok (.iconst 1, 1) := de_04 tX9_bid_206
def tX9_bid_207 := Bt_1 (q := 207) tX9_bid_206 rfl
theorem dX9_bid_207 : decode cX9_bid 207 = .ok (.ireturn, 1) := de_ac tX9_bid_207
def tX9_withdraw_0 := Bt_0 cX9_withdraw
theorem dX9_withdraw_0 : decode cX9_withdraw 0 = .ok (.aload_n 0, 1) := de_2a tX9_withdraw_0
def tX9_withdraw_1 := Bt_1 (q := 1) tX9_withdraw_0 rfl
theorem dX9_withdraw_1 : decode cX9_withdraw 1 = .ok (.iload_n 1, 1) := de_1b tX9_withdraw_1
def tX9_withdraw_2 := Bt_1 (q := 2) tX9_withdraw_1 rfl
theorem dX9_withdraw_2 : decode cX9_withdraw 2 = .ok (.iload_n 2, 1) := de_1c tX9_withdraw_2
def tX9_withdraw_3 := Bt_1 (q := 3) tX9_withdraw_2 rfl
theorem dX9_withdraw_3 : decode cX9_withdraw 3 = .ok (.invokevirtual 93, 3) := de_b6 tX9_withdraw_3 (by decide +kernel)
def tX9_withdraw_6 := Bt_3 (q := 6) tX9_withdraw_3 rfl
theorem dX9_withdraw_6 : decode cX9_withdraw 6 = .ok (.ifCond .eq 9, 3) := de_99 tX9_withdraw_6 (by decide +kernel)
def tX9_withdraw_9 := Bt_3 (q := 9) tX9_withdraw_6 rfl
theorem dX9_withdraw_9 : decode cX9_withdraw 9 = .ok (.aload_n 0, 1) := de_2a tX9_withdraw_9
def tX9_withdraw_10 := Bt_1 (q := 10) tX9_withdraw_9 rfl
theorem dX9_withdraw_10 : decode cX9_withdraw 10 = .ok (.iconst (-1), 1) := de_02 tX9_withdraw_10
def tX9_withdraw_11 := Bt_1 (q := 11) tX9_withdraw_10 rfl
theorem dX9_withdraw_11 : decode cX9_withdraw 11 = .ok (.invokevirtual 62, 3) := de_b6 tX9_withdraw_11 (by decide +kernel)
def tX9_withdraw_14 := Bt_3 (q := 14) tX9_withdraw_11 rfl
theorem dX9_withdraw_14 : decode cX9_withdraw 14 = .ok (.ireturn, 1) := de_ac tX9_withdraw_14
def tX9_withdraw_15 := Bt_1 (q := 15) tX9_withdraw_14 rfl
theorem dX9_withdraw_15 : decode cX9_withdraw 15 = .ok (.iload_n 1, 1) := de_1b tX9_withdraw_15
def tX9_withdraw_16 := Bt_1 (q := 16) tX9_withdraw_15 rfl
theorem dX9_withdraw_16 : decode cX9_withdraw 16 = .ok (.iload_n 2, 1) := de_1c tX9_withdraw_16
def tX9_withdraw_17 := Bt_1 (q := 17) tX9_withdraw_16 rfl
theorem dX9_withdraw_17 : decode cX9_withdraw 17 = .ok (.invokestatic 110, 3) := de_b8 tX9_withdraw_17 (by decide +kernel)
def tX9_withdraw_20 := Bt_3 (q := 20) tX9_withdraw_17 rfl
theorem dX9_withdraw_20 : decode cX9_withdraw 20 = .ok (.istore_n 3, 1) := de_3e tX9_withdraw_20
def tX9_withdraw_21 := Bt_1 (q := 21) tX9_withdraw_20 rfl
theorem dX9_withdraw_21 : decode cX9_withdraw 21 = .ok (.aload_n 0, 1) := de_2a tX9_withdraw_21
def tX9_withdraw_22 := Bt_1 (q := 22) tX9_withdraw_21 rfl
theorem dX9_withdraw_22 : decode cX9_withdraw 22 = .ok (.getfield 12, 3) := de_b4 tX9_withdraw_22 (by decide +kernel)
def tX9_withdraw_25 := Bt_3 (q := 25) tX9_withdraw_22 rfl
theorem dX9_withdraw_25 : decode cX9_withdraw 25 = .ok (.getfield 113, 3) := de_b4 tX9_withdraw_25 (by decide +kernel)
def tX9_withdraw_28 := Bt_3 (q := 28) tX9_withdraw_25 rfl
theorem dX9_withdraw_28 : decode cX9_withdraw 28 = .ok (.iload_n 3, 1) := de_1d tX9_withdraw_28
def tX9_withdraw_29 := Bt_1 (q := 29) tX9_withdraw_28 rfl
theorem dX9_withdraw_29 : decode cX9_withdraw 29 = .ok (.baload, 1) := de_33 tX9_withdraw_29
def tX9_withdraw_30 := Bt_1 (q := 30) tX9_withdraw_29 rfl
theorem dX9_withdraw_30 : decode cX9_withdraw 30 = .ok (.ifCond .ne 10, 3) := de_9a tX9_withdraw_30 (by decide +kernel)
def tX9_withdraw_33 := Bt_3 (q := 33) tX9_withdraw_30 rfl
theorem dX9_withdraw_33 : decode cX9_withdraw 33 = .ok (.aload_n 0, 1) := de_2a tX9_withdraw_33
def tX9_withdraw_34 := Bt_1 (q := 34) tX9_withdraw_33 rfl
theorem dX9_withdraw_34 : decode cX9_withdraw 34 = .ok (.bipush (-5), 2) := de_10 tX9_withdraw_34 (by decide +kernel)
def tX9_withdraw_36 := Bt_2 (q := 36) tX9_withdraw_34 rfl
theorem dX9_withdraw_36 : decode cX9_withdraw 36 = .ok (.invokevirtual 62, 3) := de_b6 tX9_withdraw_36 (by decide +kernel)
def tX9_withdraw_39 := Bt_3 (q := 39) tX9_withdraw_36 rfl
theorem dX9_withdraw_39 : decode cX9_withdraw 39 = .ok (.ireturn, 1) := de_ac tX9_withdraw_39
def tX9_withdraw_40 := Bt_1 (q := 40) tX9_withdraw_39 rfl
theorem dX9_withdraw_40 : decode cX9_withdraw 40 = .ok (.aload_n 0, 1) := de_2a tX9_withdraw_40
def tX9_withdraw_41 := Bt_1 (q := 41) tX9_withdraw_40 rfl
theorem dX9_withdraw_41 : decode cX9_withdraw 41 = .ok (.getfield 12, 3) := de_b4 tX9_withdraw_41 (by decide +kernel)
def tX9_withdraw_44 := Bt_3 (q := 44) tX9_withdraw_41 rfl
theorem dX9_withdraw_44 : decode cX9_withdraw 44 = .ok (.invokevirtual 71, 3) := de_b6 tX9_withdraw_44 (by decide +kernel)
def tX9_withdraw_47 := Bt_3 (q := 47) tX9_withdraw_44 rfl
theorem dX9_withdraw_47 : decode cX9_withdraw 47 = .ok (.ifCond .ne 19, 3) := de_9a tX9_withdraw_47 (by decide +kernel)
def tX9_withdraw_50 := Bt_3 (q := 50) tX9_withdraw_47 rfl
theorem dX9_withdraw_50 : decode cX9_withdraw 50 = .ok (.aload_n 0, 1) := de_2a tX9_withdraw_50
def tX9_withdraw_51 := Bt_1 (q := 51) tX9_withdraw_50 rfl
theorem dX9_withdraw_51 : decode cX9_withdraw 51 = .ok (.getfield 12, 3) := de_b4 tX9_withdraw_51 (by decide +kernel)
def tX9_withdraw_54 := Bt_3 (q := 54) tX9_withdraw_51 rfl
theorem dX9_withdraw_54 : decode cX9_withdraw 54 = .ok (.dup, 1) := de_59 tX9_withdraw_54
def tX9_withdraw_55 := Bt_1 (q := 55) tX9_withdraw_54 rfl
theorem dX9_withdraw_55 : decode cX9_withdraw 55 = .ok (.getfield 107, 3) := de_b4 tX9_withdraw_55 (by decide +kernel)
def tX9_withdraw_58 := Bt_3 (q := 58) tX9_withdraw_55 rfl
theorem dX9_withdraw_58 : decode cX9_withdraw 58 = .ok (.iconst 1, 1) := de_04 tX9_withdraw_58
def tX9_withdraw_59 := Bt_1 (q := 59) tX9_withdraw_58 rfl
theorem dX9_withdraw_59 : decode cX9_withdraw 59 = .ok (.iadd, 1) := de_60 tX9_withdraw_59
def tX9_withdraw_60 := Bt_1 (q := 60) tX9_withdraw_59 rfl
theorem dX9_withdraw_60 : decode cX9_withdraw 60 = .ok (.putfield 107, 3) := de_b5 tX9_withdraw_60 (by decide +kernel)
def tX9_withdraw_63 := Bt_3 (q := 63) tX9_withdraw_60 rfl
theorem dX9_withdraw_63 : decode cX9_withdraw 63 = .ok (.bipush (-9), 2) := de_10 tX9_withdraw_63 (by decide +kernel)
def tX9_withdraw_65 := Bt_2 (q := 65) tX9_withdraw_63 rfl
theorem dX9_withdraw_65 : decode cX9_withdraw 65 = .ok (.ireturn, 1) := de_ac tX9_withdraw_65
def tX9_withdraw_66 := Bt_1 (q := 66) tX9_withdraw_65 rfl
theorem dX9_withdraw_66 : decode cX9_withdraw 66 = .ok (.aload_n 0, 1) := de_2a tX9_withdraw_66
def tX9_withdraw_67 := Bt_1 (q := 67) tX9_withdraw_66 rfl
theorem dX9_withdraw_67 : decode cX9_withdraw 67 = .ok (.getfield 12, 3) := de_b4 tX9_withdraw_67 (by decide +kernel)
def tX9_withdraw_70 := Bt_3 (q := 70) tX9_withdraw_67 rfl
theorem dX9_withdraw_70 : decode cX9_withdraw 70 = .ok (.iload_n 3, 1) := de_1d tX9_withdraw_70
def tX9_withdraw_71 := Bt_1 (q := 71) tX9_withdraw_70 rfl
theorem dX9_withdraw_71 : decode cX9_withdraw 71 = .ok (.invokevirtual 117, 3) := de_b6 tX9_withdraw_71 (by decide +kernel)
def tX9_withdraw_74 := Bt_3 (q := 74) tX9_withdraw_71 rfl
theorem dX9_withdraw_74 : decode cX9_withdraw 74 = .ok (.iconst 1, 1) := de_04 tX9_withdraw_74
def tX9_withdraw_75 := Bt_1 (q := 75) tX9_withdraw_74 rfl
theorem dX9_withdraw_75 : decode cX9_withdraw 75 = .ok (.ireturn, 1) := de_ac tX9_withdraw_75
def tX9_set_0 := Bt_0 cX9_set
theorem dX9_set_0 : decode cX9_set 0 = .ok (.iload_n 1, 1) := de_1b tX9_set_0
def tX9_set_1 := Bt_1 (q := 1) tX9_set_0 rfl
theorem dX9_set_1 : decode cX9_set 1 = .ok (.ifCond .lt 15, 3) := de_9b tX9_set_1 (by decide +kernel)
def tX9_set_4 := Bt_3 (q := 4) tX9_set_1 rfl
theorem dX9_set_4 : decode cX9_set 4 = .ok (.iload_n 1, 1) := de_1b tX9_set_4
def tX9_set_5 := Bt_1 (q := 5) tX9_set_4 rfl
theorem dX9_set_5 : decode cX9_set 5 = .ok (.aload_n 0, 1) := de_2a tX9_set_5
def tX9_set_6 := Bt_1 (q := 6) tX9_set_5 rfl
theorem dX9_set_6 : decode cX9_set 6 = .ok (.getfield 12, 3) := de_b4 tX9_set_6 (by decide +kernel)
def tX9_set_9 := Bt_3 (q := 9) tX9_set_6 rfl
theorem dX9_set_9 : decode cX9_set 9 = .ok (.getfield 128, 3) := de_b4 tX9_set_9 (by decide +kernel)
def tX9_set_12 := Bt_3 (q := 12) tX9_set_9 rfl
theorem dX9_set_12 : decode cX9_set 12 = .ok (.arraylength, 1) := de_be tX9_set_12
def tX9_set_13 := Bt_1 (q := 13) tX9_set_12 rfl
theorem dX9_set_13 : decode cX9_set 13 = .ok (.if_icmp .lt 10, 3) := de_a1 tX9_set_13 (by decide +kernel)
def tX9_set_16 := Bt_3 (q := 16) tX9_set_13 rfl
theorem dX9_set_16 : decode cX9_set 16 = .ok (.aload_n 0, 1) := de_2a tX9_set_16
def tX9_set_17 := Bt_1 (q := 17) tX9_set_16 rfl
theorem dX9_set_17 : decode cX9_set 17 = .ok (.bipush (-2), 2) := de_10 tX9_set_17 (by decide +kernel)
def tX9_set_19 := Bt_2 (q := 19) tX9_set_17 rfl
theorem dX9_set_19 : decode cX9_set 19 = .ok (.invokevirtual 62, 3) := de_b6 tX9_set_19 (by decide +kernel)
def tX9_set_22 := Bt_3 (q := 22) tX9_set_19 rfl
theorem dX9_set_22 : decode cX9_set 22 = .ok (.ireturn, 1) := de_ac tX9_set_22
def tX9_set_23 := Bt_1 (q := 23) tX9_set_22 rfl
theorem dX9_set_23 : decode cX9_set 23 = .ok (.iload_n 2, 1) := de_1c tX9_set_23
def tX9_set_24 := Bt_1 (q := 24) tX9_set_23 rfl
theorem dX9_set_24 : decode cX9_set 24 = .ok (.iconst 0, 1) := de_03 tX9_set_24
def tX9_set_25 := Bt_1 (q := 25) tX9_set_24 rfl
theorem dX9_set_25 : decode cX9_set 25 = .ok (.iload_n 1, 1) := de_1b tX9_set_25
def tX9_set_26 := Bt_1 (q := 26) tX9_set_25 rfl
theorem dX9_set_26 : decode cX9_set 26 = .ok (.ifCond .ne 7, 3) := de_9a tX9_set_26 (by decide +kernel)
def tX9_set_29 := Bt_3 (q := 29) tX9_set_26 rfl
theorem dX9_set_29 : decode cX9_set 29 = .ok (.iconst 2, 1) := de_05 tX9_set_29
def tX9_set_30 := Bt_1 (q := 30) tX9_set_29 rfl
theorem dX9_set_30 : decode cX9_set 30 = .ok (.goto 5, 3) := de_a7 tX9_set_30 (by decide +kernel)
def tX9_set_33 := Bt_3 (q := 33) tX9_set_30 rfl
theorem dX9_set_33 : decode cX9_set 33 = .ok (.bipush 100, 2) := de_10 tX9_set_33 (by decide +kernel)
def tX9_set_35 := Bt_2 (q := 35) tX9_set_33 rfl
theorem dX9_set_35 : decode cX9_set 35 = .ok (.invokestatic 76, 3) := de_b8 tX9_set_35 (by decide +kernel)
def tX9_set_38 := Bt_3 (q := 38) tX9_set_35 rfl
theorem dX9_set_38 : decode cX9_set 38 = .ok (.istore_n 3, 1) := de_3e tX9_set_38
def tX9_set_39 := Bt_1 (q := 39) tX9_set_38 rfl
theorem dX9_set_39 : decode cX9_set 39 = .ok (.iload_n 3, 1) := de_1d tX9_set_39
def tX9_set_40 := Bt_1 (q := 40) tX9_set_39 rfl
theorem dX9_set_40 : decode cX9_set 40 = .ok (.ifCond .eq 9, 3) := de_99 tX9_set_40 (by decide +kernel)
def tX9_set_43 := Bt_3 (q := 43) tX9_set_40 rfl
theorem dX9_set_43 : decode cX9_set 43 = .ok (.aload_n 0, 1) := de_2a tX9_set_43
def tX9_set_44 := Bt_1 (q := 44) tX9_set_43 rfl
theorem dX9_set_44 : decode cX9_set 44 = .ok (.iload_n 3, 1) := de_1d tX9_set_44
def tX9_set_45 := Bt_1 (q := 45) tX9_set_44 rfl
theorem dX9_set_45 : decode cX9_set 45 = .ok (.invokevirtual 62, 3) := de_b6 tX9_set_45 (by decide +kernel)
def tX9_set_48 := Bt_3 (q := 48) tX9_set_45 rfl
theorem dX9_set_48 : decode cX9_set 48 = .ok (.ireturn, 1) := de_ac tX9_set_48
def tX9_set_49 := Bt_1 (q := 49) tX9_set_48 rfl
theorem dX9_set_49 : decode cX9_set 49 = .ok (.aload_n 0, 1) := de_2a tX9_set_49
def tX9_set_50 := Bt_1 (q := 50) tX9_set_49 rfl
theorem dX9_set_50 : decode cX9_set 50 = .ok (.getfield 12, 3) := de_b4 tX9_set_50 (by decide +kernel)
def tX9_set_53 := Bt_3 (q := 53) tX9_set_50 rfl
theorem dX9_set_53 : decode cX9_set 53 = .ok (.getfield 128, 3) := de_b4 tX9_set_53 (by decide +kernel)
def tX9_set_56 := Bt_3 (q := 56) tX9_set_53 rfl
theorem dX9_set_56 : decode cX9_set 56 = .ok (.iload_n 1, 1) := de_1b tX9_set_56
def tX9_set_57 := Bt_1 (q := 57) tX9_set_56 rfl
theorem dX9_set_57 : decode cX9_set 57 = .ok (.iaload, 1) := de_2e tX9_set_57
def tX9_set_58 := Bt_1 (q := 58) tX9_set_57 rfl
theorem dX9_set_58 : decode cX9_set 58 = .ok (.istore 4, 2) := de_36 tX9_set_58 (by decide +kernel)
def tX9_set_60 := Bt_2 (q := 60) tX9_set_58 rfl
theorem dX9_set_60 : decode cX9_set 60 = .ok (.aload_n 0, 1) := de_2a tX9_set_60
def tX9_set_61 := Bt_1 (q := 61) tX9_set_60 rfl
theorem dX9_set_61 : decode cX9_set 61 = .ok (.getfield 12, 3) := de_b4 tX9_set_61 (by decide +kernel)
def tX9_set_64 := Bt_3 (q := 64) tX9_set_61 rfl
theorem dX9_set_64 : decode cX9_set 64 = .ok (.getfield 128, 3) := de_b4 tX9_set_64 (by decide +kernel)
def tX9_set_67 := Bt_3 (q := 67) tX9_set_64 rfl
theorem dX9_set_67 : decode cX9_set 67 = .ok (.iload_n 1, 1) := de_1b tX9_set_67
def tX9_set_68 := Bt_1 (q := 68) tX9_set_67 rfl
theorem dX9_set_68 : decode cX9_set 68 = .ok (.iload_n 2, 1) := de_1c tX9_set_68
def tX9_set_69 := Bt_1 (q := 69) tX9_set_68 rfl
theorem dX9_set_69 : decode cX9_set 69 = .ok (.iastore, 1) := de_4f tX9_set_69
def tX9_set_70 := Bt_1 (q := 70) tX9_set_69 rfl
theorem dX9_set_70 : decode cX9_set 70 = .ok (.iload 4, 2) := de_15 tX9_set_70 (by decide +kernel)
def tX9_set_72 := Bt_2 (q := 72) tX9_set_70 rfl
theorem dX9_set_72 : decode cX9_set 72 = .ok (.ireturn, 1) := de_ac tX9_set_72
def tX9_price_0 := Bt_0 cX9_price
theorem dX9_price_0 : decode cX9_price 0 = .ok (.aload_n 0, 1) := de_2a tX9_price_0
def tX9_price_1 := Bt_1 (q := 1) tX9_price_0 rfl
theorem dX9_price_1 : decode cX9_price 1 = .ok (.iload_n 1, 1) := de_1b tX9_price_1
def tX9_price_2 := Bt_1 (q := 2) tX9_price_1 rfl
theorem dX9_price_2 : decode cX9_price 2 = .ok (.iload_n 2, 1) := de_1c tX9_price_2
def tX9_price_3 := Bt_1 (q := 3) tX9_price_2 rfl
theorem dX9_price_3 : decode cX9_price 3 = .ok (.invokevirtual 93, 3) := de_b6 tX9_price_3 (by decide +kernel)
def tX9_price_6 := Bt_3 (q := 6) tX9_price_3 rfl
theorem dX9_price_6 : decode cX9_price 6 = .ok (.ifCond .eq 9, 3) := de_99 tX9_price_6 (by decide +kernel)
def tX9_price_9 := Bt_3 (q := 9) tX9_price_6 rfl
theorem dX9_price_9 : decode cX9_price 9 = .ok (.aload_n 0, 1) := de_2a tX9_price_9
def tX9_price_10 := Bt_1 (q := 10) tX9_price_9 rfl
theorem dX9_price_10 : decode cX9_price 10 = .ok (.iconst (-1), 1) := de_02 tX9_price_10
def tX9_price_11 := Bt_1 (q := 11) tX9_price_10 rfl
theorem dX9_price_11 : decode cX9_price 11 = .ok (.invokevirtual 62, 3) := de_b6 tX9_price_11 (by decide +kernel)
def tX9_price_14 := Bt_3 (q := 14) tX9_price_11 rfl
theorem dX9_price_14 : decode cX9_price 14 = .ok (.ireturn, 1) := de_ac tX9_price_14
def tX9_price_15 := Bt_1 (q := 15) tX9_price_14 rfl
theorem dX9_price_15 : decode cX9_price 15 = .ok (.iload_n 1, 1) := de_1b tX9_price_15
def tX9_price_16 := Bt_1 (q := 16) tX9_price_15 rfl
theorem dX9_price_16 : decode cX9_price 16 = .ok (.iload_n 2, 1) := de_1c tX9_price_16
def tX9_price_17 := Bt_1 (q := 17) tX9_price_16 rfl
theorem dX9_price_17 : decode cX9_price 17 = .ok (.invokestatic 110, 3) := de_b8 tX9_price_17 (by decide +kernel)
def tX9_price_20 := Bt_3 (q := 20) tX9_price_17 rfl
theorem dX9_price_20 : decode cX9_price 20 = .ok (.istore_n 3, 1) := de_3e tX9_price_20
def tX9_price_21 := Bt_1 (q := 21) tX9_price_20 rfl
theorem dX9_price_21 : decode cX9_price 21 = .ok (.aload_n 0, 1) := de_2a tX9_price_21
def tX9_price_22 := Bt_1 (q := 22) tX9_price_21 rfl
theorem dX9_price_22 : decode cX9_price 22 = .ok (.getfield 12, 3) := de_b4 tX9_price_22 (by decide +kernel)
def tX9_price_25 := Bt_3 (q := 25) tX9_price_22 rfl
theorem dX9_price_25 : decode cX9_price 25 = .ok (.getfield 113, 3) := de_b4 tX9_price_25 (by decide +kernel)
def tX9_price_28 := Bt_3 (q := 28) tX9_price_25 rfl
theorem dX9_price_28 : decode cX9_price 28 = .ok (.iload_n 3, 1) := de_1d tX9_price_28
def tX9_price_29 := Bt_1 (q := 29) tX9_price_28 rfl
theorem dX9_price_29 : decode cX9_price 29 = .ok (.baload, 1) := de_33 tX9_price_29
def tX9_price_30 := Bt_1 (q := 30) tX9_price_29 rfl
theorem dX9_price_30 : decode cX9_price 30 = .ok (.ifCond .ne 10, 3) := de_9a tX9_price_30 (by decide +kernel)
def tX9_price_33 := Bt_3 (q := 33) tX9_price_30 rfl
theorem dX9_price_33 : decode cX9_price 33 = .ok (.aload_n 0, 1) := de_2a tX9_price_33
def tX9_price_34 := Bt_1 (q := 34) tX9_price_33 rfl
theorem dX9_price_34 : decode cX9_price 34 = .ok (.bipush (-5), 2) := de_10 tX9_price_34 (by decide +kernel)
def tX9_price_36 := Bt_2 (q := 36) tX9_price_34 rfl
theorem dX9_price_36 : decode cX9_price 36 = .ok (.invokevirtual 62, 3) := de_b6 tX9_price_36 (by decide +kernel)
def tX9_price_39 := Bt_3 (q := 39) tX9_price_36 rfl
theorem dX9_price_39 : decode cX9_price 39 = .ok (.ireturn, 1) := de_ac tX9_price_39
def tX9_price_40 := Bt_1 (q := 40) tX9_price_39 rfl
theorem dX9_price_40 : decode cX9_price 40 = .ok (.aload_n 0, 1) := de_2a tX9_price_40
def tX9_price_41 := Bt_1 (q := 41) tX9_price_40 rfl
theorem dX9_price_41 : decode cX9_price 41 = .ok (.getfield 12, 3) := de_b4 tX9_price_41 (by decide +kernel)
def tX9_price_44 := Bt_3 (q := 44) tX9_price_41 rfl
theorem dX9_price_44 : decode cX9_price 44 = .ok (.iload_n 3, 1) := de_1d tX9_price_44
def tX9_price_45 := Bt_1 (q := 45) tX9_price_44 rfl
theorem dX9_price_45 : decode cX9_price 45 = .ok (.invokevirtual 131, 3) := de_b6 tX9_price_45 (by decide +kernel)
def tX9_price_48 := Bt_3 (q := 48) tX9_price_45 rfl
theorem dX9_price_48 : decode cX9_price 48 = .ok (.ireturn, 1) := de_ac tX9_price_48
def tX9_note_0 := Bt_0 cX9_note
theorem dX9_note_0 : decode cX9_note 0 = .ok (.iload_n 1, 1) := de_1b tX9_note_0
def tX9_note_1 := Bt_1 (q := 1) tX9_note_0 rfl
theorem dX9_note_1 : decode cX9_note 1 = .ok (.invokestatic 134, 3) := de_b8 tX9_note_1 (by decide +kernel)
def tX9_note_4 := Bt_3 (q := 4) tX9_note_1 rfl
theorem dX9_note_4 : decode cX9_note 4 = .ok (.ifCond .ne 12, 3) := de_9a tX9_note_4 (by decide +kernel)
def tX9_note_7 := Bt_3 (q := 7) tX9_note_4 rfl
theorem dX9_note_7 : decode cX9_note 7 = .ok (.aload_n 0, 1) := de_2a tX9_note_7
def tX9_note_8 := Bt_1 (q := 8) tX9_note_7 rfl
theorem dX9_note_8 : decode cX9_note 8 = .ok (.iload_n 2, 1) := de_1c tX9_note_8
def tX9_note_9 := Bt_1 (q := 9) tX9_note_8 rfl
theorem dX9_note_9 : decode cX9_note 9 = .ok (.iload_n 3, 1) := de_1d tX9_note_9
def tX9_note_10 := Bt_1 (q := 10) tX9_note_9 rfl
theorem dX9_note_10 : decode cX9_note 10 = .ok (.invokevirtual 93, 3) := de_b6 tX9_note_10 (by decide +kernel)
def tX9_note_13 := Bt_3 (q := 13) tX9_note_10 rfl
theorem dX9_note_13 : decode cX9_note 13 = .ok (.ifCond .eq 9, 3) := de_99 tX9_note_13 (by decide +kernel)
def tX9_note_16 := Bt_3 (q := 16) tX9_note_13 rfl
theorem dX9_note_16 : decode cX9_note 16 = .ok (.aload_n 0, 1) := de_2a tX9_note_16
def tX9_note_17 := Bt_1 (q := 17) tX9_note_16 rfl
theorem dX9_note_17 : decode cX9_note 17 = .ok (.iconst (-1), 1) := de_02 tX9_note_17
def tX9_note_18 := Bt_1 (q := 18) tX9_note_17 rfl
theorem dX9_note_18 : decode cX9_note 18 = .ok (.invokevirtual 62, 3) := de_b6 tX9_note_18 (by decide +kernel)
def tX9_note_21 := Bt_3 (q := 21) tX9_note_18 rfl
theorem dX9_note_21 : decode cX9_note 21 = .ok (.ireturn, 1) := de_ac tX9_note_21
def tX9_note_22 := Bt_1 (q := 22) tX9_note_21 rfl
theorem dX9_note_22 : decode cX9_note 22 = .ok (.iload_n 2, 1) := de_1c tX9_note_22
def tX9_note_23 := Bt_1 (q := 23) tX9_note_22 rfl
theorem dX9_note_23 : decode cX9_note 23 = .ok (.iload_n 3, 1) := de_1d tX9_note_23
def tX9_note_24 := Bt_1 (q := 24) tX9_note_23 rfl
theorem dX9_note_24 : decode cX9_note 24 = .ok (.invokestatic 110, 3) := de_b8 tX9_note_24 (by decide +kernel)
def tX9_note_27 := Bt_3 (q := 27) tX9_note_24 rfl
theorem dX9_note_27 : decode cX9_note 27 = .ok (.istore 5, 2) := de_36 tX9_note_27 (by decide +kernel)
def tX9_note_29 := Bt_2 (q := 29) tX9_note_27 rfl
theorem dX9_note_29 : decode cX9_note 29 = .ok (.aload_n 0, 1) := de_2a tX9_note_29
def tX9_note_30 := Bt_1 (q := 30) tX9_note_29 rfl
theorem dX9_note_30 : decode cX9_note 30 = .ok (.getfield 12, 3) := de_b4 tX9_note_30 (by decide +kernel)
def tX9_note_33 := Bt_3 (q := 33) tX9_note_30 rfl
theorem dX9_note_33 : decode cX9_note 33 = .ok (.iload 5, 2) := de_15 tX9_note_33 (by decide +kernel)
def tX9_note_35 := Bt_2 (q := 35) tX9_note_33 rfl
theorem dX9_note_35 : decode cX9_note 35 = .ok (.invokevirtual 138, 3) := de_b6 tX9_note_35 (by decide +kernel)
def tX9_note_38 := Bt_3 (q := 38) tX9_note_35 rfl
theorem dX9_note_38 : decode cX9_note 38 = .ok (.ifCond .ne 10, 3) := de_9a tX9_note_38 (by decide +kernel)
def tX9_note_41 := Bt_3 (q := 41) tX9_note_38 rfl
theorem dX9_note_41 : decode cX9_note 41 = .ok (.aload_n 0, 1) := de_2a tX9_note_41
def tX9_note_42 := Bt_1 (q := 42) tX9_note_41 rfl
theorem dX9_note_42 : decode cX9_note 42 = .ok (.bipush (-5), 2) := de_10 tX9_note_42 (by decide +kernel)
def tX9_note_44 := Bt_2 (q := 44) tX9_note_42 rfl
theorem dX9_note_44 : decode cX9_note 44 = .ok (.invokevirtual 62, 3) := de_b6 tX9_note_44 (by decide +kernel)
def tX9_note_47 := Bt_3 (q := 47) tX9_note_44 rfl
theorem dX9_note_47 : decode cX9_note 47 = .ok (.ireturn, 1) := de_ac tX9_note_47
def tX9_note_48 := Bt_1 (q := 48) tX9_note_47 rfl
theorem dX9_note_48 : decode cX9_note 48 = .ok (.aload_n 0, 1) := de_2a tX9_note_48
def tX9_note_49 := Bt_1 (q := 49) tX9_note_48 rfl
theorem dX9_note_49 : decode cX9_note 49 = .ok (.getfield 12, 3) := de_b4 tX9_note_49 (by decide +kernel)
def tX9_note_52 := Bt_3 (q := 52) tX9_note_49 rfl
theorem dX9_note_52 : decode cX9_note 52 = .ok (.invokevirtual 71, 3) := de_b6 tX9_note_52 (by decide +kernel)
def tX9_note_55 := Bt_3 (q := 55) tX9_note_52 rfl
theorem dX9_note_55 : decode cX9_note 55 = .ok (.ifCond .eq 10, 3) := de_99 tX9_note_55 (by decide +kernel)
def tX9_note_58 := Bt_3 (q := 58) tX9_note_55 rfl
theorem dX9_note_58 : decode cX9_note 58 = .ok (.aload_n 0, 1) := de_2a tX9_note_58
def tX9_note_59 := Bt_1 (q := 59) tX9_note_58 rfl
theorem dX9_note_59 : decode cX9_note 59 = .ok (.bipush (-3), 2) := de_10 tX9_note_59 (by decide +kernel)
def tX9_note_61 := Bt_2 (q := 61) tX9_note_59 rfl
theorem dX9_note_61 : decode cX9_note 61 = .ok (.invokevirtual 62, 3) := de_b6 tX9_note_61 (by decide +kernel)
def tX9_note_64 := Bt_3 (q := 64) tX9_note_61 rfl
theorem dX9_note_64 : decode cX9_note 64 = .ok (.ireturn, 1) := de_ac tX9_note_64
def tX9_note_65 := Bt_1 (q := 65) tX9_note_64 rfl
theorem dX9_note_65 : decode cX9_note 65 = .ok (.iload 4, 2) := de_15 tX9_note_65 (by decide +kernel)
def tX9_note_67 := Bt_2 (q := 67) tX9_note_65 rfl
theorem dX9_note_67 : decode cX9_note 67 = .ok (.iconst 0, 1) := de_03 tX9_note_67
def tX9_note_68 := Bt_1 (q := 68) tX9_note_67 rfl
theorem dX9_note_68 : decode cX9_note 68 = .ok (.bipush 100, 2) := de_10 tX9_note_68 (by decide +kernel)
def tX9_note_70 := Bt_2 (q := 70) tX9_note_68 rfl
theorem dX9_note_70 : decode cX9_note 70 = .ok (.invokestatic 76, 3) := de_b8 tX9_note_70 (by decide +kernel)
def tX9_note_73 := Bt_3 (q := 73) tX9_note_70 rfl
theorem dX9_note_73 : decode cX9_note 73 = .ok (.istore 6, 2) := de_36 tX9_note_73 (by decide +kernel)
def tX9_note_75 := Bt_2 (q := 75) tX9_note_73 rfl
theorem dX9_note_75 : decode cX9_note 75 = .ok (.iload 6, 2) := de_15 tX9_note_75 (by decide +kernel)
def tX9_note_77 := Bt_2 (q := 77) tX9_note_75 rfl
theorem dX9_note_77 : decode cX9_note 77 = .ok (.ifCond .eq 10, 3) := de_99 tX9_note_77 (by decide +kernel)
def tX9_note_80 := Bt_3 (q := 80) tX9_note_77 rfl
theorem dX9_note_80 : decode cX9_note 80 = .ok (.aload_n 0, 1) := de_2a tX9_note_80
def tX9_note_81 := Bt_1 (q := 81) tX9_note_80 rfl
theorem dX9_note_81 : decode cX9_note 81 = .ok (.iload 6, 2) := de_15 tX9_note_81 (by decide +kernel)
def tX9_note_83 := Bt_2 (q := 83) tX9_note_81 rfl
theorem dX9_note_83 : decode cX9_note 83 = .ok (.invokevirtual 62, 3) := de_b6 tX9_note_83 (by decide +kernel)
def tX9_note_86 := Bt_3 (q := 86) tX9_note_83 rfl
theorem dX9_note_86 : decode cX9_note 86 = .ok (.ireturn, 1) := de_ac tX9_note_86
def tX9_note_87 := Bt_1 (q := 87) tX9_note_86 rfl
theorem dX9_note_87 : decode cX9_note 87 = .ok (.aload_n 0, 1) := de_2a tX9_note_87
def tX9_note_88 := Bt_1 (q := 88) tX9_note_87 rfl
theorem dX9_note_88 : decode cX9_note 88 = .ok (.getfield 19, 3) := de_b4 tX9_note_88 (by decide +kernel)
def tX9_note_91 := Bt_3 (q := 91) tX9_note_88 rfl
theorem dX9_note_91 : decode cX9_note 91 = .ok (.iload_n 1, 1) := de_1b tX9_note_91
def tX9_note_92 := Bt_1 (q := 92) tX9_note_91 rfl
theorem dX9_note_92 : decode cX9_note 92 = .ok (.iload 5, 2) := de_15 tX9_note_92 (by decide +kernel)
def tX9_note_94 := Bt_2 (q := 94) tX9_note_92 rfl
theorem dX9_note_94 : decode cX9_note 94 = .ok (.iload 4, 2) := de_15 tX9_note_94 (by decide +kernel)
def tX9_note_96 := Bt_2 (q := 96) tX9_note_94 rfl
theorem dX9_note_96 : decode cX9_note 96 = .ok (.invokevirtual 141, 3) := de_b6 tX9_note_96 (by decide +kernel)
def tX9_note_99 := Bt_3 (q := 99) tX9_note_96 rfl
theorem dX9_note_99 : decode cX9_note 99 = .ok (.ireturn, 1) := de_ac tX9_note_99
def tX9_bar_0 := Bt_0 cX9_bar
theorem dX9_bar_0 : decode cX9_bar 0 = .ok (.iload_n 1, 1) := de_1b tX9_bar_0
def tX9_bar_1 := Bt_1 (q := 1) tX9_bar_0 rfl
theorem dX9_bar_1 : decode cX9_bar 1 = .ok (.invokestatic 134, 3) := de_b8 tX9_bar_1 (by decide +kernel)
def tX9_bar_4 := Bt_3 (q := 4) tX9_bar_1 rfl
theorem dX9_bar_4 : decode cX9_bar 4 = .ok (.ifCond .ne 10, 3) := de_9a tX9_bar_4 (by decide +kernel)
def tX9_bar_7 := Bt_3 (q := 7) tX9_bar_4 rfl
theorem dX9_bar_7 : decode cX9_bar 7 = .ok (.iload_n 2, 1) := de_1c tX9_bar_7
def tX9_bar_8 := Bt_1 (q := 8) tX9_bar_7 rfl
theorem dX9_bar_8 : decode cX9_bar 8 = .ok (.invokestatic 144, 3) := de_b8 tX9_bar_8 (by decide +kernel)
def tX9_bar_11 := Bt_3 (q := 11) tX9_bar_8 rfl
theorem dX9_bar_11 : decode cX9_bar 11 = .ok (.ifCond .eq 9, 3) := de_99 tX9_bar_11 (by decide +kernel)
def tX9_bar_14 := Bt_3 (q := 14) tX9_bar_11 rfl
theorem dX9_bar_14 : decode cX9_bar 14 = .ok (.aload_n 0, 1) := de_2a tX9_bar_14
def tX9_bar_15 := Bt_1 (q := 15) tX9_bar_14 rfl
theorem dX9_bar_15 : decode cX9_bar 15 = .ok (.iconst (-1), 1) := de_02 tX9_bar_15
def tX9_bar_16 := Bt_1 (q := 16) tX9_bar_15 rfl
theorem dX9_bar_16 : decode cX9_bar 16 = .ok (.invokevirtual 62, 3) := de_b6 tX9_bar_16 (by decide +kernel)
def tX9_bar_19 := Bt_3 (q := 19) tX9_bar_16 rfl
theorem dX9_bar_19 : decode cX9_bar 19 = .ok (.ireturn, 1) := de_ac tX9_bar_19
def tX9_bar_20 := Bt_1 (q := 20) tX9_bar_19 rfl
theorem dX9_bar_20 : decode cX9_bar 20 = .ok (.aload_n 0, 1) := de_2a tX9_bar_20
def tX9_bar_21 := Bt_1 (q := 21) tX9_bar_20 rfl
theorem dX9_bar_21 : decode cX9_bar 21 = .ok (.getfield 19, 3) := de_b4 tX9_bar_21 (by decide +kernel)
def tX9_bar_24 := Bt_3 (q := 24) tX9_bar_21 rfl
theorem dX9_bar_24 : decode cX9_bar 24 = .ok (.iload_n 1, 1) := de_1b tX9_bar_24
def tX9_bar_25 := Bt_1 (q := 25) tX9_bar_24 rfl
theorem dX9_bar_25 : decode cX9_bar 25 = .ok (.iload_n 2, 1) := de_1c tX9_bar_25
def tX9_bar_26 := Bt_1 (q := 26) tX9_bar_25 rfl
theorem dX9_bar_26 : decode cX9_bar 26 = .ok (.iload_n 3, 1) := de_1d tX9_bar_26
def tX9_bar_27 := Bt_1 (q := 27) tX9_bar_26 rfl
theorem dX9_bar_27 : decode cX9_bar 27 = .ok (.invokevirtual 147, 3) := de_b6 tX9_bar_27 (by decide +kernel)
def tX9_bar_30 := Bt_3 (q := 30) tX9_bar_27 rfl
theorem dX9_bar_30 : decode cX9_bar 30 = .ok (.ifCond .eq 7, 3) := de_99 tX9_bar_30 (by decide +kernel)
def tX9_bar_33 := Bt_3 (q := 33) tX9_bar_30 rfl
theorem dX9_bar_33 : decode cX9_bar 33 = .ok (.iconst 1, 1) := de_04 tX9_bar_33
def tX9_bar_34 := Bt_1 (q := 34) tX9_bar_33 rfl
theorem dX9_bar_34 : decode cX9_bar 34 = .ok (.goto 4, 3) := de_a7 tX9_bar_34 (by decide +kernel)
def tX9_bar_37 := Bt_3 (q := 37) tX9_bar_34 rfl
theorem dX9_bar_37 : decode cX9_bar 37 = .ok (.iconst 0, 1) := de_03 tX9_bar_37
def tX9_bar_38 := Bt_1 (q := 38) tX9_bar_37 rfl
theorem dX9_bar_38 : decode cX9_bar 38 = .ok (.ireturn, 1) := de_ac tX9_bar_38
def tX9_quality_0 := Bt_0 cX9_quality
theorem dX9_quality_0 : decode cX9_quality 0 = .ok (.aload_n 0, 1) := de_2a tX9_quality_0
def tX9_quality_1 := Bt_1 (q := 1) tX9_quality_0 rfl
theorem dX9_quality_1 : decode cX9_quality 1 = .ok (.iload_n 1, 1) := de_1b tX9_quality_1
def tX9_quality_2 := Bt_1 (q := 2) tX9_quality_1 rfl
theorem dX9_quality_2 : decode cX9_quality 2 = .ok (.iload_n 2, 1) := de_1c tX9_quality_2
def tX9_quality_3 := Bt_1 (q := 3) tX9_quality_2 rfl
theorem dX9_quality_3 : decode cX9_quality 3 = .ok (.invokevirtual 93, 3) := de_b6 tX9_quality_3 (by decide +kernel)
def tX9_quality_6 := Bt_3 (q := 6) tX9_quality_3 rfl
theorem dX9_quality_6 : decode cX9_quality 6 = .ok (.ifCond .eq 9, 3) := de_99 tX9_quality_6 (by decide +kernel)
def tX9_quality_9 := Bt_3 (q := 9) tX9_quality_6 rfl
theorem dX9_quality_9 : decode cX9_quality 9 = .ok (.aload_n 0, 1) := de_2a tX9_quality_9
def tX9_quality_10 := Bt_1 (q := 10) tX9_quality_9 rfl
theorem dX9_quality_10 : decode cX9_quality 10 = .ok (.iconst (-1), 1) := de_02 tX9_quality_10
def tX9_quality_11 := Bt_1 (q := 11) tX9_quality_10 rfl
theorem dX9_quality_11 : decode cX9_quality 11 = .ok (.invokevirtual 62, 3) := de_b6 tX9_quality_11 (by decide +kernel)
def tX9_quality_14 := Bt_3 (q := 14) tX9_quality_11 rfl
theorem dX9_quality_14 : decode cX9_quality 14 = .ok (.ireturn, 1) := de_ac tX9_quality_14
def tX9_quality_15 := Bt_1 (q := 15) tX9_quality_14 rfl
theorem dX9_quality_15 : decode cX9_quality 15 = .ok (.iload_n 3, 1) := de_1d tX9_quality_15
def tX9_quality_16 := Bt_1 (q := 16) tX9_quality_15 rfl
theorem dX9_quality_16 : decode cX9_quality 16 = .ok (.invokestatic 151, 3) := de_b8 tX9_quality_16 (by decide +kernel)
def tX9_quality_19 := Bt_3 (q := 19) tX9_quality_16 rfl
theorem dX9_quality_19 : decode cX9_quality 19 = .ok (.ifCond .eq 10, 3) := de_99 tX9_quality_19 (by decide +kernel)
def tX9_quality_22 := Bt_3 (q := 22) tX9_quality_19 rfl
theorem dX9_quality_22 : decode cX9_quality 22 = .ok (.aload_n 0, 1) := de_2a tX9_quality_22
def tX9_quality_23 := Bt_1 (q := 23) tX9_quality_22 rfl
theorem dX9_quality_23 : decode cX9_quality 23 = .ok (.bipush (-2), 2) := de_10 tX9_quality_23 (by decide +kernel)
def tX9_quality_25 := Bt_2 (q := 25) tX9_quality_23 rfl
theorem dX9_quality_25 : decode cX9_quality 25 = .ok (.invokevirtual 62, 3) := de_b6 tX9_quality_25 (by decide +kernel)
def tX9_quality_28 := Bt_3 (q := 28) tX9_quality_25 rfl
theorem dX9_quality_28 : decode cX9_quality 28 = .ok (.ireturn, 1) := de_ac tX9_quality_28
def tX9_quality_29 := Bt_1 (q := 29) tX9_quality_28 rfl
theorem dX9_quality_29 : decode cX9_quality 29 = .ok (.aload_n 0, 1) := de_2a tX9_quality_29
def tX9_quality_30 := Bt_1 (q := 30) tX9_quality_29 rfl
theorem dX9_quality_30 : decode cX9_quality 30 = .ok (.getfield 12, 3) := de_b4 tX9_quality_30 (by decide +kernel)
def tX9_quality_33 := Bt_3 (q := 33) tX9_quality_30 rfl
theorem dX9_quality_33 : decode cX9_quality 33 = .ok (.getfield 113, 3) := de_b4 tX9_quality_33 (by decide +kernel)
def tX9_quality_36 := Bt_3 (q := 36) tX9_quality_33 rfl
theorem dX9_quality_36 : decode cX9_quality 36 = .ok (.iload_n 1, 1) := de_1b tX9_quality_36
def tX9_quality_37 := Bt_1 (q := 37) tX9_quality_36 rfl
theorem dX9_quality_37 : decode cX9_quality 37 = .ok (.iload_n 2, 1) := de_1c tX9_quality_37
def tX9_quality_38 := Bt_1 (q := 38) tX9_quality_37 rfl
theorem dX9_quality_38 : decode cX9_quality 38 = .ok (.invokestatic 110, 3) := de_b8 tX9_quality_38 (by decide +kernel)
def tX9_quality_41 := Bt_3 (q := 41) tX9_quality_38 rfl
theorem dX9_quality_41 : decode cX9_quality 41 = .ok (.baload, 1) := de_33 tX9_quality_41
def tX9_quality_42 := Bt_1 (q := 42) tX9_quality_41 rfl
theorem dX9_quality_42 : decode cX9_quality 42 = .ok (.ifCond .ne 10, 3) := de_9a tX9_quality_42 (by decide +kernel)
def tX9_quality_45 := Bt_3 (q := 45) tX9_quality_42 rfl
theorem dX9_quality_45 : decode cX9_quality 45 = .ok (.aload_n 0, 1) := de_2a tX9_quality_45
def tX9_quality_46 := Bt_1 (q := 46) tX9_quality_45 rfl
theorem dX9_quality_46 : decode cX9_quality 46 = .ok (.bipush (-5), 2) := de_10 tX9_quality_46 (by decide +kernel)
def tX9_quality_48 := Bt_2 (q := 48) tX9_quality_46 rfl
theorem dX9_quality_48 : decode cX9_quality 48 = .ok (.invokevirtual 62, 3) := de_b6 tX9_quality_48 (by decide +kernel)
def tX9_quality_51 := Bt_3 (q := 51) tX9_quality_48 rfl
theorem dX9_quality_51 : decode cX9_quality 51 = .ok (.ireturn, 1) := de_ac tX9_quality_51
def tX9_quality_52 := Bt_1 (q := 52) tX9_quality_51 rfl
theorem dX9_quality_52 : decode cX9_quality 52 = .ok (.aload_n 0, 1) := de_2a tX9_quality_52
def tX9_quality_53 := Bt_1 (q := 53) tX9_quality_52 rfl
theorem dX9_quality_53 : decode cX9_quality 53 = .ok (.getfield 33, 3) := de_b4 tX9_quality_53 (by decide +kernel)
def tX9_quality_56 := Bt_3 (q := 56) tX9_quality_53 rfl
theorem dX9_quality_56 : decode cX9_quality 56 = .ok (.aload_n 0, 1) := de_2a tX9_quality_56
def tX9_quality_57 := Bt_1 (q := 57) tX9_quality_56 rfl
theorem dX9_quality_57 : decode cX9_quality 57 = .ok (.getfield 12, 3) := de_b4 tX9_quality_57 (by decide +kernel)
def tX9_quality_60 := Bt_3 (q := 60) tX9_quality_57 rfl
theorem dX9_quality_60 : decode cX9_quality 60 = .ok (.aload_n 0, 1) := de_2a tX9_quality_60
def tX9_quality_61 := Bt_1 (q := 61) tX9_quality_60 rfl
theorem dX9_quality_61 : decode cX9_quality 61 = .ok (.getfield 19, 3) := de_b4 tX9_quality_61 (by decide +kernel)
def tX9_quality_64 := Bt_3 (q := 64) tX9_quality_61 rfl
theorem dX9_quality_64 : decode cX9_quality 64 = .ok (.iload_n 2, 1) := de_1c tX9_quality_64
def tX9_quality_65 := Bt_1 (q := 65) tX9_quality_64 rfl
theorem dX9_quality_65 : decode cX9_quality 65 = .ok (.iconst (-1), 1) := de_02 tX9_quality_65
def tX9_quality_66 := Bt_1 (q := 66) tX9_quality_65 rfl
theorem dX9_quality_66 : decode cX9_quality 66 = .ok (.invokevirtual 154, 3) := de_b6 tX9_quality_66 (by decide +kernel)
def tX9_quality_69 := Bt_3 (q := 69) tX9_quality_66 rfl
theorem dX9_quality_69 : decode cX9_quality 69 = .ok (.iload_n 3, 1) := de_1d tX9_quality_69
def tX9_quality_70 := Bt_1 (q := 70) tX9_quality_69 rfl
theorem dX9_quality_70 : decode cX9_quality 70 = .ok (.ifCond .ne 15, 3) := de_9a tX9_quality_70 (by decide +kernel)
def tX9_quality_73 := Bt_3 (q := 73) tX9_quality_70 rfl
theorem dX9_quality_73 : decode cX9_quality 73 = .ok (.aload_n 0, 1) := de_2a tX9_quality_73
def tX9_quality_74 := Bt_1 (q := 74) tX9_quality_73 rfl
theorem dX9_quality_74 : decode cX9_quality 74 = .ok (.getfield 33, 3) := de_b4 tX9_quality_74 (by decide +kernel)
def tX9_quality_77 := Bt_3 (q := 77) tX9_quality_74 rfl
theorem dX9_quality_77 : decode cX9_quality 77 = .ok (.getfield 158, 3) := de_b4 tX9_quality_77 (by decide +kernel)
def tX9_quality_80 := Bt_3 (q := 80) tX9_quality_77 rfl
theorem dX9_quality_80 : decode cX9_quality 80 = .ok (.iload_n 1, 1) := de_1b tX9_quality_80
def tX9_quality_81 := Bt_1 (q := 81) tX9_quality_80 rfl
theorem dX9_quality_81 : decode cX9_quality 81 = .ok (.laload, 1) := de_2f tX9_quality_81
def tX9_quality_82 := Bt_1 (q := 82) tX9_quality_81 rfl
theorem dX9_quality_82 : decode cX9_quality 82 = .ok (.goto 12, 3) := de_a7 tX9_quality_82 (by decide +kernel)
def tX9_quality_85 := Bt_3 (q := 85) tX9_quality_82 rfl
theorem dX9_quality_85 : decode cX9_quality 85 = .ok (.aload_n 0, 1) := de_2a tX9_quality_85
def tX9_quality_86 := Bt_1 (q := 86) tX9_quality_85 rfl
theorem dX9_quality_86 : decode cX9_quality 86 = .ok (.getfield 33, 3) := de_b4 tX9_quality_86 (by decide +kernel)
def tX9_quality_89 := Bt_3 (q := 89) tX9_quality_86 rfl
theorem dX9_quality_89 : decode cX9_quality 89 = .ok (.getfield 162, 3) := de_b4 tX9_quality_89 (by decide +kernel)
def tX9_quality_92 := Bt_3 (q := 92) tX9_quality_89 rfl
theorem dX9_quality_92 : decode cX9_quality 92 = .ok (.iload_n 1, 1) := de_1b tX9_quality_92
def tX9_quality_93 := Bt_1 (q := 93) tX9_quality_92 rfl
theorem dX9_quality_93 : decode cX9_quality 93 = .ok (.laload, 1) := de_2f tX9_quality_93
def tX9_quality_94 := Bt_1 (q := 94) tX9_quality_93 rfl
theorem dX9_quality_94 : decode cX9_quality 94 = .ok (.l2i, 1) := de_88 tX9_quality_94
def tX9_quality_95 := Bt_1 (q := 95) tX9_quality_94 rfl
theorem dX9_quality_95 : decode cX9_quality 95 = .ok (.ireturn, 1) := de_ac tX9_quality_95
def tX9_feed_0 := Bt_0 cX9_feed
theorem dX9_feed_0 : decode cX9_feed 0 = .ok (.iload_n 1, 1) := de_1b tX9_feed_0
def tX9_feed_1 := Bt_1 (q := 1) tX9_feed_0 rfl
theorem dX9_feed_1 : decode cX9_feed 1 = .ok (.iconst 1, 1) := de_04 tX9_feed_1
def tX9_feed_2 := Bt_1 (q := 2) tX9_feed_1 rfl
theorem dX9_feed_2 : decode cX9_feed 2 = .ok (.bipush 8, 2) := de_10 tX9_feed_2 (by decide +kernel)
def tX9_feed_4 := Bt_2 (q := 4) tX9_feed_2 rfl
theorem dX9_feed_4 : decode cX9_feed 4 = .ok (.invokestatic 76, 3) := de_b8 tX9_feed_4 (by decide +kernel)
def tX9_feed_7 := Bt_3 (q := 7) tX9_feed_4 rfl
theorem dX9_feed_7 : decode cX9_feed 7 = .ok (.istore 4, 2) := de_36 tX9_feed_7 (by decide +kernel)
def tX9_feed_9 := Bt_2 (q := 9) tX9_feed_7 rfl
theorem dX9_feed_9 : decode cX9_feed 9 = .ok (.iload 4, 2) := de_15 tX9_feed_9 (by decide +kernel)
def tX9_feed_11 := Bt_2 (q := 11) tX9_feed_9 rfl
theorem dX9_feed_11 : decode cX9_feed 11 = .ok (.ifCond .eq 10, 3) := de_99 tX9_feed_11 (by decide +kernel)
def tX9_feed_14 := Bt_3 (q := 14) tX9_feed_11 rfl
theorem dX9_feed_14 : decode cX9_feed 14 = .ok (.aload_n 0, 1) := de_2a tX9_feed_14
def tX9_feed_15 := Bt_1 (q := 15) tX9_feed_14 rfl
theorem dX9_feed_15 : decode cX9_feed 15 = .ok (.iload 4, 2) := de_15 tX9_feed_15 (by decide +kernel)
def tX9_feed_17 := Bt_2 (q := 17) tX9_feed_15 rfl
theorem dX9_feed_17 : decode cX9_feed 17 = .ok (.invokevirtual 62, 3) := de_b6 tX9_feed_17 (by decide +kernel)
def tX9_feed_20 := Bt_3 (q := 20) tX9_feed_17 rfl
theorem dX9_feed_20 : decode cX9_feed 20 = .ok (.ireturn, 1) := de_ac tX9_feed_20
def tX9_feed_21 := Bt_1 (q := 21) tX9_feed_20 rfl
theorem dX9_feed_21 : decode cX9_feed 21 = .ok (.iload_n 1, 1) := de_1b tX9_feed_21
def tX9_feed_22 := Bt_1 (q := 22) tX9_feed_21 rfl
theorem dX9_feed_22 : decode cX9_feed 22 = .ok (.bipush 80, 2) := de_10 tX9_feed_22 (by decide +kernel)
def tX9_feed_24 := Bt_2 (q := 24) tX9_feed_22 rfl
theorem dX9_feed_24 : decode cX9_feed 24 = .ok (.aload_n 0, 1) := de_2a tX9_feed_24
def tX9_feed_25 := Bt_1 (q := 25) tX9_feed_24 rfl
theorem dX9_feed_25 : decode cX9_feed 25 = .ok (.getfield 26, 3) := de_b4 tX9_feed_25 (by decide +kernel)
def tX9_feed_28 := Bt_3 (q := 28) tX9_feed_25 rfl
theorem dX9_feed_28 : decode cX9_feed 28 = .ok (.getfield 165, 3) := de_b4 tX9_feed_28 (by decide +kernel)
def tX9_feed_31 := Bt_3 (q := 31) tX9_feed_28 rfl
theorem dX9_feed_31 : decode cX9_feed 31 = .ok (.isub, 1) := de_64 tX9_feed_31
def tX9_feed_32 := Bt_1 (q := 32) tX9_feed_31 rfl
theorem dX9_feed_32 : decode cX9_feed 32 = .ok (.if_icmp .le 10, 3) := de_a4 tX9_feed_32 (by decide +kernel)
def tX9_feed_35 := Bt_3 (q := 35) tX9_feed_32 rfl
theorem dX9_feed_35 : decode cX9_feed 35 = .ok (.aload_n 0, 1) := de_2a tX9_feed_35
def tX9_feed_36 := Bt_1 (q := 36) tX9_feed_35 rfl
theorem dX9_feed_36 : decode cX9_feed 36 = .ok (.bipush (-6), 2) := de_10 tX9_feed_36 (by decide +kernel)
def tX9_feed_38 := Bt_2 (q := 38) tX9_feed_36 rfl
theorem dX9_feed_38 : decode cX9_feed 38 = .ok (.invokevirtual 62, 3) := de_b6 tX9_feed_38 (by decide +kernel)
def tX9_feed_41 := Bt_3 (q := 41) tX9_feed_38 rfl
theorem dX9_feed_41 : decode cX9_feed 41 = .ok (.ireturn, 1) := de_ac tX9_feed_41
def tX9_feed_42 := Bt_1 (q := 42) tX9_feed_41 rfl
theorem dX9_feed_42 : decode cX9_feed 42 = .ok (.aload_n 0, 1) := de_2a tX9_feed_42
def tX9_feed_43 := Bt_1 (q := 43) tX9_feed_42 rfl
theorem dX9_feed_43 : decode cX9_feed 43 = .ok (.getfield 26, 3) := de_b4 tX9_feed_43 (by decide +kernel)
def tX9_feed_46 := Bt_3 (q := 46) tX9_feed_43 rfl
theorem dX9_feed_46 : decode cX9_feed 46 = .ok (.iload_n 1, 1) := de_1b tX9_feed_46
def tX9_feed_47 := Bt_1 (q := 47) tX9_feed_46 rfl
theorem dX9_feed_47 : decode cX9_feed 47 = .ok (.lload_n 2, 1) := de_20 tX9_feed_47
def tX9_feed_48 := Bt_1 (q := 48) tX9_feed_47 rfl
theorem dX9_feed_48 : decode cX9_feed 48 = .ok (.invokevirtual 168, 3) := de_b6 tX9_feed_48 (by decide +kernel)
def tX9_feed_51 := Bt_3 (q := 51) tX9_feed_48 rfl
theorem dX9_feed_51 : decode cX9_feed 51 = .ok (.ireturn, 1) := de_ac tX9_feed_51
def tX9_formula_0 := Bt_0 cX9_formula
theorem dX9_formula_0 : decode cX9_formula 0 = .ok (.aload_n 0, 1) := de_2a tX9_formula_0
def tX9_formula_1 := Bt_1 (q := 1) tX9_formula_0 rfl
theorem dX9_formula_1 : decode cX9_formula 1 = .ok (.getfield 26, 3) := de_b4 tX9_formula_1 (by decide +kernel)
def tX9_formula_4 := Bt_3 (q := 4) tX9_formula_1 rfl
theorem dX9_formula_4 : decode cX9_formula 4 = .ok (.invokevirtual 172, 3) := de_b6 tX9_formula_4 (by decide +kernel)
def tX9_formula_7 := Bt_3 (q := 7) tX9_formula_4 rfl
theorem dX9_formula_7 : decode cX9_formula 7 = .ok (.ireturn, 1) := de_ac tX9_formula_7
def tX9_points_0 := Bt_0 cX9_points
theorem dX9_points_0 : decode cX9_points 0 = .ok (.aload_n 0, 1) := de_2a tX9_points_0
def tX9_points_1 := Bt_1 (q := 1) tX9_points_0 rfl
theorem dX9_points_1 : decode cX9_points 1 = .ok (.iload_n 1, 1) := de_1b tX9_points_1
def tX9_points_2 := Bt_1 (q := 2) tX9_points_1 rfl
theorem dX9_points_2 : decode cX9_points 2 = .ok (.iload_n 2, 1) := de_1c tX9_points_2
def tX9_points_3 := Bt_1 (q := 3) tX9_points_2 rfl
theorem dX9_points_3 : decode cX9_points 3 = .ok (.invokevirtual 93, 3) := de_b6 tX9_points_3 (by decide +kernel)
def tX9_points_6 := Bt_3 (q := 6) tX9_points_3 rfl
theorem dX9_points_6 : decode cX9_points 6 = .ok (.ifCond .eq 9, 3) := de_99 tX9_points_6 (by decide +kernel)
def tX9_points_9 := Bt_3 (q := 9) tX9_points_6 rfl
theorem dX9_points_9 : decode cX9_points 9 = .ok (.aload_n 0, 1) := de_2a tX9_points_9
def tX9_points_10 := Bt_1 (q := 10) tX9_points_9 rfl
theorem dX9_points_10 : decode cX9_points 10 = .ok (.iconst (-1), 1) := de_02 tX9_points_10
def tX9_points_11 := Bt_1 (q := 11) tX9_points_10 rfl
theorem dX9_points_11 : decode cX9_points 11 = .ok (.invokevirtual 176, 3) := de_b6 tX9_points_11 (by decide +kernel)
def tX9_points_14 := Bt_3 (q := 14) tX9_points_11 rfl
theorem dX9_points_14 : decode cX9_points 14 = .ok (.lreturn, 1) := de_ad tX9_points_14
def tX9_points_15 := Bt_1 (q := 15) tX9_points_14 rfl
theorem dX9_points_15 : decode cX9_points 15 = .ok (.iload_n 3, 1) := de_1d tX9_points_15
def tX9_points_16 := Bt_1 (q := 16) tX9_points_15 rfl
theorem dX9_points_16 : decode cX9_points 16 = .ok (.invokestatic 151, 3) := de_b8 tX9_points_16 (by decide +kernel)
def tX9_points_19 := Bt_3 (q := 19) tX9_points_16 rfl
theorem dX9_points_19 : decode cX9_points 19 = .ok (.ifCond .eq 10, 3) := de_99 tX9_points_19 (by decide +kernel)
def tX9_points_22 := Bt_3 (q := 22) tX9_points_19 rfl
theorem dX9_points_22 : decode cX9_points 22 = .ok (.aload_n 0, 1) := de_2a tX9_points_22
def tX9_points_23 := Bt_1 (q := 23) tX9_points_22 rfl
theorem dX9_points_23 : decode cX9_points 23 = .ok (.bipush (-2), 2) := de_10 tX9_points_23 (by decide +kernel)
def tX9_points_25 := Bt_2 (q := 25) tX9_points_23 rfl
theorem dX9_points_25 : decode cX9_points 25 = .ok (.invokevirtual 176, 3) := de_b6 tX9_points_25 (by decide +kernel)
def tX9_points_28 := Bt_3 (q := 28) tX9_points_25 rfl
theorem dX9_points_28 : decode cX9_points 28 = .ok (.lreturn, 1) := de_ad tX9_points_28
def tX9_points_29 := Bt_1 (q := 29) tX9_points_28 rfl
theorem dX9_points_29 : decode cX9_points 29 = .ok (.aload_n 0, 1) := de_2a tX9_points_29
def tX9_points_30 := Bt_1 (q := 30) tX9_points_29 rfl
theorem dX9_points_30 : decode cX9_points 30 = .ok (.getfield 12, 3) := de_b4 tX9_points_30 (by decide +kernel)
def tX9_points_33 := Bt_3 (q := 33) tX9_points_30 rfl
theorem dX9_points_33 : decode cX9_points 33 = .ok (.iload_n 1, 1) := de_1b tX9_points_33
def tX9_points_34 := Bt_1 (q := 34) tX9_points_33 rfl
theorem dX9_points_34 : decode cX9_points 34 = .ok (.iload_n 2, 1) := de_1c tX9_points_34
def tX9_points_35 := Bt_1 (q := 35) tX9_points_34 rfl
theorem dX9_points_35 : decode cX9_points 35 = .ok (.invokestatic 110, 3) := de_b8 tX9_points_35 (by decide +kernel)
def tX9_points_38 := Bt_3 (q := 38) tX9_points_35 rfl
theorem dX9_points_38 : decode cX9_points 38 = .ok (.invokevirtual 138, 3) := de_b6 tX9_points_38 (by decide +kernel)
def tX9_points_41 := Bt_3 (q := 41) tX9_points_38 rfl
theorem dX9_points_41 : decode cX9_points 41 = .ok (.ifCond .ne 10, 3) := de_9a tX9_points_41 (by decide +kernel)
def tX9_points_44 := Bt_3 (q := 44) tX9_points_41 rfl
theorem dX9_points_44 : decode cX9_points 44 = .ok (.aload_n 0, 1) := de_2a tX9_points_44
def tX9_points_45 := Bt_1 (q := 45) tX9_points_44 rfl
theorem dX9_points_45 : decode cX9_points 45 = .ok (.bipush (-5), 2) := de_10 tX9_points_45 (by decide +kernel)
def tX9_points_47 := Bt_2 (q := 47) tX9_points_45 rfl
theorem dX9_points_47 : decode cX9_points 47 = .ok (.invokevirtual 176, 3) := de_b6 tX9_points_47 (by decide +kernel)
def tX9_points_50 := Bt_3 (q := 50) tX9_points_47 rfl
theorem dX9_points_50 : decode cX9_points 50 = .ok (.lreturn, 1) := de_ad tX9_points_50
def tX9_points_51 := Bt_1 (q := 51) tX9_points_50 rfl
theorem dX9_points_51 : decode cX9_points 51 = .ok (.aload_n 0, 1) := de_2a tX9_points_51
def tX9_points_52 := Bt_1 (q := 52) tX9_points_51 rfl
theorem dX9_points_52 : decode cX9_points 52 = .ok (.getfield 33, 3) := de_b4 tX9_points_52 (by decide +kernel)
def tX9_points_55 := Bt_3 (q := 55) tX9_points_52 rfl
theorem dX9_points_55 : decode cX9_points 55 = .ok (.aload_n 0, 1) := de_2a tX9_points_55
def tX9_points_56 := Bt_1 (q := 56) tX9_points_55 rfl
theorem dX9_points_56 : decode cX9_points 56 = .ok (.getfield 12, 3) := de_b4 tX9_points_56 (by decide +kernel)
def tX9_points_59 := Bt_3 (q := 59) tX9_points_56 rfl
theorem dX9_points_59 : decode cX9_points 59 = .ok (.aload_n 0, 1) := de_2a tX9_points_59
def tX9_points_60 := Bt_1 (q := 60) tX9_points_59 rfl
theorem dX9_points_60 : decode cX9_points 60 = .ok (.getfield 19, 3) := de_b4 tX9_points_60 (by decide +kernel)
def tX9_points_63 := Bt_3 (q := 63) tX9_points_60 rfl
theorem dX9_points_63 : decode cX9_points 63 = .ok (.iload_n 2, 1) := de_1c tX9_points_63
def tX9_points_64 := Bt_1 (q := 64) tX9_points_63 rfl
theorem dX9_points_64 : decode cX9_points 64 = .ok (.iconst (-1), 1) := de_02 tX9_points_64
def tX9_points_65 := Bt_1 (q := 65) tX9_points_64 rfl
theorem dX9_points_65 : decode cX9_points 65 = .ok (.invokevirtual 154, 3) := de_b6 tX9_points_65 (by decide +kernel)
def tX9_points_68 := Bt_3 (q := 68) tX9_points_65 rfl
theorem dX9_points_68 : decode cX9_points 68 = .ok (.aload_n 0, 1) := de_2a tX9_points_68
def tX9_points_69 := Bt_1 (q := 69) tX9_points_68 rfl
theorem dX9_points_69 : decode cX9_points 69 = .ok (.getfield 33, 3) := de_b4 tX9_points_69 (by decide +kernel)
def tX9_points_72 := Bt_3 (q := 72) tX9_points_69 rfl
theorem dX9_points_72 : decode cX9_points 72 = .ok (.aload_n 0, 1) := de_2a tX9_points_72
def tX9_points_73 := Bt_1 (q := 73) tX9_points_72 rfl
theorem dX9_points_73 : decode cX9_points 73 = .ok (.getfield 26, 3) := de_b4 tX9_points_73 (by decide +kernel)
def tX9_points_76 := Bt_3 (q := 76) tX9_points_73 rfl
theorem dX9_points_76 : decode cX9_points 76 = .ok (.iload_n 1, 1) := de_1b tX9_points_76
def tX9_points_77 := Bt_1 (q := 77) tX9_points_76 rfl
theorem dX9_points_77 : decode cX9_points 77 = .ok (.invokevirtual 180, 3) := de_b6 tX9_points_77 (by decide +kernel)
def tX9_points_80 := Bt_3 (q := 80) tX9_points_77 rfl
theorem dX9_points_80 : decode cX9_points 80 = .ok (.aload_n 0, 1) := de_2a tX9_points_80
def tX9_points_81 := Bt_1 (q := 81) tX9_points_80 rfl
theorem dX9_points_81 : decode cX9_points 81 = .ok (.getfield 33, 3) := de_b4 tX9_points_81 (by decide +kernel)
def tX9_points_84 := Bt_3 (q := 84) tX9_points_81 rfl
theorem dX9_points_84 : decode cX9_points 84 = .ok (.getfield 184, 3) := de_b4 tX9_points_84 (by decide +kernel)
def tX9_points_87 := Bt_3 (q := 87) tX9_points_84 rfl
theorem dX9_points_87 : decode cX9_points 87 = .ok (.iload_n 1, 1) := de_1b tX9_points_87
def tX9_points_88 := Bt_1 (q := 88) tX9_points_87 rfl
theorem dX9_points_88 : decode cX9_points 88 = .ok (.baload, 1) := de_33 tX9_points_88
def tX9_points_89 := Bt_1 (q := 89) tX9_points_88 rfl
theorem dX9_points_89 : decode cX9_points 89 = .ok (.ifCond .eq 10, 3) := de_99 tX9_points_89 (by decide +kernel)
def tX9_points_92 := Bt_3 (q := 92) tX9_points_89 rfl
theorem dX9_points_92 : decode cX9_points 92 = .ok (.aload_n 0, 1) := de_2a tX9_points_92
def tX9_points_93 := Bt_1 (q := 93) tX9_points_92 rfl
theorem dX9_points_93 : decode cX9_points 93 = .ok (.bipush (-7), 2) := de_10 tX9_points_93 (by decide +kernel)
def tX9_points_95 := Bt_2 (q := 95) tX9_points_93 rfl
theorem dX9_points_95 : decode cX9_points 95 = .ok (.invokevirtual 176, 3) := de_b6 tX9_points_95 (by decide +kernel)
def tX9_points_98 := Bt_3 (q := 98) tX9_points_95 rfl
theorem dX9_points_98 : decode cX9_points 98 = .ok (.lreturn, 1) := de_ad tX9_points_98
def tX9_points_99 := Bt_1 (q := 99) tX9_points_98 rfl
theorem dX9_points_99 : decode cX9_points 99 = .ok (.iload_n 3, 1) := de_1d tX9_points_99
def tX9_points_100 := Bt_1 (q := 100) tX9_points_99 rfl
theorem dX9_points_100 : decode cX9_points 100 = .ok (.ifCond .ne 15, 3) := de_9a tX9_points_100 (by decide +kernel)
def tX9_points_103 := Bt_3 (q := 103) tX9_points_100 rfl
theorem dX9_points_103 : decode cX9_points 103 = .ok (.aload_n 0, 1) := de_2a tX9_points_103
def tX9_points_104 := Bt_1 (q := 104) tX9_points_103 rfl
theorem dX9_points_104 : decode cX9_points 104 = .ok (.getfield 33, 3) := de_b4 tX9_points_104 (by decide +kernel)
def tX9_points_107 := Bt_3 (q := 107) tX9_points_104 rfl
theorem dX9_points_107 : decode cX9_points 107 = .ok (.getfield 187, 3) := de_b4 tX9_points_107 (by decide +kernel)
def tX9_points_110 := Bt_3 (q := 110) tX9_points_107 rfl
theorem dX9_points_110 : decode cX9_points 110 = .ok (.iload_n 1, 1) := de_1b tX9_points_110
def tX9_points_111 := Bt_1 (q := 111) tX9_points_110 rfl
theorem dX9_points_111 : decode cX9_points 111 = .ok (.laload, 1) := de_2f tX9_points_111
def tX9_points_112 := Bt_1 (q := 112) tX9_points_111 rfl
theorem dX9_points_112 : decode cX9_points 112 = .ok (.goto 12, 3) := de_a7 tX9_points_112 (by decide +kernel)
def tX9_points_115 := Bt_3 (q := 115) tX9_points_112 rfl
theorem dX9_points_115 : decode cX9_points 115 = .ok (.aload_n 0, 1) := de_2a tX9_points_115
def tX9_points_116 := Bt_1 (q := 116) tX9_points_115 rfl
theorem dX9_points_116 : decode cX9_points 116 = .ok (.getfield 33, 3) := de_b4 tX9_points_116 (by decide +kernel)
def tX9_points_119 := Bt_3 (q := 119) tX9_points_116 rfl
theorem dX9_points_119 : decode cX9_points 119 = .ok (.getfield 190, 3) := de_b4 tX9_points_119 (by decide +kernel)
def tX9_points_122 := Bt_3 (q := 122) tX9_points_119 rfl
theorem dX9_points_122 : decode cX9_points 122 = .ok (.iload_n 1, 1) := de_1b tX9_points_122
def tX9_points_123 := Bt_1 (q := 123) tX9_points_122 rfl
theorem dX9_points_123 : decode cX9_points 123 = .ok (.laload, 1) := de_2f tX9_points_123
def tX9_points_124 := Bt_1 (q := 124) tX9_points_123 rfl
theorem dX9_points_124 : decode cX9_points 124 = .ok (.lreturn, 1) := de_ad tX9_points_124
def tX9_order_0 := Bt_0 cX9_order
theorem dX9_order_0 : decode cX9_order 0 = .ok (.aload_n 0, 1) := de_2a tX9_order_0
def tX9_order_1 := Bt_1 (q := 1) tX9_order_0 rfl
theorem dX9_order_1 : decode cX9_order 1 = .ok (.iload_n 1, 1) := de_1b tX9_order_1
def tX9_order_2 := Bt_1 (q := 2) tX9_order_1 rfl
theorem dX9_order_2 : decode cX9_order 2 = .ok (.invokevirtual 193, 3) := de_b6 tX9_order_2 (by decide +kernel)
def tX9_order_5 := Bt_3 (q := 5) tX9_order_2 rfl
theorem dX9_order_5 : decode cX9_order 5 = .ok (.ifCond .eq 9, 3) := de_99 tX9_order_5 (by decide +kernel)
def tX9_order_8 := Bt_3 (q := 8) tX9_order_5 rfl
theorem dX9_order_8 : decode cX9_order 8 = .ok (.aload_n 0, 1) := de_2a tX9_order_8
def tX9_order_9 := Bt_1 (q := 9) tX9_order_8 rfl
theorem dX9_order_9 : decode cX9_order 9 = .ok (.iconst (-1), 1) := de_02 tX9_order_9
def tX9_order_10 := Bt_1 (q := 10) tX9_order_9 rfl
theorem dX9_order_10 : decode cX9_order 10 = .ok (.invokevirtual 62, 3) := de_b6 tX9_order_10 (by decide +kernel)
def tX9_order_13 := Bt_3 (q := 13) tX9_order_10 rfl
theorem dX9_order_13 : decode cX9_order 13 = .ok (.ireturn, 1) := de_ac tX9_order_13
def tX9_order_14 := Bt_1 (q := 14) tX9_order_13 rfl
theorem dX9_order_14 : decode cX9_order 14 = .ok (.aload_n 0, 1) := de_2a tX9_order_14
def tX9_order_15 := Bt_1 (q := 15) tX9_order_14 rfl
theorem dX9_order_15 : decode cX9_order 15 = .ok (.getfield 33, 3) := de_b4 tX9_order_15 (by decide +kernel)
def tX9_order_18 := Bt_3 (q := 18) tX9_order_15 rfl
theorem dX9_order_18 : decode cX9_order 18 = .ok (.aload_n 0, 1) := de_2a tX9_order_18
def tX9_order_19 := Bt_1 (q := 19) tX9_order_18 rfl
theorem dX9_order_19 : decode cX9_order 19 = .ok (.getfield 12, 3) := de_b4 tX9_order_19 (by decide +kernel)
def tX9_order_22 := Bt_3 (q := 22) tX9_order_19 rfl
theorem dX9_order_22 : decode cX9_order 22 = .ok (.aload_n 0, 1) := de_2a tX9_order_22
def tX9_order_23 := Bt_1 (q := 23) tX9_order_22 rfl
theorem dX9_order_23 : decode cX9_order 23 = .ok (.getfield 19, 3) := de_b4 tX9_order_23 (by decide +kernel)
def tX9_order_26 := Bt_3 (q := 26) tX9_order_23 rfl
theorem dX9_order_26 : decode cX9_order 26 = .ok (.iload_n 1, 1) := de_1b tX9_order_26
def tX9_order_27 := Bt_1 (q := 27) tX9_order_26 rfl
theorem dX9_order_27 : decode cX9_order 27 = .ok (.iconst (-1), 1) := de_02 tX9_order_27
def tX9_order_28 := Bt_1 (q := 28) tX9_order_27 rfl
theorem dX9_order_28 : decode cX9_order 28 = .ok (.invokevirtual 154, 3) := de_b6 tX9_order_28 (by decide +kernel)
def tX9_order_31 := Bt_3 (q := 31) tX9_order_28 rfl
theorem dX9_order_31 : decode cX9_order 31 = .ok (.aload_n 0, 1) := de_2a tX9_order_31
def tX9_order_32 := Bt_1 (q := 32) tX9_order_31 rfl
theorem dX9_order_32 : decode cX9_order 32 = .ok (.getfield 33, 3) := de_b4 tX9_order_32 (by decide +kernel)
def tX9_order_35 := Bt_3 (q := 35) tX9_order_32 rfl
theorem dX9_order_35 : decode cX9_order 35 = .ok (.aload_n 0, 1) := de_2a tX9_order_35
def tX9_order_36 := Bt_1 (q := 36) tX9_order_35 rfl
theorem dX9_order_36 : decode cX9_order 36 = .ok (.getfield 26, 3) := de_b4 tX9_order_36 (by decide +kernel)
def tX9_order_39 := Bt_3 (q := 39) tX9_order_36 rfl
theorem dX9_order_39 : decode cX9_order 39 = .ok (.invokevirtual 196, 3) := de_b6 tX9_order_39 (by decide +kernel)
def tX9_order_42 := Bt_3 (q := 42) tX9_order_39 rfl
theorem dX9_order_42 : decode cX9_order 42 = .ok (.iload_n 2, 1) := de_1c tX9_order_42
def tX9_order_43 := Bt_1 (q := 43) tX9_order_42 rfl
theorem dX9_order_43 : decode cX9_order 43 = .ok (.ifCond .lt 14, 3) := de_9b tX9_order_43 (by decide +kernel)
def tX9_order_46 := Bt_3 (q := 46) tX9_order_43 rfl
theorem dX9_order_46 : decode cX9_order 46 = .ok (.iload_n 2, 1) := de_1c tX9_order_46
def tX9_order_47 := Bt_1 (q := 47) tX9_order_46 rfl
theorem dX9_order_47 : decode cX9_order 47 = .ok (.aload_n 0, 1) := de_2a tX9_order_47
def tX9_order_48 := Bt_1 (q := 48) tX9_order_47 rfl
theorem dX9_order_48 : decode cX9_order 48 = .ok (.getfield 33, 3) := de_b4 tX9_order_48 (by decide +kernel)
def tX9_order_51 := Bt_3 (q := 51) tX9_order_48 rfl
theorem dX9_order_51 : decode cX9_order 51 = .ok (.getfield 200, 3) := de_b4 tX9_order_51 (by decide +kernel)
def tX9_order_54 := Bt_3 (q := 54) tX9_order_51 rfl
theorem dX9_order_54 : decode cX9_order 54 = .ok (.if_icmp .lt 8, 3) := de_a1 tX9_order_54 (by decide +kernel)
def tX9_order_57 := Bt_3 (q := 57) tX9_order_54 rfl
theorem dX9_order_57 : decode cX9_order 57 = .ok (.bipush (-9), 2) := de_10 tX9_order_57 (by decide +kernel)
def tX9_order_59 := Bt_2 (q := 59) tX9_order_57 rfl
theorem dX9_order_59 : decode cX9_order 59 = .ok (.goto 12, 3) := de_a7 tX9_order_59 (by decide +kernel)
def tX9_order_62 := Bt_3 (q := 62) tX9_order_59 rfl
theorem dX9_order_62 : decode cX9_order 62 = .ok (.aload_n 0, 1) := de_2a tX9_order_62
def tX9_order_63 := Bt_1 (q := 63) tX9_order_62 rfl
theorem dX9_order_63 : decode cX9_order 63 = .ok (.getfield 33, 3) := de_b4 tX9_order_63 (by decide +kernel)
def tX9_order_66 := Bt_3 (q := 66) tX9_order_63 rfl
theorem dX9_order_66 : decode cX9_order 66 = .ok (.getfield 203, 3) := de_b4 tX9_order_66 (by decide +kernel)
def tX9_order_69 := Bt_3 (q := 69) tX9_order_66 rfl
theorem dX9_order_69 : decode cX9_order 69 = .ok (.iload_n 2, 1) := de_1c tX9_order_69
def tX9_order_70 := Bt_1 (q := 70) tX9_order_69 rfl
theorem dX9_order_70 : decode cX9_order 70 = .ok (.iaload, 1) := de_2e tX9_order_70
def tX9_order_71 := Bt_1 (q := 71) tX9_order_70 rfl
theorem dX9_order_71 : decode cX9_order 71 = .ok (.ireturn, 1) := de_ac tX9_order_71
def tX9_gain_0 := Bt_0 cX9_gain
theorem dX9_gain_0 : decode cX9_gain 0 = .ok (.aload_n 0, 1) := de_2a tX9_gain_0
def tX9_gain_1 := Bt_1 (q := 1) tX9_gain_0 rfl
theorem dX9_gain_1 : decode cX9_gain 1 = .ok (.iload_n 1, 1) := de_1b tX9_gain_1
def tX9_gain_2 := Bt_1 (q := 2) tX9_gain_1 rfl
theorem dX9_gain_2 : decode cX9_gain 2 = .ok (.iload_n 2, 1) := de_1c tX9_gain_2
def tX9_gain_3 := Bt_1 (q := 3) tX9_gain_2 rfl
theorem dX9_gain_3 : decode cX9_gain 3 = .ok (.invokevirtual 93, 3) := de_b6 tX9_gain_3 (by decide +kernel)
def tX9_gain_6 := Bt_3 (q := 6) tX9_gain_3 rfl
theorem dX9_gain_6 : decode cX9_gain 6 = .ok (.ifCond .eq 9, 3) := de_99 tX9_gain_6 (by decide +kernel)
def tX9_gain_9 := Bt_3 (q := 9) tX9_gain_6 rfl
theorem dX9_gain_9 : decode cX9_gain 9 = .ok (.aload_n 0, 1) := de_2a tX9_gain_9
def tX9_gain_10 := Bt_1 (q := 10) tX9_gain_9 rfl
theorem dX9_gain_10 : decode cX9_gain 10 = .ok (.iconst (-1), 1) := de_02 tX9_gain_10
def tX9_gain_11 := Bt_1 (q := 11) tX9_gain_10 rfl
theorem dX9_gain_11 : decode cX9_gain 11 = .ok (.invokevirtual 176, 3) := de_b6 tX9_gain_11 (by decide +kernel)
def tX9_gain_14 := Bt_3 (q := 14) tX9_gain_11 rfl
theorem dX9_gain_14 : decode cX9_gain 14 = .ok (.lreturn, 1) := de_ad tX9_gain_14
def tX9_gain_15 := Bt_1 (q := 15) tX9_gain_14 rfl
theorem dX9_gain_15 : decode cX9_gain 15 = .ok (.iload 4, 2) := de_15 tX9_gain_15 (by decide +kernel)
def tX9_gain_17 := Bt_2 (q := 17) tX9_gain_15 rfl
theorem dX9_gain_17 : decode cX9_gain 17 = .ok (.invokestatic 151, 3) := de_b8 tX9_gain_17 (by decide +kernel)
def tX9_gain_20 := Bt_3 (q := 20) tX9_gain_17 rfl
theorem dX9_gain_20 : decode cX9_gain 20 = .ok (.ifCond .eq 10, 3) := de_99 tX9_gain_20 (by decide +kernel)
def tX9_gain_23 := Bt_3 (q := 23) tX9_gain_20 rfl
theorem dX9_gain_23 : decode cX9_gain 23 = .ok (.aload_n 0, 1) := de_2a tX9_gain_23
def tX9_gain_24 := Bt_1 (q := 24) tX9_gain_23 rfl
theorem dX9_gain_24 : decode cX9_gain 24 = .ok (.bipush (-2), 2) := de_10 tX9_gain_24 (by decide +kernel)
def tX9_gain_26 := Bt_2 (q := 26) tX9_gain_24 rfl
theorem dX9_gain_26 : decode cX9_gain 26 = .ok (.invokevirtual 176, 3) := de_b6 tX9_gain_26 (by decide +kernel)
def tX9_gain_29 := Bt_3 (q := 29) tX9_gain_26 rfl
theorem dX9_gain_29 : decode cX9_gain 29 = .ok (.lreturn, 1) := de_ad tX9_gain_29
def tX9_gain_30 := Bt_1 (q := 30) tX9_gain_29 rfl
theorem dX9_gain_30 : decode cX9_gain 30 = .ok (.aload_n 0, 1) := de_2a tX9_gain_30
def tX9_gain_31 := Bt_1 (q := 31) tX9_gain_30 rfl
theorem dX9_gain_31 : decode cX9_gain 31 = .ok (.getfield 12, 3) := de_b4 tX9_gain_31 (by decide +kernel)
def tX9_gain_34 := Bt_3 (q := 34) tX9_gain_31 rfl
theorem dX9_gain_34 : decode cX9_gain 34 = .ok (.iload_n 1, 1) := de_1b tX9_gain_34
def tX9_gain_35 := Bt_1 (q := 35) tX9_gain_34 rfl
theorem dX9_gain_35 : decode cX9_gain 35 = .ok (.iload_n 2, 1) := de_1c tX9_gain_35
def tX9_gain_36 := Bt_1 (q := 36) tX9_gain_35 rfl
theorem dX9_gain_36 : decode cX9_gain 36 = .ok (.invokestatic 110, 3) := de_b8 tX9_gain_36 (by decide +kernel)
def tX9_gain_39 := Bt_3 (q := 39) tX9_gain_36 rfl
theorem dX9_gain_39 : decode cX9_gain 39 = .ok (.invokevirtual 138, 3) := de_b6 tX9_gain_39 (by decide +kernel)
def tX9_gain_42 := Bt_3 (q := 42) tX9_gain_39 rfl
theorem dX9_gain_42 : decode cX9_gain 42 = .ok (.ifCond .ne 10, 3) := de_9a tX9_gain_42 (by decide +kernel)
def tX9_gain_45 := Bt_3 (q := 45) tX9_gain_42 rfl
theorem dX9_gain_45 : decode cX9_gain 45 = .ok (.aload_n 0, 1) := de_2a tX9_gain_45
def tX9_gain_46 := Bt_1 (q := 46) tX9_gain_45 rfl
theorem dX9_gain_46 : decode cX9_gain 46 = .ok (.bipush (-5), 2) := de_10 tX9_gain_46 (by decide +kernel)
def tX9_gain_48 := Bt_2 (q := 48) tX9_gain_46 rfl
theorem dX9_gain_48 : decode cX9_gain 48 = .ok (.invokevirtual 176, 3) := de_b6 tX9_gain_48 (by decide +kernel)
def tX9_gain_51 := Bt_3 (q := 51) tX9_gain_48 rfl
theorem dX9_gain_51 : decode cX9_gain 51 = .ok (.lreturn, 1) := de_ad tX9_gain_51
def tX9_gain_52 := Bt_1 (q := 52) tX9_gain_51 rfl
theorem dX9_gain_52 : decode cX9_gain 52 = .ok (.iload_n 3, 1) := de_1d tX9_gain_52
def tX9_gain_53 := Bt_1 (q := 53) tX9_gain_52 rfl
theorem dX9_gain_53 : decode cX9_gain 53 = .ok (.iconst 1, 1) := de_04 tX9_gain_53
def tX9_gain_54 := Bt_1 (q := 54) tX9_gain_53 rfl
theorem dX9_gain_54 : decode cX9_gain 54 = .ok (.ldc 106, 2) := de_12 tX9_gain_54 (by decide +kernel)
def tX9_gain_56 := Bt_2 (q := 56) tX9_gain_54 rfl
theorem dX9_gain_56 : decode cX9_gain 56 = .ok (.invokestatic 76, 3) := de_b8 tX9_gain_56 (by decide +kernel)
def tX9_gain_59 := Bt_3 (q := 59) tX9_gain_56 rfl
theorem dX9_gain_59 : decode cX9_gain 59 = .ok (.istore 5, 2) := de_36 tX9_gain_59 (by decide +kernel)
def tX9_gain_61 := Bt_2 (q := 61) tX9_gain_59 rfl
theorem dX9_gain_61 : decode cX9_gain 61 = .ok (.iload 5, 2) := de_15 tX9_gain_61 (by decide +kernel)
def tX9_gain_63 := Bt_2 (q := 63) tX9_gain_61 rfl
theorem dX9_gain_63 : decode cX9_gain 63 = .ok (.ifCond .eq 10, 3) := de_99 tX9_gain_63 (by decide +kernel)
def tX9_gain_66 := Bt_3 (q := 66) tX9_gain_63 rfl
theorem dX9_gain_66 : decode cX9_gain 66 = .ok (.aload_n 0, 1) := de_2a tX9_gain_66
def tX9_gain_67 := Bt_1 (q := 67) tX9_gain_66 rfl
theorem dX9_gain_67 : decode cX9_gain 67 = .ok (.iload 5, 2) := de_15 tX9_gain_67 (by decide +kernel)
def tX9_gain_69 := Bt_2 (q := 69) tX9_gain_67 rfl
theorem dX9_gain_69 : decode cX9_gain 69 = .ok (.invokevirtual 176, 3) := de_b6 tX9_gain_69 (by decide +kernel)
def tX9_gain_72 := Bt_3 (q := 72) tX9_gain_69 rfl
theorem dX9_gain_72 : decode cX9_gain 72 = .ok (.lreturn, 1) := de_ad tX9_gain_72
def tX9_gain_73 := Bt_1 (q := 73) tX9_gain_72 rfl
theorem dX9_gain_73 : decode cX9_gain 73 = .ok (.aload_n 0, 1) := de_2a tX9_gain_73
def tX9_gain_74 := Bt_1 (q := 74) tX9_gain_73 rfl
theorem dX9_gain_74 : decode cX9_gain 74 = .ok (.getfield 33, 3) := de_b4 tX9_gain_74 (by decide +kernel)
def tX9_gain_77 := Bt_3 (q := 77) tX9_gain_74 rfl
theorem dX9_gain_77 : decode cX9_gain 77 = .ok (.aload_n 0, 1) := de_2a tX9_gain_77
def tX9_gain_78 := Bt_1 (q := 78) tX9_gain_77 rfl
theorem dX9_gain_78 : decode cX9_gain 78 = .ok (.getfield 12, 3) := de_b4 tX9_gain_78 (by decide +kernel)
def tX9_gain_81 := Bt_3 (q := 81) tX9_gain_78 rfl
theorem dX9_gain_81 : decode cX9_gain 81 = .ok (.aload_n 0, 1) := de_2a tX9_gain_81
def tX9_gain_82 := Bt_1 (q := 82) tX9_gain_81 rfl
theorem dX9_gain_82 : decode cX9_gain 82 = .ok (.getfield 19, 3) := de_b4 tX9_gain_82 (by decide +kernel)
def tX9_gain_85 := Bt_3 (q := 85) tX9_gain_82 rfl
theorem dX9_gain_85 : decode cX9_gain 85 = .ok (.iload_n 2, 1) := de_1c tX9_gain_85
def tX9_gain_86 := Bt_1 (q := 86) tX9_gain_85 rfl
theorem dX9_gain_86 : decode cX9_gain 86 = .ok (.iconst (-1), 1) := de_02 tX9_gain_86
def tX9_gain_87 := Bt_1 (q := 87) tX9_gain_86 rfl
theorem dX9_gain_87 : decode cX9_gain 87 = .ok (.invokevirtual 154, 3) := de_b6 tX9_gain_87 (by decide +kernel)
def tX9_gain_90 := Bt_3 (q := 90) tX9_gain_87 rfl
theorem dX9_gain_90 : decode cX9_gain 90 = .ok (.aload_n 0, 1) := de_2a tX9_gain_90
def tX9_gain_91 := Bt_1 (q := 91) tX9_gain_90 rfl
theorem dX9_gain_91 : decode cX9_gain 91 = .ok (.getfield 33, 3) := de_b4 tX9_gain_91 (by decide +kernel)
def tX9_gain_94 := Bt_3 (q := 94) tX9_gain_91 rfl
theorem dX9_gain_94 : decode cX9_gain 94 = .ok (.aload_n 0, 1) := de_2a tX9_gain_94
def tX9_gain_95 := Bt_1 (q := 95) tX9_gain_94 rfl
theorem dX9_gain_95 : decode cX9_gain 95 = .ok (.getfield 26, 3) := de_b4 tX9_gain_95 (by decide +kernel)
def tX9_gain_98 := Bt_3 (q := 98) tX9_gain_95 rfl
theorem dX9_gain_98 : decode cX9_gain 98 = .ok (.iload_n 1, 1) := de_1b tX9_gain_98
def tX9_gain_99 := Bt_1 (q := 99) tX9_gain_98 rfl
theorem dX9_gain_99 : decode cX9_gain 99 = .ok (.iload_n 3, 1) := de_1d tX9_gain_99
def tX9_gain_100 := Bt_1 (q := 100) tX9_gain_99 rfl
theorem dX9_gain_100 : decode cX9_gain 100 = .ok (.invokevirtual 206, 3) := de_b6 tX9_gain_100 (by decide +kernel)
def tX9_gain_103 := Bt_3 (q := 103) tX9_gain_100 rfl
theorem dX9_gain_103 : decode cX9_gain 103 = .ok (.ifCond .ne 10, 3) := de_9a tX9_gain_103 (by decide +kernel)
def tX9_gain_106 := Bt_3 (q := 106) tX9_gain_103 rfl
theorem dX9_gain_106 : decode cX9_gain 106 = .ok (.aload_n 0, 1) := de_2a tX9_gain_106
def tX9_gain_107 := Bt_1 (q := 107) tX9_gain_106 rfl
theorem dX9_gain_107 : decode cX9_gain 107 = .ok (.bipush (-7), 2) := de_10 tX9_gain_107 (by decide +kernel)
def tX9_gain_109 := Bt_2 (q := 109) tX9_gain_107 rfl
theorem dX9_gain_109 : decode cX9_gain 109 = .ok (.invokevirtual 176, 3) := de_b6 tX9_gain_109 (by decide +kernel)
def tX9_gain_112 := Bt_3 (q := 112) tX9_gain_109 rfl
theorem dX9_gain_112 : decode cX9_gain 112 = .ok (.lreturn, 1) := de_ad tX9_gain_112
def tX9_gain_113 := Bt_1 (q := 113) tX9_gain_112 rfl
theorem dX9_gain_113 : decode cX9_gain 113 = .ok (.iload 4, 2) := de_15 tX9_gain_113 (by decide +kernel)
def tX9_gain_115 := Bt_2 (q := 115) tX9_gain_113 rfl
theorem dX9_gain_115 : decode cX9_gain 115 = .ok (.ifCond .ne 16, 3) := de_9a tX9_gain_115 (by decide +kernel)
def tX9_gain_118 := Bt_3 (q := 118) tX9_gain_115 rfl
theorem dX9_gain_118 : decode cX9_gain 118 = .ok (.aload_n 0, 1) := de_2a tX9_gain_118
def tX9_gain_119 := Bt_1 (q := 119) tX9_gain_118 rfl
theorem dX9_gain_119 : decode cX9_gain 119 = .ok (.getfield 33, 3) := de_b4 tX9_gain_119 (by decide +kernel)
def tX9_gain_122 := Bt_3 (q := 122) tX9_gain_119 rfl
theorem dX9_gain_122 : decode cX9_gain 122 = .ok (.getfield 210, 3) := de_b4 tX9_gain_122 (by decide +kernel)
def tX9_gain_125 := Bt_3 (q := 125) tX9_gain_122 rfl
theorem dX9_gain_125 : decode cX9_gain 125 = .ok (.getfield 214, 3) := de_b4 tX9_gain_125 (by decide +kernel)
def tX9_gain_128 := Bt_3 (q := 128) tX9_gain_125 rfl
theorem dX9_gain_128 : decode cX9_gain 128 = .ok (.goto 13, 3) := de_a7 tX9_gain_128 (by decide +kernel)
def tX9_gain_131 := Bt_3 (q := 131) tX9_gain_128 rfl
theorem dX9_gain_131 : decode cX9_gain 131 = .ok (.aload_n 0, 1) := de_2a tX9_gain_131
def tX9_gain_132 := Bt_1 (q := 132) tX9_gain_131 rfl
theorem dX9_gain_132 : decode cX9_gain 132 = .ok (.getfield 33, 3) := de_b4 tX9_gain_132 (by decide +kernel)
def tX9_gain_135 := Bt_3 (q := 135) tX9_gain_132 rfl
theorem dX9_gain_135 : decode cX9_gain 135 = .ok (.getfield 210, 3) := de_b4 tX9_gain_135 (by decide +kernel)
def tX9_gain_138 := Bt_3 (q := 138) tX9_gain_135 rfl
theorem dX9_gain_138 : decode cX9_gain 138 = .ok (.getfield 220, 3) := de_b4 tX9_gain_138 (by decide +kernel)
def tX9_gain_141 := Bt_3 (q := 141) tX9_gain_138 rfl
theorem dX9_gain_141 : decode cX9_gain 141 = .ok (.lreturn, 1) := de_ad tX9_gain_141
def tX9_turned_0 := Bt_0 cX9_turned
theorem dX9_turned_0 : decode cX9_turned 0 = .ok (.aload_n 0, 1) := de_2a tX9_turned_0
def tX9_turned_1 := Bt_1 (q := 1) tX9_turned_0 rfl
theorem dX9_turned_1 : decode cX9_turned 1 = .ok (.iload_n 1, 1) := de_1b tX9_turned_1
def tX9_turned_2 := Bt_1 (q := 2) tX9_turned_1 rfl
theorem dX9_turned_2 : decode cX9_turned 2 = .ok (.iload_n 2, 1) := de_1c tX9_turned_2
def tX9_turned_3 := Bt_1 (q := 3) tX9_turned_2 rfl
theorem dX9_turned_3 : decode cX9_turned 3 = .ok (.iload_n 3, 1) := de_1d tX9_turned_3
def tX9_turned_4 := Bt_1 (q := 4) tX9_turned_3 rfl
theorem dX9_turned_4 : decode cX9_turned 4 = .ok (.invokevirtual 223, 3) := de_b6 tX9_turned_4 (by decide +kernel)
def tX9_turned_7 := Bt_3 (q := 7) tX9_turned_4 rfl
theorem dX9_turned_7 : decode cX9_turned 7 = .ok (.ifCond .eq 9, 3) := de_99 tX9_turned_7 (by decide +kernel)
def tX9_turned_10 := Bt_3 (q := 10) tX9_turned_7 rfl
theorem dX9_turned_10 : decode cX9_turned 10 = .ok (.aload_n 0, 1) := de_2a tX9_turned_10
def tX9_turned_11 := Bt_1 (q := 11) tX9_turned_10 rfl
theorem dX9_turned_11 : decode cX9_turned 11 = .ok (.iconst (-1), 1) := de_02 tX9_turned_11
def tX9_turned_12 := Bt_1 (q := 12) tX9_turned_11 rfl
theorem dX9_turned_12 : decode cX9_turned 12 = .ok (.invokevirtual 62, 3) := de_b6 tX9_turned_12 (by decide +kernel)
def tX9_turned_15 := Bt_3 (q := 15) tX9_turned_12 rfl
theorem dX9_turned_15 : decode cX9_turned 15 = .ok (.ireturn, 1) := de_ac tX9_turned_15
def tX9_turned_16 := Bt_1 (q := 16) tX9_turned_15 rfl
theorem dX9_turned_16 : decode cX9_turned 16 = .ok (.aload_n 0, 1) := de_2a tX9_turned_16
def tX9_turned_17 := Bt_1 (q := 17) tX9_turned_16 rfl
theorem dX9_turned_17 : decode cX9_turned 17 = .ok (.getfield 12, 3) := de_b4 tX9_turned_17 (by decide +kernel)
def tX9_turned_20 := Bt_3 (q := 20) tX9_turned_17 rfl
theorem dX9_turned_20 : decode cX9_turned 20 = .ok (.iload_n 2, 1) := de_1c tX9_turned_20
def tX9_turned_21 := Bt_1 (q := 21) tX9_turned_20 rfl
theorem dX9_turned_21 : decode cX9_turned 21 = .ok (.iload_n 1, 1) := de_1b tX9_turned_21
def tX9_turned_22 := Bt_1 (q := 22) tX9_turned_21 rfl
theorem dX9_turned_22 : decode cX9_turned 22 = .ok (.invokestatic 110, 3) := de_b8 tX9_turned_22 (by decide +kernel)
def tX9_turned_25 := Bt_3 (q := 25) tX9_turned_22 rfl
theorem dX9_turned_25 : decode cX9_turned 25 = .ok (.invokevirtual 138, 3) := de_b6 tX9_turned_25 (by decide +kernel)
def tX9_turned_28 := Bt_3 (q := 28) tX9_turned_25 rfl
theorem dX9_turned_28 : decode cX9_turned 28 = .ok (.ifCond .eq 18, 3) := de_99 tX9_turned_28 (by decide +kernel)
def tX9_turned_31 := Bt_3 (q := 31) tX9_turned_28 rfl
theorem dX9_turned_31 : decode cX9_turned 31 = .ok (.aload_n 0, 1) := de_2a tX9_turned_31
def tX9_turned_32 := Bt_1 (q := 32) tX9_turned_31 rfl
theorem dX9_turned_32 : decode cX9_turned 32 = .ok (.getfield 12, 3) := de_b4 tX9_turned_32 (by decide +kernel)
def tX9_turned_35 := Bt_3 (q := 35) tX9_turned_32 rfl
theorem dX9_turned_35 : decode cX9_turned 35 = .ok (.iload_n 3, 1) := de_1d tX9_turned_35
def tX9_turned_36 := Bt_1 (q := 36) tX9_turned_35 rfl
theorem dX9_turned_36 : decode cX9_turned 36 = .ok (.iload_n 1, 1) := de_1b tX9_turned_36
def tX9_turned_37 := Bt_1 (q := 37) tX9_turned_36 rfl
theorem dX9_turned_37 : decode cX9_turned 37 = .ok (.invokestatic 110, 3) := de_b8 tX9_turned_37 (by decide +kernel)
def tX9_turned_40 := Bt_3 (q := 40) tX9_turned_37 rfl
theorem dX9_turned_40 : decode cX9_turned 40 = .ok (.invokevirtual 138, 3) := de_b6 tX9_turned_40 (by decide +kernel)
def tX9_turned_43 := Bt_3 (q := 43) tX9_turned_40 rfl
theorem dX9_turned_43 : decode cX9_turned 43 = .ok (.ifCond .ne 10, 3) := de_9a tX9_turned_43 (by decide +kernel)
def tX9_turned_46 := Bt_3 (q := 46) tX9_turned_43 rfl
theorem dX9_turned_46 : decode cX9_turned 46 = .ok (.aload_n 0, 1) := de_2a tX9_turned_46
def tX9_turned_47 := Bt_1 (q := 47) tX9_turned_46 rfl
theorem dX9_turned_47 : decode cX9_turned 47 = .ok (.bipush (-5), 2) := de_10 tX9_turned_47 (by decide +kernel)
def tX9_turned_49 := Bt_2 (q := 49) tX9_turned_47 rfl
theorem dX9_turned_49 : decode cX9_turned 49 = .ok (.invokevirtual 62, 3) := de_b6 tX9_turned_49 (by decide +kernel)
def tX9_turned_52 := Bt_3 (q := 52) tX9_turned_49 rfl
theorem dX9_turned_52 : decode cX9_turned 52 = .ok (.ireturn, 1) := de_ac tX9_turned_52
def tX9_turned_53 := Bt_1 (q := 53) tX9_turned_52 rfl
theorem dX9_turned_53 : decode cX9_turned 53 = .ok (.aload_n 0, 1) := de_2a tX9_turned_53
def tX9_turned_54 := Bt_1 (q := 54) tX9_turned_53 rfl
theorem dX9_turned_54 : decode cX9_turned 54 = .ok (.iload_n 1, 1) := de_1b tX9_turned_54
def tX9_turned_55 := Bt_1 (q := 55) tX9_turned_54 rfl
theorem dX9_turned_55 : decode cX9_turned 55 = .ok (.iload_n 2, 1) := de_1c tX9_turned_55
def tX9_turned_56 := Bt_1 (q := 56) tX9_turned_55 rfl
theorem dX9_turned_56 : decode cX9_turned 56 = .ok (.iload_n 3, 1) := de_1d tX9_turned_56
def tX9_turned_57 := Bt_1 (q := 57) tX9_turned_56 rfl
theorem dX9_turned_57 : decode cX9_turned 57 = .ok (.iconst (-1), 1) := de_02 tX9_turned_57
def tX9_turned_58 := Bt_1 (q := 58) tX9_turned_57 rfl
theorem dX9_turned_58 : decode cX9_turned 58 = .ok (.invokevirtual 227, 3) := de_b6 tX9_turned_58 (by decide +kernel)
def tX9_turned_61 := Bt_3 (q := 61) tX9_turned_58 rfl
theorem dX9_turned_61 : decode cX9_turned 61 = .ok (.aload_n 0, 1) := de_2a tX9_turned_61
def tX9_turned_62 := Bt_1 (q := 62) tX9_turned_61 rfl
theorem dX9_turned_62 : decode cX9_turned 62 = .ok (.getfield 33, 3) := de_b4 tX9_turned_62 (by decide +kernel)
def tX9_turned_65 := Bt_3 (q := 65) tX9_turned_62 rfl
theorem dX9_turned_65 : decode cX9_turned 65 = .ok (.getfield 184, 3) := de_b4 tX9_turned_65 (by decide +kernel)
def tX9_turned_68 := Bt_3 (q := 68) tX9_turned_65 rfl
theorem dX9_turned_68 : decode cX9_turned 68 = .ok (.iload_n 2, 1) := de_1c tX9_turned_68
def tX9_turned_69 := Bt_1 (q := 69) tX9_turned_68 rfl
theorem dX9_turned_69 : decode cX9_turned 69 = .ok (.baload, 1) := de_33 tX9_turned_69
def tX9_turned_70 := Bt_1 (q := 70) tX9_turned_69 rfl
theorem dX9_turned_70 : decode cX9_turned 70 = .ok (.ifCond .ne 15, 3) := de_9a tX9_turned_70 (by decide +kernel)
def tX9_turned_73 := Bt_3 (q := 73) tX9_turned_70 rfl
theorem dX9_turned_73 : decode cX9_turned 73 = .ok (.aload_n 0, 1) := de_2a tX9_turned_73
def tX9_turned_74 := Bt_1 (q := 74) tX9_turned_73 rfl
theorem dX9_turned_74 : decode cX9_turned 74 = .ok (.getfield 33, 3) := de_b4 tX9_turned_74 (by decide +kernel)
def tX9_turned_77 := Bt_3 (q := 77) tX9_turned_74 rfl
theorem dX9_turned_77 : decode cX9_turned 77 = .ok (.getfield 184, 3) := de_b4 tX9_turned_77 (by decide +kernel)
def tX9_turned_80 := Bt_3 (q := 80) tX9_turned_77 rfl
theorem dX9_turned_80 : decode cX9_turned 80 = .ok (.iload_n 3, 1) := de_1d tX9_turned_80
def tX9_turned_81 := Bt_1 (q := 81) tX9_turned_80 rfl
theorem dX9_turned_81 : decode cX9_turned 81 = .ok (.baload, 1) := de_33 tX9_turned_81
def tX9_turned_82 := Bt_1 (q := 82) tX9_turned_81 rfl
theorem dX9_turned_82 : decode cX9_turned 82 = .ok (.ifCond .eq 10, 3) := de_99 tX9_turned_82 (by decide +kernel)
def tX9_turned_85 := Bt_3 (q := 85) tX9_turned_82 rfl
theorem dX9_turned_85 : decode cX9_turned 85 = .ok (.aload_n 0, 1) := de_2a tX9_turned_85
def tX9_turned_86 := Bt_1 (q := 86) tX9_turned_85 rfl
theorem dX9_turned_86 : decode cX9_turned 86 = .ok (.bipush (-7), 2) := de_10 tX9_turned_86 (by decide +kernel)
def tX9_turned_88 := Bt_2 (q := 88) tX9_turned_86 rfl
theorem dX9_turned_88 : decode cX9_turned 88 = .ok (.invokevirtual 62, 3) := de_b6 tX9_turned_88 (by decide +kernel)
def tX9_turned_91 := Bt_3 (q := 91) tX9_turned_88 rfl
theorem dX9_turned_91 : decode cX9_turned 91 = .ok (.ireturn, 1) := de_ac tX9_turned_91
def tX9_turned_92 := Bt_1 (q := 92) tX9_turned_91 rfl
theorem dX9_turned_92 : decode cX9_turned 92 = .ok (.aload_n 0, 1) := de_2a tX9_turned_92
def tX9_turned_93 := Bt_1 (q := 93) tX9_turned_92 rfl
theorem dX9_turned_93 : decode cX9_turned 93 = .ok (.getfield 33, 3) := de_b4 tX9_turned_93 (by decide +kernel)
def tX9_turned_96 := Bt_3 (q := 96) tX9_turned_93 rfl
theorem dX9_turned_96 : decode cX9_turned 96 = .ok (.iload_n 2, 1) := de_1c tX9_turned_96
def tX9_turned_97 := Bt_1 (q := 97) tX9_turned_96 rfl
theorem dX9_turned_97 : decode cX9_turned 97 = .ok (.iload_n 3, 1) := de_1d tX9_turned_97
def tX9_turned_98 := Bt_1 (q := 98) tX9_turned_97 rfl
theorem dX9_turned_98 : decode cX9_turned 98 = .ok (.invokevirtual 230, 3) := de_b6 tX9_turned_98 (by decide +kernel)
def tX9_turned_101 := Bt_3 (q := 101) tX9_turned_98 rfl
theorem dX9_turned_101 : decode cX9_turned 101 = .ok (.ifCond .ne 10, 3) := de_9a tX9_turned_101 (by decide +kernel)
def tX9_turned_104 := Bt_3 (q := 104) tX9_turned_101 rfl
theorem dX9_turned_104 : decode cX9_turned 104 = .ok (.aload_n 0, 1) := de_2a tX9_turned_104
def tX9_turned_105 := Bt_1 (q := 105) tX9_turned_104 rfl
theorem dX9_turned_105 : decode cX9_turned 105 = .ok (.bipush (-3), 2) := de_10 tX9_turned_105 (by decide +kernel)
def tX9_turned_107 := Bt_2 (q := 107) tX9_turned_105 rfl
theorem dX9_turned_107 : decode cX9_turned 107 = .ok (.invokevirtual 62, 3) := de_b6 tX9_turned_107 (by decide +kernel)
def tX9_turned_110 := Bt_3 (q := 110) tX9_turned_107 rfl
theorem dX9_turned_110 : decode cX9_turned 110 = .ok (.ireturn, 1) := de_ac tX9_turned_110
def tX9_turned_111 := Bt_1 (q := 111) tX9_turned_110 rfl
theorem dX9_turned_111 : decode cX9_turned 111 = .ok (.iconst 0, 1) := de_03 tX9_turned_111
def tX9_turned_112 := Bt_1 (q := 112) tX9_turned_111 rfl
theorem dX9_turned_112 : decode cX9_turned 112 = .ok (.istore 4, 2) := de_36 tX9_turned_112 (by decide +kernel)
def tX9_turned_114 := Bt_2 (q := 114) tX9_turned_112 rfl
theorem dX9_turned_114 : decode cX9_turned 114 = .ok (.iload 4, 2) := de_15 tX9_turned_114 (by decide +kernel)
def tX9_turned_116 := Bt_2 (q := 116) tX9_turned_114 rfl
theorem dX9_turned_116 : decode cX9_turned 116 = .ok (.bipush 8, 2) := de_10 tX9_turned_116 (by decide +kernel)
def tX9_turned_118 := Bt_2 (q := 118) tX9_turned_116 rfl
theorem dX9_turned_118 : decode cX9_turned 118 = .ok (.if_icmp .ge 85, 3) := de_a2 tX9_turned_118 (by decide +kernel)
def tX9_turned_121 := Bt_3 (q := 121) tX9_turned_118 rfl
theorem dX9_turned_121 : decode cX9_turned 121 = .ok (.iload 4, 2) := de_15 tX9_turned_121 (by decide +kernel)
def tX9_turned_123 := Bt_2 (q := 123) tX9_turned_121 rfl
theorem dX9_turned_123 : decode cX9_turned 123 = .ok (.iload_n 2, 1) := de_1c tX9_turned_123
def tX9_turned_124 := Bt_1 (q := 124) tX9_turned_123 rfl
theorem dX9_turned_124 : decode cX9_turned 124 = .ok (.if_icmp .eq 73, 3) := de_9f tX9_turned_124 (by decide +kernel)
def tX9_turned_127 := Bt_3 (q := 127) tX9_turned_124 rfl
theorem dX9_turned_127 : decode cX9_turned 127 = .ok (.iload 4, 2) := de_15 tX9_turned_127 (by decide +kernel)
def tX9_turned_129 := Bt_2 (q := 129) tX9_turned_127 rfl
theorem dX9_turned_129 : decode cX9_turned 129 = .ok (.iload_n 3, 1) := de_1d tX9_turned_129
def tX9_turned_130 := Bt_1 (q := 130) tX9_turned_129 rfl
theorem dX9_turned_130 : decode cX9_turned 130 = .ok (.if_icmp .eq 67, 3) := de_9f tX9_turned_130 (by decide +kernel)
def tX9_turned_133 := Bt_3 (q := 133) tX9_turned_130 rfl
theorem dX9_turned_133 : decode cX9_turned 133 = .ok (.aload_n 0, 1) := de_2a tX9_turned_133
def tX9_turned_134 := Bt_1 (q := 134) tX9_turned_133 rfl
theorem dX9_turned_134 : decode cX9_turned 134 = .ok (.getfield 12, 3) := de_b4 tX9_turned_134 (by decide +kernel)
def tX9_turned_137 := Bt_3 (q := 137) tX9_turned_134 rfl
theorem dX9_turned_137 : decode cX9_turned 137 = .ok (.iload 4, 2) := de_15 tX9_turned_137 (by decide +kernel)
def tX9_turned_139 := Bt_2 (q := 139) tX9_turned_137 rfl
theorem dX9_turned_139 : decode cX9_turned 139 = .ok (.iload_n 1, 1) := de_1b tX9_turned_139
def tX9_turned_140 := Bt_1 (q := 140) tX9_turned_139 rfl
theorem dX9_turned_140 : decode cX9_turned 140 = .ok (.invokestatic 110, 3) := de_b8 tX9_turned_140 (by decide +kernel)
def tX9_turned_143 := Bt_3 (q := 143) tX9_turned_140 rfl
theorem dX9_turned_143 : decode cX9_turned 143 = .ok (.invokevirtual 138, 3) := de_b6 tX9_turned_143 (by decide +kernel)
def tX9_turned_146 := Bt_3 (q := 146) tX9_turned_143 rfl
theorem dX9_turned_146 : decode cX9_turned 146 = .ok (.ifCond .eq 51, 3) := de_99 tX9_turned_146 (by decide +kernel)
def tX9_turned_149 := Bt_3 (q := 149) tX9_turned_146 rfl
theorem dX9_turned_149 : decode cX9_turned 149 = .ok (.aload_n 0, 1) := de_2a tX9_turned_149
def tX9_turned_150 := Bt_1 (q := 150) tX9_turned_149 rfl
theorem dX9_turned_150 : decode cX9_turned 150 = .ok (.iload_n 1, 1) := de_1b tX9_turned_150
def tX9_turned_151 := Bt_1 (q := 151) tX9_turned_150 rfl
theorem dX9_turned_151 : decode cX9_turned 151 = .ok (.iload_n 2, 1) := de_1c tX9_turned_151
def tX9_turned_152 := Bt_1 (q := 152) tX9_turned_151 rfl
theorem dX9_turned_152 : decode cX9_turned 152 = .ok (.iload_n 3, 1) := de_1d tX9_turned_152
def tX9_turned_153 := Bt_1 (q := 153) tX9_turned_152 rfl
theorem dX9_turned_153 : decode cX9_turned 153 = .ok (.iload 4, 2) := de_15 tX9_turned_153 (by decide +kernel)
def tX9_turned_155 := Bt_2 (q := 155) tX9_turned_153 rfl
theorem dX9_turned_155 : decode cX9_turned 155 = .ok (.invokevirtual 227, 3) := de_b6 tX9_turned_155 (by decide +kernel)
def tX9_turned_158 := Bt_3 (q := 158) tX9_turned_155 rfl
theorem dX9_turned_158 : decode cX9_turned 158 = .ok (.aload_n 0, 1) := de_2a tX9_turned_158
def tX9_turned_159 := Bt_1 (q := 159) tX9_turned_158 rfl
theorem dX9_turned_159 : decode cX9_turned 159 = .ok (.getfield 33, 3) := de_b4 tX9_turned_159 (by decide +kernel)
def tX9_turned_162 := Bt_3 (q := 162) tX9_turned_159 rfl
theorem dX9_turned_162 : decode cX9_turned 162 = .ok (.getfield 184, 3) := de_b4 tX9_turned_162 (by decide +kernel)
def tX9_turned_165 := Bt_3 (q := 165) tX9_turned_162 rfl
theorem dX9_turned_165 : decode cX9_turned 165 = .ok (.iload_n 2, 1) := de_1c tX9_turned_165
def tX9_turned_166 := Bt_1 (q := 166) tX9_turned_165 rfl
theorem dX9_turned_166 : decode cX9_turned 166 = .ok (.baload, 1) := de_33 tX9_turned_166
def tX9_turned_167 := Bt_1 (q := 167) tX9_turned_166 rfl
theorem dX9_turned_167 : decode cX9_turned 167 = .ok (.ifCond .ne 30, 3) := de_9a tX9_turned_167 (by decide +kernel)
def tX9_turned_170 := Bt_3 (q := 170) tX9_turned_167 rfl
theorem dX9_turned_170 : decode cX9_turned 170 = .ok (.aload_n 0, 1) := de_2a tX9_turned_170
def tX9_turned_171 := Bt_1 (q := 171) tX9_turned_170 rfl
theorem dX9_turned_171 : decode cX9_turned 171 = .ok (.getfield 33, 3) := de_b4 tX9_turned_171 (by decide +kernel)
def tX9_turned_174 := Bt_3 (q := 174) tX9_turned_171 rfl
theorem dX9_turned_174 : decode cX9_turned 174 = .ok (.getfield 184, 3) := de_b4 tX9_turned_174 (by decide +kernel)
def tX9_turned_177 := Bt_3 (q := 177) tX9_turned_174 rfl
theorem dX9_turned_177 : decode cX9_turned 177 = .ok (.iload_n 3, 1) := de_1d tX9_turned_177
def tX9_turned_178 := Bt_1 (q := 178) tX9_turned_177 rfl
theorem dX9_turned_178 : decode cX9_turned 178 = .ok (.baload, 1) := de_33 tX9_turned_178
def tX9_turned_179 := Bt_1 (q := 179) tX9_turned_178 rfl
theorem dX9_turned_179 : decode cX9_turned 179 = .ok (.ifCond .ne 18, 3) := de_9a tX9_turned_179 (by decide +kernel)
def tX9_turned_182 := Bt_3 (q := 182) tX9_turned_179 rfl
theorem dX9_turned_182 : decode cX9_turned 182 = .ok (.aload_n 0, 1) := de_2a tX9_turned_182
def tX9_turned_183 := Bt_1 (q := 183) tX9_turned_182 rfl
theorem dX9_turned_183 : decode cX9_turned 183 = .ok (.getfield 33, 3) := de_b4 tX9_turned_183 (by decide +kernel)
def tX9_turned_186 := Bt_3 (q := 186) tX9_turned_183 rfl
theorem dX9_turned_186 : decode cX9_turned 186 = .ok (.iload_n 3, 1) := de_1d tX9_turned_186
def tX9_turned_187 := Bt_1 (q := 187) tX9_turned_186 rfl
theorem dX9_turned_187 : decode cX9_turned 187 = .ok (.iload_n 2, 1) := de_1c tX9_turned_187
def tX9_turned_188 := Bt_1 (q := 188) tX9_turned_187 rfl
theorem dX9_turned_188 : decode cX9_turned 188 = .ok (.invokevirtual 230, 3) := de_b6 tX9_turned_188 (by decide +kernel)
def tX9_turned_191 := Bt_3 (q := 191) tX9_turned_188 rfl
theorem dX9_turned_191 : decode cX9_turned 191 = .ok (.ifCond .eq 6, 3) := de_99 tX9_turned_191 (by decide +kernel)
def tX9_turned_194 := Bt_3 (q := 194) tX9_turned_191 rfl
theorem dX9_turned_194 : decode cX9_turned 194 = .ok (.iload 4, 2) := de_15 tX9_turned_194 (by decide +kernel)
def tX9_turned_196 := Bt_2 (q := 196) tX9_turned_194 rfl
theorem dX9_turned_196 : decode cX9_turned 196 = .ok (.ireturn, 1) := de_ac tX9_turned_196
def tX9_turned_197 := Bt_1 (q := 197) tX9_turned_196 rfl
theorem dX9_turned_197 : decode cX9_turned 197 = .ok (.iinc 4 1, 3) := de_84 tX9_turned_197 (by decide +kernel) (by decide +kernel)
def tX9_turned_200 := Bt_3 (q := 200) tX9_turned_197 rfl
theorem dX9_turned_200 : decode cX9_turned 200 = .ok (.goto (-86), 3) := de_a7 tX9_turned_200 (by decide +kernel)
def tX9_turned_203 := Bt_3 (q := 203) tX9_turned_200 rfl
theorem dX9_turned_203 : decode cX9_turned 203 = .ok (.bipush (-9), 2) := de_10 tX9_turned_203 (by decide +kernel)
def tX9_turned_205 := Bt_2 (q := 205) tX9_turned_203 rfl
theorem dX9_turned_205 : decode cX9_turned 205 = .ok (.ireturn, 1) := de_ac tX9_turned_205
def tX9_low_0 := Bt_0 cX9_low
theorem dX9_low_0 : decode cX9_low 0 = .ok (.aload_n 0, 1) := de_2a tX9_low_0
def tX9_low_1 := Bt_1 (q := 1) tX9_low_0 rfl
theorem dX9_low_1 : decode cX9_low 1 = .ok (.iload_n 1, 1) := de_1b tX9_low_1
def tX9_low_2 := Bt_1 (q := 2) tX9_low_1 rfl
theorem dX9_low_2 : decode cX9_low 2 = .ok (.iload_n 2, 1) := de_1c tX9_low_2
def tX9_low_3 := Bt_1 (q := 3) tX9_low_2 rfl
theorem dX9_low_3 : decode cX9_low 3 = .ok (.invokevirtual 93, 3) := de_b6 tX9_low_3 (by decide +kernel)
def tX9_low_6 := Bt_3 (q := 6) tX9_low_3 rfl
theorem dX9_low_6 : decode cX9_low 6 = .ok (.ifCond .eq 9, 3) := de_99 tX9_low_6 (by decide +kernel)
def tX9_low_9 := Bt_3 (q := 9) tX9_low_6 rfl
theorem dX9_low_9 : decode cX9_low 9 = .ok (.aload_n 0, 1) := de_2a tX9_low_9
def tX9_low_10 := Bt_1 (q := 10) tX9_low_9 rfl
theorem dX9_low_10 : decode cX9_low 10 = .ok (.iconst (-1), 1) := de_02 tX9_low_10
def tX9_low_11 := Bt_1 (q := 11) tX9_low_10 rfl
theorem dX9_low_11 : decode cX9_low 11 = .ok (.invokevirtual 62, 3) := de_b6 tX9_low_11 (by decide +kernel)
def tX9_low_14 := Bt_3 (q := 14) tX9_low_11 rfl
theorem dX9_low_14 : decode cX9_low 14 = .ok (.ireturn, 1) := de_ac tX9_low_14
def tX9_low_15 := Bt_1 (q := 15) tX9_low_14 rfl
theorem dX9_low_15 : decode cX9_low 15 = .ok (.aload_n 0, 1) := de_2a tX9_low_15
def tX9_low_16 := Bt_1 (q := 16) tX9_low_15 rfl
theorem dX9_low_16 : decode cX9_low 16 = .ok (.getfield 12, 3) := de_b4 tX9_low_16 (by decide +kernel)
def tX9_low_19 := Bt_3 (q := 19) tX9_low_16 rfl
theorem dX9_low_19 : decode cX9_low 19 = .ok (.iload_n 1, 1) := de_1b tX9_low_19
def tX9_low_20 := Bt_1 (q := 20) tX9_low_19 rfl
theorem dX9_low_20 : decode cX9_low 20 = .ok (.iload_n 2, 1) := de_1c tX9_low_20
def tX9_low_21 := Bt_1 (q := 21) tX9_low_20 rfl
theorem dX9_low_21 : decode cX9_low 21 = .ok (.invokestatic 110, 3) := de_b8 tX9_low_21 (by decide +kernel)
def tX9_low_24 := Bt_3 (q := 24) tX9_low_21 rfl
theorem dX9_low_24 : decode cX9_low 24 = .ok (.invokevirtual 138, 3) := de_b6 tX9_low_24 (by decide +kernel)
def tX9_low_27 := Bt_3 (q := 27) tX9_low_24 rfl
theorem dX9_low_27 : decode cX9_low 27 = .ok (.ifCond .ne 10, 3) := de_9a tX9_low_27 (by decide +kernel)
def tX9_low_30 := Bt_3 (q := 30) tX9_low_27 rfl
theorem dX9_low_30 : decode cX9_low 30 = .ok (.aload_n 0, 1) := de_2a tX9_low_30
def tX9_low_31 := Bt_1 (q := 31) tX9_low_30 rfl
theorem dX9_low_31 : decode cX9_low 31 = .ok (.bipush (-5), 2) := de_10 tX9_low_31 (by decide +kernel)
def tX9_low_33 := Bt_2 (q := 33) tX9_low_31 rfl
theorem dX9_low_33 : decode cX9_low 33 = .ok (.invokevirtual 62, 3) := de_b6 tX9_low_33 (by decide +kernel)
def tX9_low_36 := Bt_3 (q := 36) tX9_low_33 rfl
theorem dX9_low_36 : decode cX9_low 36 = .ok (.ireturn, 1) := de_ac tX9_low_36
def tX9_low_37 := Bt_1 (q := 37) tX9_low_36 rfl
theorem dX9_low_37 : decode cX9_low 37 = .ok (.aload_n 0, 1) := de_2a tX9_low_37
def tX9_low_38 := Bt_1 (q := 38) tX9_low_37 rfl
theorem dX9_low_38 : decode cX9_low 38 = .ok (.getfield 12, 3) := de_b4 tX9_low_38 (by decide +kernel)
def tX9_low_41 := Bt_3 (q := 41) tX9_low_38 rfl
theorem dX9_low_41 : decode cX9_low 41 = .ok (.iload_n 1, 1) := de_1b tX9_low_41
def tX9_low_42 := Bt_1 (q := 42) tX9_low_41 rfl
theorem dX9_low_42 : decode cX9_low 42 = .ok (.iload_n 2, 1) := de_1c tX9_low_42
def tX9_low_43 := Bt_1 (q := 43) tX9_low_42 rfl
theorem dX9_low_43 : decode cX9_low 43 = .ok (.invokevirtual 233, 3) := de_b6 tX9_low_43 (by decide +kernel)
def tX9_low_46 := Bt_3 (q := 46) tX9_low_43 rfl
theorem dX9_low_46 : decode cX9_low 46 = .ok (.ifCond .eq 7, 3) := de_99 tX9_low_46 (by decide +kernel)
def tX9_low_49 := Bt_3 (q := 49) tX9_low_46 rfl
theorem dX9_low_49 : decode cX9_low 49 = .ok (.iconst 1, 1) := de_04 tX9_low_49
def tX9_low_50 := Bt_1 (q := 50) tX9_low_49 rfl
theorem dX9_low_50 : decode cX9_low 50 = .ok (.goto 4, 3) := de_a7 tX9_low_50 (by decide +kernel)
def tX9_low_53 := Bt_3 (q := 53) tX9_low_50 rfl
theorem dX9_low_53 : decode cX9_low 53 = .ok (.iconst 0, 1) := de_03 tX9_low_53
def tX9_low_54 := Bt_1 (q := 54) tX9_low_53 rfl
theorem dX9_low_54 : decode cX9_low 54 = .ok (.ireturn, 1) := de_ac tX9_low_54
def tX9_ask_0 := Bt_0 cX9_ask
theorem dX9_ask_0 : decode cX9_ask 0 = .ok (.aload_n 0, 1) := de_2a tX9_ask_0
def tX9_ask_1 := Bt_1 (q := 1) tX9_ask_0 rfl
theorem dX9_ask_1 : decode cX9_ask 1 = .ok (.iload_n 1, 1) := de_1b tX9_ask_1
def tX9_ask_2 := Bt_1 (q := 2) tX9_ask_1 rfl
theorem dX9_ask_2 : decode cX9_ask 2 = .ok (.iload_n 2, 1) := de_1c tX9_ask_2
def tX9_ask_3 := Bt_1 (q := 3) tX9_ask_2 rfl
theorem dX9_ask_3 : decode cX9_ask 3 = .ok (.invokevirtual 93, 3) := de_b6 tX9_ask_3 (by decide +kernel)
def tX9_ask_6 := Bt_3 (q := 6) tX9_ask_3 rfl
theorem dX9_ask_6 : decode cX9_ask 6 = .ok (.ifCond .eq 9, 3) := de_99 tX9_ask_6 (by decide +kernel)
def tX9_ask_9 := Bt_3 (q := 9) tX9_ask_6 rfl
theorem dX9_ask_9 : decode cX9_ask 9 = .ok (.aload_n 0, 1) := de_2a tX9_ask_9
def tX9_ask_10 := Bt_1 (q := 10) tX9_ask_9 rfl
theorem dX9_ask_10 : decode cX9_ask 10 = .ok (.iconst (-1), 1) := de_02 tX9_ask_10
def tX9_ask_11 := Bt_1 (q := 11) tX9_ask_10 rfl
theorem dX9_ask_11 : decode cX9_ask 11 = .ok (.invokevirtual 62, 3) := de_b6 tX9_ask_11 (by decide +kernel)
def tX9_ask_14 := Bt_3 (q := 14) tX9_ask_11 rfl
theorem dX9_ask_14 : decode cX9_ask 14 = .ok (.ireturn, 1) := de_ac tX9_ask_14
def tX9_ask_15 := Bt_1 (q := 15) tX9_ask_14 rfl
theorem dX9_ask_15 : decode cX9_ask 15 = .ok (.iload_n 1, 1) := de_1b tX9_ask_15
def tX9_ask_16 := Bt_1 (q := 16) tX9_ask_15 rfl
theorem dX9_ask_16 : decode cX9_ask 16 = .ok (.iload_n 2, 1) := de_1c tX9_ask_16
def tX9_ask_17 := Bt_1 (q := 17) tX9_ask_16 rfl
theorem dX9_ask_17 : decode cX9_ask 17 = .ok (.invokestatic 110, 3) := de_b8 tX9_ask_17 (by decide +kernel)
def tX9_ask_20 := Bt_3 (q := 20) tX9_ask_17 rfl
theorem dX9_ask_20 : decode cX9_ask 20 = .ok (.istore 4, 2) := de_36 tX9_ask_20 (by decide +kernel)
def tX9_ask_22 := Bt_2 (q := 22) tX9_ask_20 rfl
theorem dX9_ask_22 : decode cX9_ask 22 = .ok (.aload_n 0, 1) := de_2a tX9_ask_22
def tX9_ask_23 := Bt_1 (q := 23) tX9_ask_22 rfl
theorem dX9_ask_23 : decode cX9_ask 23 = .ok (.getfield 12, 3) := de_b4 tX9_ask_23 (by decide +kernel)
def tX9_ask_26 := Bt_3 (q := 26) tX9_ask_23 rfl
theorem dX9_ask_26 : decode cX9_ask 26 = .ok (.iload 4, 2) := de_15 tX9_ask_26 (by decide +kernel)
def tX9_ask_28 := Bt_2 (q := 28) tX9_ask_26 rfl
theorem dX9_ask_28 : decode cX9_ask 28 = .ok (.invokevirtual 138, 3) := de_b6 tX9_ask_28 (by decide +kernel)
def tX9_ask_31 := Bt_3 (q := 31) tX9_ask_28 rfl
theorem dX9_ask_31 : decode cX9_ask 31 = .ok (.ifCond .ne 10, 3) := de_9a tX9_ask_31 (by decide +kernel)
def tX9_ask_34 := Bt_3 (q := 34) tX9_ask_31 rfl
theorem dX9_ask_34 : decode cX9_ask 34 = .ok (.aload_n 0, 1) := de_2a tX9_ask_34
def tX9_ask_35 := Bt_1 (q := 35) tX9_ask_34 rfl
theorem dX9_ask_35 : decode cX9_ask 35 = .ok (.bipush (-5), 2) := de_10 tX9_ask_35 (by decide +kernel)
def tX9_ask_37 := Bt_2 (q := 37) tX9_ask_35 rfl
theorem dX9_ask_37 : decode cX9_ask 37 = .ok (.invokevirtual 62, 3) := de_b6 tX9_ask_37 (by decide +kernel)
def tX9_ask_40 := Bt_3 (q := 40) tX9_ask_37 rfl
theorem dX9_ask_40 : decode cX9_ask 40 = .ok (.ireturn, 1) := de_ac tX9_ask_40
def tX9_ask_41 := Bt_1 (q := 41) tX9_ask_40 rfl
theorem dX9_ask_41 : decode cX9_ask 41 = .ok (.aload_n 0, 1) := de_2a tX9_ask_41
def tX9_ask_42 := Bt_1 (q := 42) tX9_ask_41 rfl
theorem dX9_ask_42 : decode cX9_ask 42 = .ok (.getfield 12, 3) := de_b4 tX9_ask_42 (by decide +kernel)
def tX9_ask_45 := Bt_3 (q := 45) tX9_ask_42 rfl
theorem dX9_ask_45 : decode cX9_ask 45 = .ok (.getfield 236, 3) := de_b4 tX9_ask_45 (by decide +kernel)
def tX9_ask_48 := Bt_3 (q := 48) tX9_ask_45 rfl
theorem dX9_ask_48 : decode cX9_ask 48 = .ok (.iload 4, 2) := de_15 tX9_ask_48 (by decide +kernel)
def tX9_ask_50 := Bt_2 (q := 50) tX9_ask_48 rfl
theorem dX9_ask_50 : decode cX9_ask 50 = .ok (.iaload, 1) := de_2e tX9_ask_50
def tX9_ask_51 := Bt_1 (q := 51) tX9_ask_50 rfl
theorem dX9_ask_51 : decode cX9_ask 51 = .ok (.ifCond .ne 15, 3) := de_9a tX9_ask_51 (by decide +kernel)
def tX9_ask_54 := Bt_3 (q := 54) tX9_ask_51 rfl
theorem dX9_ask_54 : decode cX9_ask 54 = .ok (.aload_n 0, 1) := de_2a tX9_ask_54
def tX9_ask_55 := Bt_1 (q := 55) tX9_ask_54 rfl
theorem dX9_ask_55 : decode cX9_ask 55 = .ok (.getfield 12, 3) := de_b4 tX9_ask_55 (by decide +kernel)
def tX9_ask_58 := Bt_3 (q := 58) tX9_ask_55 rfl
theorem dX9_ask_58 : decode cX9_ask 58 = .ok (.iload_n 1, 1) := de_1b tX9_ask_58
def tX9_ask_59 := Bt_1 (q := 59) tX9_ask_58 rfl
theorem dX9_ask_59 : decode cX9_ask 59 = .ok (.iload_n 2, 1) := de_1c tX9_ask_59
def tX9_ask_60 := Bt_1 (q := 60) tX9_ask_59 rfl
theorem dX9_ask_60 : decode cX9_ask 60 = .ok (.invokevirtual 233, 3) := de_b6 tX9_ask_60 (by decide +kernel)
def tX9_ask_63 := Bt_3 (q := 63) tX9_ask_60 rfl
theorem dX9_ask_63 : decode cX9_ask 63 = .ok (.ifCond .ne 10, 3) := de_9a tX9_ask_63 (by decide +kernel)
def tX9_ask_66 := Bt_3 (q := 66) tX9_ask_63 rfl
theorem dX9_ask_66 : decode cX9_ask 66 = .ok (.aload_n 0, 1) := de_2a tX9_ask_66
def tX9_ask_67 := Bt_1 (q := 67) tX9_ask_66 rfl
theorem dX9_ask_67 : decode cX9_ask 67 = .ok (.bipush (-3), 2) := de_10 tX9_ask_67 (by decide +kernel)
def tX9_ask_69 := Bt_2 (q := 69) tX9_ask_67 rfl
theorem dX9_ask_69 : decode cX9_ask 69 = .ok (.invokevirtual 62, 3) := de_b6 tX9_ask_69 (by decide +kernel)
def tX9_ask_72 := Bt_3 (q := 72) tX9_ask_69 rfl
theorem dX9_ask_72 : decode cX9_ask 72 = .ok (.ireturn, 1) := de_ac tX9_ask_72
def tX9_ask_73 := Bt_1 (q := 73) tX9_ask_72 rfl
theorem dX9_ask_73 : decode cX9_ask 73 = .ok (.iload_n 3, 1) := de_1d tX9_ask_73
def tX9_ask_74 := Bt_1 (q := 74) tX9_ask_73 rfl
theorem dX9_ask_74 : decode cX9_ask 74 = .ok (.aload_n 0, 1) := de_2a tX9_ask_74
def tX9_ask_75 := Bt_1 (q := 75) tX9_ask_74 rfl
theorem dX9_ask_75 : decode cX9_ask 75 = .ok (.getfield 12, 3) := de_b4 tX9_ask_75 (by decide +kernel)
def tX9_ask_78 := Bt_3 (q := 78) tX9_ask_75 rfl
theorem dX9_ask_78 : decode cX9_ask 78 = .ok (.getfield 67, 3) := de_b4 tX9_ask_78 (by decide +kernel)
def tX9_ask_81 := Bt_3 (q := 81) tX9_ask_78 rfl
theorem dX9_ask_81 : decode cX9_ask 81 = .ok (.iconst 1, 1) := de_04 tX9_ask_81
def tX9_ask_82 := Bt_1 (q := 82) tX9_ask_81 rfl
theorem dX9_ask_82 : decode cX9_ask 82 = .ok (.iadd, 1) := de_60 tX9_ask_82
def tX9_ask_83 := Bt_1 (q := 83) tX9_ask_82 rfl
theorem dX9_ask_83 : decode cX9_ask 83 = .ok (.ldc 66, 2) := de_12 tX9_ask_83 (by decide +kernel)
def tX9_ask_85 := Bt_2 (q := 85) tX9_ask_83 rfl
theorem dX9_ask_85 : decode cX9_ask 85 = .ok (.invokestatic 76, 3) := de_b8 tX9_ask_85 (by decide +kernel)
def tX9_ask_88 := Bt_3 (q := 88) tX9_ask_85 rfl
theorem dX9_ask_88 : decode cX9_ask 88 = .ok (.istore 5, 2) := de_36 tX9_ask_88 (by decide +kernel)
def tX9_ask_90 := Bt_2 (q := 90) tX9_ask_88 rfl
theorem dX9_ask_90 : decode cX9_ask 90 = .ok (.iload 5, 2) := de_15 tX9_ask_90 (by decide +kernel)
def tX9_ask_92 := Bt_2 (q := 92) tX9_ask_90 rfl
theorem dX9_ask_92 : decode cX9_ask 92 = .ok (.ifCond .eq 10, 3) := de_99 tX9_ask_92 (by decide +kernel)
def tX9_ask_95 := Bt_3 (q := 95) tX9_ask_92 rfl
theorem dX9_ask_95 : decode cX9_ask 95 = .ok (.aload_n 0, 1) := de_2a tX9_ask_95
def tX9_ask_96 := Bt_1 (q := 96) tX9_ask_95 rfl
theorem dX9_ask_96 : decode cX9_ask 96 = .ok (.iload 5, 2) := de_15 tX9_ask_96 (by decide +kernel)
def tX9_ask_98 := Bt_2 (q := 98) tX9_ask_96 rfl
theorem dX9_ask_98 : decode cX9_ask 98 = .ok (.invokevirtual 62, 3) := de_b6 tX9_ask_98 (by decide +kernel)
def tX9_ask_101 := Bt_3 (q := 101) tX9_ask_98 rfl
theorem dX9_ask_101 : decode cX9_ask 101 = .ok (.ireturn, 1) := de_ac tX9_ask_101
def tX9_ask_102 := Bt_1 (q := 102) tX9_ask_101 rfl
theorem dX9_ask_102 : decode cX9_ask 102 = .ok (.aload_n 0, 1) := de_2a tX9_ask_102
def tX9_ask_103 := Bt_1 (q := 103) tX9_ask_102 rfl
theorem dX9_ask_103 : decode cX9_ask 103 = .ok (.getfield 12, 3) := de_b4 tX9_ask_103 (by decide +kernel)
def tX9_ask_106 := Bt_3 (q := 106) tX9_ask_103 rfl
theorem dX9_ask_106 : decode cX9_ask 106 = .ok (.getfield 236, 3) := de_b4 tX9_ask_106 (by decide +kernel)
def tX9_ask_109 := Bt_3 (q := 109) tX9_ask_106 rfl
theorem dX9_ask_109 : decode cX9_ask 109 = .ok (.iload 4, 2) := de_15 tX9_ask_109 (by decide +kernel)
def tX9_ask_111 := Bt_2 (q := 111) tX9_ask_109 rfl
theorem dX9_ask_111 : decode cX9_ask 111 = .ok (.iload_n 3, 1) := de_1d tX9_ask_111
def tX9_ask_112 := Bt_1 (q := 112) tX9_ask_111 rfl
theorem dX9_ask_112 : decode cX9_ask 112 = .ok (.iastore, 1) := de_4f tX9_ask_112
def tX9_ask_113 := Bt_1 (q := 113) tX9_ask_112 rfl
theorem dX9_ask_113 : decode cX9_ask 113 = .ok (.iconst 1, 1) := de_04 tX9_ask_113
def tX9_ask_114 := Bt_1 (q := 114) tX9_ask_113 rfl
theorem dX9_ask_114 : decode cX9_ask 114 = .ok (.ireturn, 1) := de_ac tX9_ask_114
def tX9_answer_0 := Bt_0 cX9_answer
theorem dX9_answer_0 : decode cX9_answer 0 = .ok (.aload_n 0, 1) := de_2a tX9_answer_0
def tX9_answer_1 := Bt_1 (q := 1) tX9_answer_0 rfl
theorem dX9_answer_1 : decode cX9_answer 1 = .ok (.iload_n 1, 1) := de_1b tX9_answer_1
def tX9_answer_2 := Bt_1 (q := 2) tX9_answer_1 rfl
theorem dX9_answer_2 : decode cX9_answer 2 = .ok (.iload_n 2, 1) := de_1c tX9_answer_2
def tX9_answer_3 := Bt_1 (q := 3) tX9_answer_2 rfl
theorem dX9_answer_3 : decode cX9_answer 3 = .ok (.invokevirtual 93, 3) := de_b6 tX9_answer_3 (by decide +kernel)
def tX9_answer_6 := Bt_3 (q := 6) tX9_answer_3 rfl
theorem dX9_answer_6 : decode cX9_answer 6 = .ok (.ifCond .eq 9, 3) := de_99 tX9_answer_6 (by decide +kernel)
def tX9_answer_9 := Bt_3 (q := 9) tX9_answer_6 rfl
theorem dX9_answer_9 : decode cX9_answer 9 = .ok (.aload_n 0, 1) := de_2a tX9_answer_9
def tX9_answer_10 := Bt_1 (q := 10) tX9_answer_9 rfl
theorem dX9_answer_10 : decode cX9_answer 10 = .ok (.iconst (-1), 1) := de_02 tX9_answer_10
def tX9_answer_11 := Bt_1 (q := 11) tX9_answer_10 rfl
theorem dX9_answer_11 : decode cX9_answer 11 = .ok (.invokevirtual 62, 3) := de_b6 tX9_answer_11 (by decide +kernel)
def tX9_answer_14 := Bt_3 (q := 14) tX9_answer_11 rfl
theorem dX9_answer_14 : decode cX9_answer 14 = .ok (.ireturn, 1) := de_ac tX9_answer_14
def tX9_answer_15 := Bt_1 (q := 15) tX9_answer_14 rfl
theorem dX9_answer_15 : decode cX9_answer 15 = .ok (.iload_n 1, 1) := de_1b tX9_answer_15
def tX9_answer_16 := Bt_1 (q := 16) tX9_answer_15 rfl
theorem dX9_answer_16 : decode cX9_answer 16 = .ok (.iload_n 2, 1) := de_1c tX9_answer_16
def tX9_answer_17 := Bt_1 (q := 17) tX9_answer_16 rfl
theorem dX9_answer_17 : decode cX9_answer 17 = .ok (.invokestatic 110, 3) := de_b8 tX9_answer_17 (by decide +kernel)
def tX9_answer_20 := Bt_3 (q := 20) tX9_answer_17 rfl
theorem dX9_answer_20 : decode cX9_answer 20 = .ok (.istore_n 3, 1) := de_3e tX9_answer_20
def tX9_answer_21 := Bt_1 (q := 21) tX9_answer_20 rfl
theorem dX9_answer_21 : decode cX9_answer 21 = .ok (.aload_n 0, 1) := de_2a tX9_answer_21
def tX9_answer_22 := Bt_1 (q := 22) tX9_answer_21 rfl
theorem dX9_answer_22 : decode cX9_answer 22 = .ok (.getfield 12, 3) := de_b4 tX9_answer_22 (by decide +kernel)
def tX9_answer_25 := Bt_3 (q := 25) tX9_answer_22 rfl
theorem dX9_answer_25 : decode cX9_answer 25 = .ok (.iload_n 3, 1) := de_1d tX9_answer_25
def tX9_answer_26 := Bt_1 (q := 26) tX9_answer_25 rfl
theorem dX9_answer_26 : decode cX9_answer 26 = .ok (.invokevirtual 138, 3) := de_b6 tX9_answer_26 (by decide +kernel)
def tX9_answer_29 := Bt_3 (q := 29) tX9_answer_26 rfl
theorem dX9_answer_29 : decode cX9_answer 29 = .ok (.ifCond .ne 10, 3) := de_9a tX9_answer_29 (by decide +kernel)
def tX9_answer_32 := Bt_3 (q := 32) tX9_answer_29 rfl
theorem dX9_answer_32 : decode cX9_answer 32 = .ok (.aload_n 0, 1) := de_2a tX9_answer_32
def tX9_answer_33 := Bt_1 (q := 33) tX9_answer_32 rfl
theorem dX9_answer_33 : decode cX9_answer 33 = .ok (.bipush (-5), 2) := de_10 tX9_answer_33 (by decide +kernel)
def tX9_answer_35 := Bt_2 (q := 35) tX9_answer_33 rfl
theorem dX9_answer_35 : decode cX9_answer 35 = .ok (.invokevirtual 62, 3) := de_b6 tX9_answer_35 (by decide +kernel)
def tX9_answer_38 := Bt_3 (q := 38) tX9_answer_35 rfl
theorem dX9_answer_38 : decode cX9_answer 38 = .ok (.ireturn, 1) := de_ac tX9_answer_38
def tX9_answer_39 := Bt_1 (q := 39) tX9_answer_38 rfl
theorem dX9_answer_39 : decode cX9_answer 39 = .ok (.aload_n 0, 1) := de_2a tX9_answer_39
def tX9_answer_40 := Bt_1 (q := 40) tX9_answer_39 rfl
theorem dX9_answer_40 : decode cX9_answer 40 = .ok (.getfield 12, 3) := de_b4 tX9_answer_40 (by decide +kernel)
def tX9_answer_43 := Bt_3 (q := 43) tX9_answer_40 rfl
theorem dX9_answer_43 : decode cX9_answer 43 = .ok (.getfield 236, 3) := de_b4 tX9_answer_43 (by decide +kernel)
def tX9_answer_46 := Bt_3 (q := 46) tX9_answer_43 rfl
theorem dX9_answer_46 : decode cX9_answer 46 = .ok (.iload_n 3, 1) := de_1d tX9_answer_46
def tX9_answer_47 := Bt_1 (q := 47) tX9_answer_46 rfl
theorem dX9_answer_47 : decode cX9_answer 47 = .ok (.iaload, 1) := de_2e tX9_answer_47
def tX9_answer_48 := Bt_1 (q := 48) tX9_answer_47 rfl
theorem dX9_answer_48 : decode cX9_answer 48 = .ok (.ifCond .ne 10, 3) := de_9a tX9_answer_48 (by decide +kernel)
def tX9_answer_51 := Bt_3 (q := 51) tX9_answer_48 rfl
theorem dX9_answer_51 : decode cX9_answer 51 = .ok (.aload_n 0, 1) := de_2a tX9_answer_51
def tX9_answer_52 := Bt_1 (q := 52) tX9_answer_51 rfl
theorem dX9_answer_52 : decode cX9_answer 52 = .ok (.bipush (-3), 2) := de_10 tX9_answer_52 (by decide +kernel)
def tX9_answer_54 := Bt_2 (q := 54) tX9_answer_52 rfl
theorem dX9_answer_54 : decode cX9_answer 54 = .ok (.invokevirtual 62, 3) := de_b6 tX9_answer_54 (by decide +kernel)
def tX9_answer_57 := Bt_3 (q := 57) tX9_answer_54 rfl
theorem dX9_answer_57 : decode cX9_answer 57 = .ok (.ireturn, 1) := de_ac tX9_answer_57
def tX9_answer_58 := Bt_1 (q := 58) tX9_answer_57 rfl
theorem dX9_answer_58 : decode cX9_answer 58 = .ok (.aload_n 0, 1) := de_2a tX9_answer_58
def tX9_answer_59 := Bt_1 (q := 59) tX9_answer_58 rfl
theorem dX9_answer_59 : decode cX9_answer 59 = .ok (.getfield 12, 3) := de_b4 tX9_answer_59 (by decide +kernel)
def tX9_answer_62 := Bt_3 (q := 62) tX9_answer_59 rfl
theorem dX9_answer_62 : decode cX9_answer 62 = .ok (.getfield 236, 3) := de_b4 tX9_answer_62 (by decide +kernel)
def tX9_answer_65 := Bt_3 (q := 65) tX9_answer_62 rfl
theorem dX9_answer_65 : decode cX9_answer 65 = .ok (.iload_n 3, 1) := de_1d tX9_answer_65
def tX9_answer_66 := Bt_1 (q := 66) tX9_answer_65 rfl
theorem dX9_answer_66 : decode cX9_answer 66 = .ok (.iconst 0, 1) := de_03 tX9_answer_66
def tX9_answer_67 := Bt_1 (q := 67) tX9_answer_66 rfl
theorem dX9_answer_67 : decode cX9_answer 67 = .ok (.iastore, 1) := de_4f tX9_answer_67
def tX9_answer_68 := Bt_1 (q := 68) tX9_answer_67 rfl
theorem dX9_answer_68 : decode cX9_answer 68 = .ok (.iconst 1, 1) := de_04 tX9_answer_68
def tX9_answer_69 := Bt_1 (q := 69) tX9_answer_68 rfl
theorem dX9_answer_69 : decode cX9_answer 69 = .ok (.ireturn, 1) := de_ac tX9_answer_69
def tX9_out_0 := Bt_0 cX9_out
theorem dX9_out_0 : decode cX9_out 0 = .ok (.aload_n 0, 1) := de_2a tX9_out_0
def tX9_out_1 := Bt_1 (q := 1) tX9_out_0 rfl
theorem dX9_out_1 : decode cX9_out 1 = .ok (.iload_n 1, 1) := de_1b tX9_out_1
def tX9_out_2 := Bt_1 (q := 2) tX9_out_1 rfl
theorem dX9_out_2 : decode cX9_out 2 = .ok (.iload_n 2, 1) := de_1c tX9_out_2
def tX9_out_3 := Bt_1 (q := 3) tX9_out_2 rfl
theorem dX9_out_3 : decode cX9_out 3 = .ok (.invokevirtual 93, 3) := de_b6 tX9_out_3 (by decide +kernel)
def tX9_out_6 := Bt_3 (q := 6) tX9_out_3 rfl
theorem dX9_out_6 : decode cX9_out 6 = .ok (.ifCond .eq 9, 3) := de_99 tX9_out_6 (by decide +kernel)
def tX9_out_9 := Bt_3 (q := 9) tX9_out_6 rfl
theorem dX9_out_9 : decode cX9_out 9 = .ok (.aload_n 0, 1) := de_2a tX9_out_9
def tX9_out_10 := Bt_1 (q := 10) tX9_out_9 rfl
theorem dX9_out_10 : decode cX9_out 10 = .ok (.iconst (-1), 1) := de_02 tX9_out_10
def tX9_out_11 := Bt_1 (q := 11) tX9_out_10 rfl
theorem dX9_out_11 : decode cX9_out 11 = .ok (.invokevirtual 62, 3) := de_b6 tX9_out_11 (by decide +kernel)
def tX9_out_14 := Bt_3 (q := 14) tX9_out_11 rfl
theorem dX9_out_14 : decode cX9_out 14 = .ok (.ireturn, 1) := de_ac tX9_out_14
def tX9_out_15 := Bt_1 (q := 15) tX9_out_14 rfl
theorem dX9_out_15 : decode cX9_out 15 = .ok (.iload_n 1, 1) := de_1b tX9_out_15
def tX9_out_16 := Bt_1 (q := 16) tX9_out_15 rfl
theorem dX9_out_16 : decode cX9_out 16 = .ok (.iload_n 2, 1) := de_1c tX9_out_16
def tX9_out_17 := Bt_1 (q := 17) tX9_out_16 rfl
theorem dX9_out_17 : decode cX9_out 17 = .ok (.invokestatic 110, 3) := de_b8 tX9_out_17 (by decide +kernel)
def tX9_out_20 := Bt_3 (q := 20) tX9_out_17 rfl
theorem dX9_out_20 : decode cX9_out 20 = .ok (.istore 4, 2) := de_36 tX9_out_20 (by decide +kernel)
def tX9_out_22 := Bt_2 (q := 22) tX9_out_20 rfl
theorem dX9_out_22 : decode cX9_out 22 = .ok (.aload_n 0, 1) := de_2a tX9_out_22
def tX9_out_23 := Bt_1 (q := 23) tX9_out_22 rfl
theorem dX9_out_23 : decode cX9_out 23 = .ok (.getfield 12, 3) := de_b4 tX9_out_23 (by decide +kernel)
def tX9_out_26 := Bt_3 (q := 26) tX9_out_23 rfl
theorem dX9_out_26 : decode cX9_out 26 = .ok (.iload 4, 2) := de_15 tX9_out_26 (by decide +kernel)
def tX9_out_28 := Bt_2 (q := 28) tX9_out_26 rfl
theorem dX9_out_28 : decode cX9_out 28 = .ok (.invokevirtual 239, 3) := de_b6 tX9_out_28 (by decide +kernel)
def tX9_out_31 := Bt_3 (q := 31) tX9_out_28 rfl
theorem dX9_out_31 : decode cX9_out 31 = .ok (.istore 5, 2) := de_36 tX9_out_31 (by decide +kernel)
def tX9_out_33 := Bt_2 (q := 33) tX9_out_31 rfl
theorem dX9_out_33 : decode cX9_out 33 = .ok (.iload_n 3, 1) := de_1d tX9_out_33
def tX9_out_34 := Bt_1 (q := 34) tX9_out_33 rfl
theorem dX9_out_34 : decode cX9_out 34 = .ok (.ifCond .eq 17, 3) := de_99 tX9_out_34 (by decide +kernel)
def tX9_out_37 := Bt_3 (q := 37) tX9_out_34 rfl
theorem dX9_out_37 : decode cX9_out 37 = .ok (.aload_n 0, 1) := de_2a tX9_out_37
def tX9_out_38 := Bt_1 (q := 38) tX9_out_37 rfl
theorem dX9_out_38 : decode cX9_out 38 = .ok (.getfield 12, 3) := de_b4 tX9_out_38 (by decide +kernel)
def tX9_out_41 := Bt_3 (q := 41) tX9_out_38 rfl
theorem dX9_out_41 : decode cX9_out 41 = .ok (.getfield 242, 3) := de_b4 tX9_out_41 (by decide +kernel)
def tX9_out_44 := Bt_3 (q := 44) tX9_out_41 rfl
theorem dX9_out_44 : decode cX9_out 44 = .ok (.iload 4, 2) := de_15 tX9_out_44 (by decide +kernel)
def tX9_out_46 := Bt_2 (q := 46) tX9_out_44 rfl
theorem dX9_out_46 : decode cX9_out 46 = .ok (.iconst 1, 1) := de_04 tX9_out_46
def tX9_out_47 := Bt_1 (q := 47) tX9_out_46 rfl
theorem dX9_out_47 : decode cX9_out 47 = .ok (.bastore, 1) := de_54 tX9_out_47
def tX9_out_48 := Bt_1 (q := 48) tX9_out_47 rfl
theorem dX9_out_48 : decode cX9_out 48 = .ok (.goto 12, 3) := de_a7 tX9_out_48 (by decide +kernel)
def tX9_out_51 := Bt_3 (q := 51) tX9_out_48 rfl
theorem dX9_out_51 : decode cX9_out 51 = .ok (.aload_n 0, 1) := de_2a tX9_out_51
def tX9_out_52 := Bt_1 (q := 52) tX9_out_51 rfl
theorem dX9_out_52 : decode cX9_out 52 = .ok (.getfield 12, 3) := de_b4 tX9_out_52 (by decide +kernel)
def tX9_out_55 := Bt_3 (q := 55) tX9_out_52 rfl
theorem dX9_out_55 : decode cX9_out 55 = .ok (.iload 4, 2) := de_15 tX9_out_55 (by decide +kernel)
def tX9_out_57 := Bt_2 (q := 57) tX9_out_55 rfl
theorem dX9_out_57 : decode cX9_out 57 = .ok (.invokevirtual 245, 3) := de_b6 tX9_out_57 (by decide +kernel)
def tX9_out_60 := Bt_3 (q := 60) tX9_out_57 rfl
theorem dX9_out_60 : decode cX9_out 60 = .ok (.iload 5, 2) := de_15 tX9_out_60 (by decide +kernel)
def tX9_out_62 := Bt_2 (q := 62) tX9_out_60 rfl
theorem dX9_out_62 : decode cX9_out 62 = .ok (.iload_n 3, 1) := de_1d tX9_out_62
def tX9_out_63 := Bt_1 (q := 63) tX9_out_62 rfl
theorem dX9_out_63 : decode cX9_out 63 = .ok (.if_icmp .ne 7, 3) := de_a0 tX9_out_63 (by decide +kernel)
def tX9_out_66 := Bt_3 (q := 66) tX9_out_63 rfl
theorem dX9_out_66 : decode cX9_out 66 = .ok (.iconst 0, 1) := de_03 tX9_out_66
def tX9_out_67 := Bt_1 (q := 67) tX9_out_66 rfl
theorem dX9_out_67 : decode cX9_out 67 = .ok (.goto 4, 3) := de_a7 tX9_out_67 (by decide +kernel)
def tX9_out_70 := Bt_3 (q := 70) tX9_out_67 rfl
theorem dX9_out_70 : decode cX9_out 70 = .ok (.iconst 1, 1) := de_04 tX9_out_70
def tX9_out_71 := Bt_1 (q := 71) tX9_out_70 rfl
theorem dX9_out_71 : decode cX9_out 71 = .ok (.ireturn, 1) := de_ac tX9_out_71
def tX9_most_0 := Bt_0 cX9_most
theorem dX9_most_0 : decode cX9_most 0 = .ok (.iload_n 1, 1) := de_1b tX9_most_0
def tX9_most_1 := Bt_1 (q := 1) tX9_most_0 rfl
theorem dX9_most_1 : decode cX9_most 1 = .ok (.invokestatic 144, 3) := de_b8 tX9_most_1 (by decide +kernel)
def tX9_most_4 := Bt_3 (q := 4) tX9_most_1 rfl
theorem dX9_most_4 : decode cX9_most 4 = .ok (.ifCond .eq 9, 3) := de_99 tX9_most_4 (by decide +kernel)
def tX9_most_7 := Bt_3 (q := 7) tX9_most_4 rfl
theorem dX9_most_7 : decode cX9_most 7 = .ok (.aload_n 0, 1) := de_2a tX9_most_7
def tX9_most_8 := Bt_1 (q := 8) tX9_most_7 rfl
theorem dX9_most_8 : decode cX9_most 8 = .ok (.iconst (-1), 1) := de_02 tX9_most_8
def tX9_most_9 := Bt_1 (q := 9) tX9_most_8 rfl
theorem dX9_most_9 : decode cX9_most 9 = .ok (.invokevirtual 62, 3) := de_b6 tX9_most_9 (by decide +kernel)
def tX9_most_12 := Bt_3 (q := 12) tX9_most_9 rfl
theorem dX9_most_12 : decode cX9_most 12 = .ok (.ireturn, 1) := de_ac tX9_most_12
def tX9_most_13 := Bt_1 (q := 13) tX9_most_12 rfl
theorem dX9_most_13 : decode cX9_most 13 = .ok (.iload_n 2, 1) := de_1c tX9_most_13
def tX9_most_14 := Bt_1 (q := 14) tX9_most_13 rfl
theorem dX9_most_14 : decode cX9_most 14 = .ok (.iconst 0, 1) := de_03 tX9_most_14
def tX9_most_15 := Bt_1 (q := 15) tX9_most_14 rfl
theorem dX9_most_15 : decode cX9_most 15 = .ok (.bipush 6, 2) := de_10 tX9_most_15 (by decide +kernel)
def tX9_most_17 := Bt_2 (q := 17) tX9_most_15 rfl
theorem dX9_most_17 : decode cX9_most 17 = .ok (.invokestatic 76, 3) := de_b8 tX9_most_17 (by decide +kernel)
def tX9_most_20 := Bt_3 (q := 20) tX9_most_17 rfl
theorem dX9_most_20 : decode cX9_most 20 = .ok (.istore_n 3, 1) := de_3e tX9_most_20
def tX9_most_21 := Bt_1 (q := 21) tX9_most_20 rfl
theorem dX9_most_21 : decode cX9_most 21 = .ok (.iload_n 3, 1) := de_1d tX9_most_21
def tX9_most_22 := Bt_1 (q := 22) tX9_most_21 rfl
theorem dX9_most_22 : decode cX9_most 22 = .ok (.ifCond .eq 9, 3) := de_99 tX9_most_22 (by decide +kernel)
def tX9_most_25 := Bt_3 (q := 25) tX9_most_22 rfl
theorem dX9_most_25 : decode cX9_most 25 = .ok (.aload_n 0, 1) := de_2a tX9_most_25
def tX9_most_26 := Bt_1 (q := 26) tX9_most_25 rfl
theorem dX9_most_26 : decode cX9_most 26 = .ok (.iload_n 3, 1) := de_1d tX9_most_26
def tX9_most_27 := Bt_1 (q := 27) tX9_most_26 rfl
theorem dX9_most_27 : decode cX9_most 27 = .ok (.invokevirtual 62, 3) := de_b6 tX9_most_27 (by decide +kernel)
def tX9_most_30 := Bt_3 (q := 30) tX9_most_27 rfl
theorem dX9_most_30 : decode cX9_most 30 = .ok (.ireturn, 1) := de_ac tX9_most_30
def tX9_most_31 := Bt_1 (q := 31) tX9_most_30 rfl
theorem dX9_most_31 : decode cX9_most 31 = .ok (.aload_n 0, 1) := de_2a tX9_most_31
def tX9_most_32 := Bt_1 (q := 32) tX9_most_31 rfl
theorem dX9_most_32 : decode cX9_most 32 = .ok (.getfield 40, 3) := de_b4 tX9_most_32 (by decide +kernel)
def tX9_most_35 := Bt_3 (q := 35) tX9_most_32 rfl
theorem dX9_most_35 : decode cX9_most 35 = .ok (.getfield 248, 3) := de_b4 tX9_most_35 (by decide +kernel)
def tX9_most_38 := Bt_3 (q := 38) tX9_most_35 rfl
theorem dX9_most_38 : decode cX9_most 38 = .ok (.iload_n 1, 1) := de_1b tX9_most_38
def tX9_most_39 := Bt_1 (q := 39) tX9_most_38 rfl
theorem dX9_most_39 : decode cX9_most 39 = .ok (.iaload, 1) := de_2e tX9_most_39
def tX9_most_40 := Bt_1 (q := 40) tX9_most_39 rfl
theorem dX9_most_40 : decode cX9_most 40 = .ok (.istore 4, 2) := de_36 tX9_most_40 (by decide +kernel)
def tX9_most_42 := Bt_2 (q := 42) tX9_most_40 rfl
theorem dX9_most_42 : decode cX9_most 42 = .ok (.aload_n 0, 1) := de_2a tX9_most_42
def tX9_most_43 := Bt_1 (q := 43) tX9_most_42 rfl
theorem dX9_most_43 : decode cX9_most 43 = .ok (.getfield 40, 3) := de_b4 tX9_most_43 (by decide +kernel)
def tX9_most_46 := Bt_3 (q := 46) tX9_most_43 rfl
theorem dX9_most_46 : decode cX9_most 46 = .ok (.getfield 248, 3) := de_b4 tX9_most_46 (by decide +kernel)
def tX9_most_49 := Bt_3 (q := 49) tX9_most_46 rfl
theorem dX9_most_49 : decode cX9_most 49 = .ok (.iload_n 1, 1) := de_1b tX9_most_49
def tX9_most_50 := Bt_1 (q := 50) tX9_most_49 rfl
theorem dX9_most_50 : decode cX9_most 50 = .ok (.iload_n 2, 1) := de_1c tX9_most_50
def tX9_most_51 := Bt_1 (q := 51) tX9_most_50 rfl
theorem dX9_most_51 : decode cX9_most 51 = .ok (.iastore, 1) := de_4f tX9_most_51
def tX9_most_52 := Bt_1 (q := 52) tX9_most_51 rfl
theorem dX9_most_52 : decode cX9_most 52 = .ok (.iload 4, 2) := de_15 tX9_most_52 (by decide +kernel)
def tX9_most_54 := Bt_2 (q := 54) tX9_most_52 rfl
theorem dX9_most_54 : decode cX9_most 54 = .ok (.ireturn, 1) := de_ac tX9_most_54
def tX9_rebate_0 := Bt_0 cX9_rebate
theorem dX9_rebate_0 : decode cX9_rebate 0 = .ok (.iload_n 1, 1) := de_1b tX9_rebate_0
def tX9_rebate_1 := Bt_1 (q := 1) tX9_rebate_0 rfl
theorem dX9_rebate_1 : decode cX9_rebate 1 = .ok (.invokestatic 144, 3) := de_b8 tX9_rebate_1 (by decide +kernel)
def tX9_rebate_4 := Bt_3 (q := 4) tX9_rebate_1 rfl
theorem dX9_rebate_4 : decode cX9_rebate 4 = .ok (.ifCond .eq 9, 3) := de_99 tX9_rebate_4 (by decide +kernel)
def tX9_rebate_7 := Bt_3 (q := 7) tX9_rebate_4 rfl
theorem dX9_rebate_7 : decode cX9_rebate 7 = .ok (.aload_n 0, 1) := de_2a tX9_rebate_7
def tX9_rebate_8 := Bt_1 (q := 8) tX9_rebate_7 rfl
theorem dX9_rebate_8 : decode cX9_rebate 8 = .ok (.iconst (-1), 1) := de_02 tX9_rebate_8
def tX9_rebate_9 := Bt_1 (q := 9) tX9_rebate_8 rfl
theorem dX9_rebate_9 : decode cX9_rebate 9 = .ok (.invokevirtual 62, 3) := de_b6 tX9_rebate_9 (by decide +kernel)
def tX9_rebate_12 := Bt_3 (q := 12) tX9_rebate_9 rfl
theorem dX9_rebate_12 : decode cX9_rebate 12 = .ok (.ireturn, 1) := de_ac tX9_rebate_12
def tX9_rebate_13 := Bt_1 (q := 13) tX9_rebate_12 rfl
theorem dX9_rebate_13 : decode cX9_rebate 13 = .ok (.iload_n 2, 1) := de_1c tX9_rebate_13
def tX9_rebate_14 := Bt_1 (q := 14) tX9_rebate_13 rfl
theorem dX9_rebate_14 : decode cX9_rebate 14 = .ok (.iconst 1, 1) := de_04 tX9_rebate_14
def tX9_rebate_15 := Bt_1 (q := 15) tX9_rebate_14 rfl
theorem dX9_rebate_15 : decode cX9_rebate 15 = .ok (.if_icmp .lt 7, 3) := de_a1 tX9_rebate_15 (by decide +kernel)
def tX9_rebate_18 := Bt_3 (q := 18) tX9_rebate_15 rfl
theorem dX9_rebate_18 : decode cX9_rebate 18 = .ok (.iload_n 3, 1) := de_1d tX9_rebate_18
def tX9_rebate_19 := Bt_1 (q := 19) tX9_rebate_18 rfl
theorem dX9_rebate_19 : decode cX9_rebate 19 = .ok (.ifCond .ge 10, 3) := de_9c tX9_rebate_19 (by decide +kernel)
def tX9_rebate_22 := Bt_3 (q := 22) tX9_rebate_19 rfl
theorem dX9_rebate_22 : decode cX9_rebate 22 = .ok (.aload_n 0, 1) := de_2a tX9_rebate_22
def tX9_rebate_23 := Bt_1 (q := 23) tX9_rebate_22 rfl
theorem dX9_rebate_23 : decode cX9_rebate 23 = .ok (.bipush (-4), 2) := de_10 tX9_rebate_23 (by decide +kernel)
def tX9_rebate_25 := Bt_2 (q := 25) tX9_rebate_23 rfl
theorem dX9_rebate_25 : decode cX9_rebate 25 = .ok (.invokevirtual 62, 3) := de_b6 tX9_rebate_25 (by decide +kernel)
def tX9_rebate_28 := Bt_3 (q := 28) tX9_rebate_25 rfl
theorem dX9_rebate_28 : decode cX9_rebate 28 = .ok (.ireturn, 1) := de_ac tX9_rebate_28
def tX9_rebate_29 := Bt_1 (q := 29) tX9_rebate_28 rfl
theorem dX9_rebate_29 : decode cX9_rebate 29 = .ok (.iload_n 2, 1) := de_1c tX9_rebate_29
def tX9_rebate_30 := Bt_1 (q := 30) tX9_rebate_29 rfl
theorem dX9_rebate_30 : decode cX9_rebate 30 = .ok (.bipush 6, 2) := de_10 tX9_rebate_30 (by decide +kernel)
def tX9_rebate_32 := Bt_2 (q := 32) tX9_rebate_30 rfl
theorem dX9_rebate_32 : decode cX9_rebate 32 = .ok (.if_icmp .gt 9, 3) := de_a3 tX9_rebate_32 (by decide +kernel)
def tX9_rebate_35 := Bt_3 (q := 35) tX9_rebate_32 rfl
theorem dX9_rebate_35 : decode cX9_rebate 35 = .ok (.iload_n 3, 1) := de_1d tX9_rebate_35
def tX9_rebate_36 := Bt_1 (q := 36) tX9_rebate_35 rfl
theorem dX9_rebate_36 : decode cX9_rebate 36 = .ok (.bipush 50, 2) := de_10 tX9_rebate_36 (by decide +kernel)
def tX9_rebate_38 := Bt_2 (q := 38) tX9_rebate_36 rfl
theorem dX9_rebate_38 : decode cX9_rebate 38 = .ok (.if_icmp .le 10, 3) := de_a4 tX9_rebate_38 (by decide +kernel)
def tX9_rebate_41 := Bt_3 (q := 41) tX9_rebate_38 rfl
theorem dX9_rebate_41 : decode cX9_rebate 41 = .ok (.aload_n 0, 1) := de_2a tX9_rebate_41
def tX9_rebate_42 := Bt_1 (q := 42) tX9_rebate_41 rfl
theorem dX9_rebate_42 : decode cX9_rebate 42 = .ok (.bipush (-6), 2) := de_10 tX9_rebate_42 (by decide +kernel)
def tX9_rebate_44 := Bt_2 (q := 44) tX9_rebate_42 rfl
theorem dX9_rebate_44 : decode cX9_rebate 44 = .ok (.invokevirtual 62, 3) := de_b6 tX9_rebate_44 (by decide +kernel)
def tX9_rebate_47 := Bt_3 (q := 47) tX9_rebate_44 rfl
theorem dX9_rebate_47 : decode cX9_rebate 47 = .ok (.ireturn, 1) := de_ac tX9_rebate_47
def tX9_rebate_48 := Bt_1 (q := 48) tX9_rebate_47 rfl
theorem dX9_rebate_48 : decode cX9_rebate 48 = .ok (.aload_n 0, 1) := de_2a tX9_rebate_48
def tX9_rebate_49 := Bt_1 (q := 49) tX9_rebate_48 rfl
theorem dX9_rebate_49 : decode cX9_rebate 49 = .ok (.getfield 40, 3) := de_b4 tX9_rebate_49 (by decide +kernel)
def tX9_rebate_52 := Bt_3 (q := 52) tX9_rebate_49 rfl
theorem dX9_rebate_52 : decode cX9_rebate 52 = .ok (.iload_n 1, 1) := de_1b tX9_rebate_52
def tX9_rebate_53 := Bt_1 (q := 53) tX9_rebate_52 rfl
theorem dX9_rebate_53 : decode cX9_rebate 53 = .ok (.iload_n 2, 1) := de_1c tX9_rebate_53
def tX9_rebate_54 := Bt_1 (q := 54) tX9_rebate_53 rfl
theorem dX9_rebate_54 : decode cX9_rebate 54 = .ok (.iload_n 3, 1) := de_1d tX9_rebate_54
def tX9_rebate_55 := Bt_1 (q := 55) tX9_rebate_54 rfl
theorem dX9_rebate_55 : decode cX9_rebate 55 = .ok (.invokevirtual 251, 3) := de_b6 tX9_rebate_55 (by decide +kernel)
def tX9_rebate_58 := Bt_3 (q := 58) tX9_rebate_55 rfl
theorem dX9_rebate_58 : decode cX9_rebate 58 = .ok (.ireturn, 1) := de_ac tX9_rebate_58
def tX9_whole_0 := Bt_0 cX9_whole
theorem dX9_whole_0 : decode cX9_whole 0 = .ok (.iload_n 1, 1) := de_1b tX9_whole_0
def tX9_whole_1 := Bt_1 (q := 1) tX9_whole_0 rfl
theorem dX9_whole_1 : decode cX9_whole 1 = .ok (.ifCond .lt 8, 3) := de_9b tX9_whole_1 (by decide +kernel)
def tX9_whole_4 := Bt_3 (q := 4) tX9_whole_1 rfl
theorem dX9_whole_4 : decode cX9_whole 4 = .ok (.iload_n 1, 1) := de_1b tX9_whole_4
def tX9_whole_5 := Bt_1 (q := 5) tX9_whole_4 rfl
theorem dX9_whole_5 : decode cX9_whole 5 = .ok (.iconst 1, 1) := de_04 tX9_whole_5
def tX9_whole_6 := Bt_1 (q := 6) tX9_whole_5 rfl
theorem dX9_whole_6 : decode cX9_whole 6 = .ok (.if_icmp .le 10, 3) := de_a4 tX9_whole_6 (by decide +kernel)
def tX9_whole_9 := Bt_3 (q := 9) tX9_whole_6 rfl
theorem dX9_whole_9 : decode cX9_whole 9 = .ok (.aload_n 0, 1) := de_2a tX9_whole_9
def tX9_whole_10 := Bt_1 (q := 10) tX9_whole_9 rfl
theorem dX9_whole_10 : decode cX9_whole 10 = .ok (.bipush (-2), 2) := de_10 tX9_whole_10 (by decide +kernel)
def tX9_whole_12 := Bt_2 (q := 12) tX9_whole_10 rfl
theorem dX9_whole_12 : decode cX9_whole 12 = .ok (.invokevirtual 62, 3) := de_b6 tX9_whole_12 (by decide +kernel)
def tX9_whole_15 := Bt_3 (q := 15) tX9_whole_12 rfl
theorem dX9_whole_15 : decode cX9_whole 15 = .ok (.ireturn, 1) := de_ac tX9_whole_15
def tX9_whole_16 := Bt_1 (q := 16) tX9_whole_15 rfl
theorem dX9_whole_16 : decode cX9_whole 16 = .ok (.aload_n 0, 1) := de_2a tX9_whole_16
def tX9_whole_17 := Bt_1 (q := 17) tX9_whole_16 rfl
theorem dX9_whole_17 : decode cX9_whole 17 = .ok (.getfield 12, 3) := de_b4 tX9_whole_17 (by decide +kernel)
def tX9_whole_20 := Bt_3 (q := 20) tX9_whole_17 rfl
theorem dX9_whole_20 : decode cX9_whole 20 = .ok (.invokevirtual 71, 3) := de_b6 tX9_whole_20 (by decide +kernel)
def tX9_whole_23 := Bt_3 (q := 23) tX9_whole_20 rfl
theorem dX9_whole_23 : decode cX9_whole 23 = .ok (.ifCond .eq 10, 3) := de_99 tX9_whole_23 (by decide +kernel)
def tX9_whole_26 := Bt_3 (q := 26) tX9_whole_23 rfl
theorem dX9_whole_26 : decode cX9_whole 26 = .ok (.aload_n 0, 1) := de_2a tX9_whole_26
def tX9_whole_27 := Bt_1 (q := 27) tX9_whole_26 rfl
theorem dX9_whole_27 : decode cX9_whole 27 = .ok (.bipush (-3), 2) := de_10 tX9_whole_27 (by decide +kernel)
def tX9_whole_29 := Bt_2 (q := 29) tX9_whole_27 rfl
theorem dX9_whole_29 : decode cX9_whole 29 = .ok (.invokevirtual 62, 3) := de_b6 tX9_whole_29 (by decide +kernel)
def tX9_whole_32 := Bt_3 (q := 32) tX9_whole_29 rfl
theorem dX9_whole_32 : decode cX9_whole 32 = .ok (.ireturn, 1) := de_ac tX9_whole_32
def tX9_whole_33 := Bt_1 (q := 33) tX9_whole_32 rfl
theorem dX9_whole_33 : decode cX9_whole 33 = .ok (.aload_n 0, 1) := de_2a tX9_whole_33
def tX9_whole_34 := Bt_1 (q := 34) tX9_whole_33 rfl
theorem dX9_whole_34 : decode cX9_whole 34 = .ok (.invokevirtual 254, 3) := de_b6 tX9_whole_34 (by decide +kernel)
def tX9_whole_37 := Bt_3 (q := 37) tX9_whole_34 rfl
theorem dX9_whole_37 : decode cX9_whole 37 = .ok (.iload_n 1, 1) := de_1b tX9_whole_37
def tX9_whole_38 := Bt_1 (q := 38) tX9_whole_37 rfl
theorem dX9_whole_38 : decode cX9_whole 38 = .ok (.ifCond .ne 13, 3) := de_9a tX9_whole_38 (by decide +kernel)
def tX9_whole_41 := Bt_3 (q := 41) tX9_whole_38 rfl
theorem dX9_whole_41 : decode cX9_whole 41 = .ok (.aload_n 0, 1) := de_2a tX9_whole_41
def tX9_whole_42 := Bt_1 (q := 42) tX9_whole_41 rfl
theorem dX9_whole_42 : decode cX9_whole 42 = .ok (.getfield 40, 3) := de_b4 tX9_whole_42 (by decide +kernel)
def tX9_whole_45 := Bt_3 (q := 45) tX9_whole_42 rfl
theorem dX9_whole_45 : decode cX9_whole 45 = .ok (.getfield 257, 3) := de_b4 tX9_whole_45 (by decide +kernel)
def tX9_whole_48 := Bt_3 (q := 48) tX9_whole_45 rfl
theorem dX9_whole_48 : decode cX9_whole 48 = .ok (.goto 10, 3) := de_a7 tX9_whole_48 (by decide +kernel)
def tX9_whole_51 := Bt_3 (q := 51) tX9_whole_48 rfl
theorem dX9_whole_51 : decode cX9_whole 51 = .ok (.aload_n 0, 1) := de_2a tX9_whole_51
def tX9_whole_52 := Bt_1 (q := 52) tX9_whole_51 rfl
theorem dX9_whole_52 : decode cX9_whole 52 = .ok (.getfield 40, 3) := de_b4 tX9_whole_52 (by decide +kernel)
def tX9_whole_55 := Bt_3 (q := 55) tX9_whole_52 rfl
theorem dX9_whole_55 : decode cX9_whole 55 = .ok (.getfield 260, 3) := de_b4 tX9_whole_55 (by decide +kernel)
def tX9_whole_58 := Bt_3 (q := 58) tX9_whole_55 rfl
theorem dX9_whole_58 : decode cX9_whole 58 = .ok (.ireturn, 1) := de_ac tX9_whole_58
def tX9_winner_0 := Bt_0 cX9_winner
theorem dX9_winner_0 : decode cX9_winner 0 = .ok (.aload_n 0, 1) := de_2a tX9_winner_0
def tX9_winner_1 := Bt_1 (q := 1) tX9_winner_0 rfl
theorem dX9_winner_1 : decode cX9_winner 1 = .ok (.iload_n 1, 1) := de_1b tX9_winner_1
def tX9_winner_2 := Bt_1 (q := 2) tX9_winner_1 rfl
theorem dX9_winner_2 : decode cX9_winner 2 = .ok (.invokevirtual 193, 3) := de_b6 tX9_winner_2 (by decide +kernel)
def tX9_winner_5 := Bt_3 (q := 5) tX9_winner_2 rfl
theorem dX9_winner_5 : decode cX9_winner 5 = .ok (.ifCond .eq 9, 3) := de_99 tX9_winner_5 (by decide +kernel)
def tX9_winner_8 := Bt_3 (q := 8) tX9_winner_5 rfl
theorem dX9_winner_8 : decode cX9_winner 8 = .ok (.aload_n 0, 1) := de_2a tX9_winner_8
def tX9_winner_9 := Bt_1 (q := 9) tX9_winner_8 rfl
theorem dX9_winner_9 : decode cX9_winner 9 = .ok (.iconst (-1), 1) := de_02 tX9_winner_9
def tX9_winner_10 := Bt_1 (q := 10) tX9_winner_9 rfl
theorem dX9_winner_10 : decode cX9_winner 10 = .ok (.invokevirtual 62, 3) := de_b6 tX9_winner_10 (by decide +kernel)
def tX9_winner_13 := Bt_3 (q := 13) tX9_winner_10 rfl
theorem dX9_winner_13 : decode cX9_winner 13 = .ok (.ireturn, 1) := de_ac tX9_winner_13
def tX9_winner_14 := Bt_1 (q := 14) tX9_winner_13 rfl
theorem dX9_winner_14 : decode cX9_winner 14 = .ok (.aload_n 0, 1) := de_2a tX9_winner_14
def tX9_winner_15 := Bt_1 (q := 15) tX9_winner_14 rfl
theorem dX9_winner_15 : decode cX9_winner 15 = .ok (.getfield 12, 3) := de_b4 tX9_winner_15 (by decide +kernel)
def tX9_winner_18 := Bt_3 (q := 18) tX9_winner_15 rfl
theorem dX9_winner_18 : decode cX9_winner 18 = .ok (.invokevirtual 71, 3) := de_b6 tX9_winner_18 (by decide +kernel)
def tX9_winner_21 := Bt_3 (q := 21) tX9_winner_18 rfl
theorem dX9_winner_21 : decode cX9_winner 21 = .ok (.ifCond .eq 10, 3) := de_99 tX9_winner_21 (by decide +kernel)
def tX9_winner_24 := Bt_3 (q := 24) tX9_winner_21 rfl
theorem dX9_winner_24 : decode cX9_winner 24 = .ok (.aload_n 0, 1) := de_2a tX9_winner_24
def tX9_winner_25 := Bt_1 (q := 25) tX9_winner_24 rfl
theorem dX9_winner_25 : decode cX9_winner 25 = .ok (.bipush (-3), 2) := de_10 tX9_winner_25 (by decide +kernel)
def tX9_winner_27 := Bt_2 (q := 27) tX9_winner_25 rfl
theorem dX9_winner_27 : decode cX9_winner 27 = .ok (.invokevirtual 62, 3) := de_b6 tX9_winner_27 (by decide +kernel)
def tX9_winner_30 := Bt_3 (q := 30) tX9_winner_27 rfl
theorem dX9_winner_30 : decode cX9_winner 30 = .ok (.ireturn, 1) := de_ac tX9_winner_30
def tX9_winner_31 := Bt_1 (q := 31) tX9_winner_30 rfl
theorem dX9_winner_31 : decode cX9_winner 31 = .ok (.aload_n 0, 1) := de_2a tX9_winner_31
def tX9_winner_32 := Bt_1 (q := 32) tX9_winner_31 rfl
theorem dX9_winner_32 : decode cX9_winner 32 = .ok (.invokevirtual 254, 3) := de_b6 tX9_winner_32 (by decide +kernel)
def tX9_winner_35 := Bt_3 (q := 35) tX9_winner_32 rfl
theorem dX9_winner_35 : decode cX9_winner 35 = .ok (.aload_n 0, 1) := de_2a tX9_winner_35
def tX9_winner_36 := Bt_1 (q := 36) tX9_winner_35 rfl
theorem dX9_winner_36 : decode cX9_winner 36 = .ok (.getfield 40, 3) := de_b4 tX9_winner_36 (by decide +kernel)
def tX9_winner_39 := Bt_3 (q := 39) tX9_winner_36 rfl
theorem dX9_winner_39 : decode cX9_winner 39 = .ok (.getfield 263, 3) := de_b4 tX9_winner_39 (by decide +kernel)
def tX9_winner_42 := Bt_3 (q := 42) tX9_winner_39 rfl
theorem dX9_winner_42 : decode cX9_winner 42 = .ok (.iload_n 1, 1) := de_1b tX9_winner_42
def tX9_winner_43 := Bt_1 (q := 43) tX9_winner_42 rfl
theorem dX9_winner_43 : decode cX9_winner 43 = .ok (.iaload, 1) := de_2e tX9_winner_43
def tX9_winner_44 := Bt_1 (q := 44) tX9_winner_43 rfl
theorem dX9_winner_44 : decode cX9_winner 44 = .ok (.ireturn, 1) := de_ac tX9_winner_44
def tX9_award_0 := Bt_0 cX9_award
theorem dX9_award_0 : decode cX9_award 0 = .ok (.iload_n 1, 1) := de_1b tX9_award_0
def tX9_award_1 := Bt_1 (q := 1) tX9_award_0 rfl
theorem dX9_award_1 : decode cX9_award 1 = .ok (.ifCond .lt 8, 3) := de_9b tX9_award_1 (by decide +kernel)
def tX9_award_4 := Bt_3 (q := 4) tX9_award_1 rfl
theorem dX9_award_4 : decode cX9_award 4 = .ok (.iload_n 1, 1) := de_1b tX9_award_4
def tX9_award_5 := Bt_1 (q := 5) tX9_award_4 rfl
theorem dX9_award_5 : decode cX9_award 5 = .ok (.iconst 1, 1) := de_04 tX9_award_5
def tX9_award_6 := Bt_1 (q := 6) tX9_award_5 rfl
theorem dX9_award_6 : decode cX9_award 6 = .ok (.if_icmp .le 10, 3) := de_a4 tX9_award_6 (by decide +kernel)
def tX9_award_9 := Bt_3 (q := 9) tX9_award_6 rfl
theorem dX9_award_9 : decode cX9_award 9 = .ok (.aload_n 0, 1) := de_2a tX9_award_9
def tX9_award_10 := Bt_1 (q := 10) tX9_award_9 rfl
theorem dX9_award_10 : decode cX9_award 10 = .ok (.bipush (-2), 2) := de_10 tX9_award_10 (by decide +kernel)
def tX9_award_12 := Bt_2 (q := 12) tX9_award_10 rfl
theorem dX9_award_12 : decode cX9_award 12 = .ok (.invokevirtual 62, 3) := de_b6 tX9_award_12 (by decide +kernel)
def tX9_award_15 := Bt_3 (q := 15) tX9_award_12 rfl
theorem dX9_award_15 : decode cX9_award 15 = .ok (.ireturn, 1) := de_ac tX9_award_15
def tX9_award_16 := Bt_1 (q := 16) tX9_award_15 rfl
theorem dX9_award_16 : decode cX9_award 16 = .ok (.aload_n 0, 1) := de_2a tX9_award_16
def tX9_award_17 := Bt_1 (q := 17) tX9_award_16 rfl
theorem dX9_award_17 : decode cX9_award 17 = .ok (.getfield 12, 3) := de_b4 tX9_award_17 (by decide +kernel)
def tX9_award_20 := Bt_3 (q := 20) tX9_award_17 rfl
theorem dX9_award_20 : decode cX9_award 20 = .ok (.invokevirtual 71, 3) := de_b6 tX9_award_20 (by decide +kernel)
def tX9_award_23 := Bt_3 (q := 23) tX9_award_20 rfl
theorem dX9_award_23 : decode cX9_award 23 = .ok (.ifCond .ne 13, 3) := de_9a tX9_award_23 (by decide +kernel)
def tX9_award_26 := Bt_3 (q := 26) tX9_award_23 rfl
theorem dX9_award_26 : decode cX9_award 26 = .ok (.aload_n 0, 1) := de_2a tX9_award_26
def tX9_award_27 := Bt_1 (q := 27) tX9_award_26 rfl
theorem dX9_award_27 : decode cX9_award 27 = .ok (.getfield 47, 3) := de_b4 tX9_award_27 (by decide +kernel)
def tX9_award_30 := Bt_3 (q := 30) tX9_award_27 rfl
theorem dX9_award_30 : decode cX9_award 30 = .ok (.getfield 266, 3) := de_b4 tX9_award_30 (by decide +kernel)
def tX9_award_33 := Bt_3 (q := 33) tX9_award_30 rfl
theorem dX9_award_33 : decode cX9_award 33 = .ok (.ifCond .eq 10, 3) := de_99 tX9_award_33 (by decide +kernel)
def tX9_award_36 := Bt_3 (q := 36) tX9_award_33 rfl
theorem dX9_award_36 : decode cX9_award 36 = .ok (.aload_n 0, 1) := de_2a tX9_award_36
def tX9_award_37 := Bt_1 (q := 37) tX9_award_36 rfl
theorem dX9_award_37 : decode cX9_award 37 = .ok (.bipush (-3), 2) := de_10 tX9_award_37 (by decide +kernel)
def tX9_award_39 := Bt_2 (q := 39) tX9_award_37 rfl
theorem dX9_award_39 : decode cX9_award 39 = .ok (.invokevirtual 62, 3) := de_b6 tX9_award_39 (by decide +kernel)
def tX9_award_42 := Bt_3 (q := 42) tX9_award_39 rfl
theorem dX9_award_42 : decode cX9_award 42 = .ok (.ireturn, 1) := de_ac tX9_award_42
def tX9_award_43 := Bt_1 (q := 43) tX9_award_42 rfl
theorem dX9_award_43 : decode cX9_award 43 = .ok (.aload_n 0, 1) := de_2a tX9_award_43
def tX9_award_44 := Bt_1 (q := 44) tX9_award_43 rfl
theorem dX9_award_44 : decode cX9_award 44 = .ok (.invokevirtual 254, 3) := de_b6 tX9_award_44 (by decide +kernel)
def tX9_award_47 := Bt_3 (q := 47) tX9_award_44 rfl
theorem dX9_award_47 : decode cX9_award 47 = .ok (.aload_n 0, 1) := de_2a tX9_award_47
def tX9_award_48 := Bt_1 (q := 48) tX9_award_47 rfl
theorem dX9_award_48 : decode cX9_award 48 = .ok (.getfield 47, 3) := de_b4 tX9_award_48 (by decide +kernel)
def tX9_award_51 := Bt_3 (q := 51) tX9_award_48 rfl
theorem dX9_award_51 : decode cX9_award 51 = .ok (.aload_n 0, 1) := de_2a tX9_award_51
def tX9_award_52 := Bt_1 (q := 52) tX9_award_51 rfl
theorem dX9_award_52 : decode cX9_award 52 = .ok (.getfield 12, 3) := de_b4 tX9_award_52 (by decide +kernel)
def tX9_award_55 := Bt_3 (q := 55) tX9_award_52 rfl
theorem dX9_award_55 : decode cX9_award 55 = .ok (.getfield 67, 3) := de_b4 tX9_award_55 (by decide +kernel)
def tX9_award_58 := Bt_3 (q := 58) tX9_award_55 rfl
theorem dX9_award_58 : decode cX9_award 58 = .ok (.iload_n 1, 1) := de_1b tX9_award_58
def tX9_award_59 := Bt_1 (q := 59) tX9_award_58 rfl
theorem dX9_award_59 : decode cX9_award 59 = .ok (.ifCond .ne 8, 3) := de_9a tX9_award_59 (by decide +kernel)
def tX9_award_62 := Bt_3 (q := 62) tX9_award_59 rfl
theorem dX9_award_62 : decode cX9_award 62 = .ok (.bipush 10, 2) := de_10 tX9_award_62 (by decide +kernel)
def tX9_award_64 := Bt_2 (q := 64) tX9_award_62 rfl
theorem dX9_award_64 : decode cX9_award 64 = .ok (.goto 5, 3) := de_a7 tX9_award_64 (by decide +kernel)
def tX9_award_67 := Bt_3 (q := 67) tX9_award_64 rfl
theorem dX9_award_67 : decode cX9_award 67 = .ok (.bipush 13, 2) := de_10 tX9_award_67 (by decide +kernel)
def tX9_award_69 := Bt_2 (q := 69) tX9_award_67 rfl
theorem dX9_award_69 : decode cX9_award 69 = .ok (.sipush 1440, 3) := de_11 tX9_award_69 (by decide +kernel)
def tX9_award_72 := Bt_3 (q := 72) tX9_award_69 rfl
theorem dX9_award_72 : decode cX9_award 72 = .ok (.imul, 1) := de_68 tX9_award_72
def tX9_award_73 := Bt_1 (q := 73) tX9_award_72 rfl
theorem dX9_award_73 : decode cX9_award 73 = .ok (.iadd, 1) := de_60 tX9_award_73
def tX9_award_74 := Bt_1 (q := 74) tX9_award_73 rfl
theorem dX9_award_74 : decode cX9_award 74 = .ok (.invokevirtual 270, 3) := de_b6 tX9_award_74 (by decide +kernel)
def tX9_award_77 := Bt_3 (q := 77) tX9_award_74 rfl
theorem dX9_award_77 : decode cX9_award 77 = .ok (.iconst 0, 1) := de_03 tX9_award_77
def tX9_award_78 := Bt_1 (q := 78) tX9_award_77 rfl
theorem dX9_award_78 : decode cX9_award 78 = .ok (.istore_n 2, 1) := de_3d tX9_award_78
def tX9_award_79 := Bt_1 (q := 79) tX9_award_78 rfl
theorem dX9_award_79 : decode cX9_award 79 = .ok (.iload_n 2, 1) := de_1c tX9_award_79
def tX9_award_80 := Bt_1 (q := 80) tX9_award_79 rfl
theorem dX9_award_80 : decode cX9_award 80 = .ok (.bipush 6, 2) := de_10 tX9_award_80 (by decide +kernel)
def tX9_award_82 := Bt_2 (q := 82) tX9_award_80 rfl
theorem dX9_award_82 : decode cX9_award 82 = .ok (.if_icmp .ge 50, 3) := de_a2 tX9_award_82 (by decide +kernel)
def tX9_award_85 := Bt_3 (q := 85) tX9_award_82 rfl
theorem dX9_award_85 : decode cX9_award 85 = .ok (.aload_n 0, 1) := de_2a tX9_award_85
def tX9_award_86 := Bt_1 (q := 86) tX9_award_85 rfl
theorem dX9_award_86 : decode cX9_award 86 = .ok (.getfield 40, 3) := de_b4 tX9_award_86 (by decide +kernel)
def tX9_award_89 := Bt_3 (q := 89) tX9_award_86 rfl
theorem dX9_award_89 : decode cX9_award 89 = .ok (.getfield 263, 3) := de_b4 tX9_award_89 (by decide +kernel)
def tX9_award_92 := Bt_3 (q := 92) tX9_award_89 rfl
theorem dX9_award_92 : decode cX9_award 92 = .ok (.iload_n 2, 1) := de_1c tX9_award_92
def tX9_award_93 := Bt_1 (q := 93) tX9_award_92 rfl
theorem dX9_award_93 : decode cX9_award 93 = .ok (.iaload, 1) := de_2e tX9_award_93
def tX9_award_94 := Bt_1 (q := 94) tX9_award_93 rfl
theorem dX9_award_94 : decode cX9_award 94 = .ok (.istore_n 3, 1) := de_3e tX9_award_94
def tX9_award_95 := Bt_1 (q := 95) tX9_award_94 rfl
theorem dX9_award_95 : decode cX9_award 95 = .ok (.aload_n 0, 1) := de_2a tX9_award_95
def tX9_award_96 := Bt_1 (q := 96) tX9_award_95 rfl
theorem dX9_award_96 : decode cX9_award 96 = .ok (.getfield 47, 3) := de_b4 tX9_award_96 (by decide +kernel)
def tX9_award_99 := Bt_3 (q := 99) tX9_award_96 rfl
theorem dX9_award_99 : decode cX9_award 99 = .ok (.iload_n 2, 1) := de_1c tX9_award_99
def tX9_award_100 := Bt_1 (q := 100) tX9_award_99 rfl
theorem dX9_award_100 : decode cX9_award 100 = .ok (.iload_n 3, 1) := de_1d tX9_award_100
def tX9_award_101 := Bt_1 (q := 101) tX9_award_100 rfl
theorem dX9_award_101 : decode cX9_award 101 = .ok (.iload_n 3, 1) := de_1d tX9_award_101
def tX9_award_102 := Bt_1 (q := 102) tX9_award_101 rfl
theorem dX9_award_102 : decode cX9_award 102 = .ok (.bipush (-9), 2) := de_10 tX9_award_102 (by decide +kernel)
def tX9_award_104 := Bt_2 (q := 104) tX9_award_102 rfl
theorem dX9_award_104 : decode cX9_award 104 = .ok (.if_icmp .ne 7, 3) := de_a0 tX9_award_104 (by decide +kernel)
def tX9_award_107 := Bt_3 (q := 107) tX9_award_104 rfl
theorem dX9_award_107 : decode cX9_award 107 = .ok (.iconst 0, 1) := de_03 tX9_award_107
def tX9_award_108 := Bt_1 (q := 108) tX9_award_107 rfl
theorem dX9_award_108 : decode cX9_award 108 = .ok (.goto 15, 3) := de_a7 tX9_award_108 (by decide +kernel)
def tX9_award_111 := Bt_3 (q := 111) tX9_award_108 rfl
theorem dX9_award_111 : decode cX9_award 111 = .ok (.aload_n 0, 1) := de_2a tX9_award_111
def tX9_award_112 := Bt_1 (q := 112) tX9_award_111 rfl
theorem dX9_award_112 : decode cX9_award 112 = .ok (.getfield 12, 3) := de_b4 tX9_award_112 (by decide +kernel)
def tX9_award_115 := Bt_3 (q := 115) tX9_award_112 rfl
theorem dX9_award_115 : decode cX9_award 115 = .ok (.iload_n 3, 1) := de_1d tX9_award_115
def tX9_award_116 := Bt_1 (q := 116) tX9_award_115 rfl
theorem dX9_award_116 : decode cX9_award 116 = .ok (.iload_n 2, 1) := de_1c tX9_award_116
def tX9_award_117 := Bt_1 (q := 117) tX9_award_116 rfl
theorem dX9_award_117 : decode cX9_award 117 = .ok (.invokestatic 110, 3) := de_b8 tX9_award_117 (by decide +kernel)
def tX9_award_120 := Bt_3 (q := 120) tX9_award_117 rfl
theorem dX9_award_120 : decode cX9_award 120 = .ok (.invokevirtual 131, 3) := de_b6 tX9_award_120 (by decide +kernel)
def tX9_award_123 := Bt_3 (q := 123) tX9_award_120 rfl
theorem dX9_award_123 : decode cX9_award 123 = .ok (.invokevirtual 273, 3) := de_b6 tX9_award_123 (by decide +kernel)
def tX9_award_126 := Bt_3 (q := 126) tX9_award_123 rfl
theorem dX9_award_126 : decode cX9_award 126 = .ok (.iinc 2 1, 3) := de_84 tX9_award_126 (by decide +kernel) (by decide +kernel)
def tX9_award_129 := Bt_3 (q := 129) tX9_award_126 rfl
theorem dX9_award_129 : decode cX9_award 129 = .ok (.goto (-50), 3) := de_a7 tX9_award_129 (by decide +kernel)
def tX9_award_132 := Bt_3 (q := 132) tX9_award_129 rfl
theorem dX9_award_132 : decode cX9_award 132 = .ok (.aload_n 0, 1) := de_2a tX9_award_132
def tX9_award_133 := Bt_1 (q := 133) tX9_award_132 rfl
theorem dX9_award_133 : decode cX9_award 133 = .ok (.getfield 40, 3) := de_b4 tX9_award_133 (by decide +kernel)
def tX9_award_136 := Bt_3 (q := 136) tX9_award_133 rfl
theorem dX9_award_136 : decode cX9_award 136 = .ok (.getfield 257, 3) := de_b4 tX9_award_136 (by decide +kernel)
def tX9_award_139 := Bt_3 (q := 139) tX9_award_136 rfl
theorem dX9_award_139 : decode cX9_award 139 = .ok (.ireturn, 1) := de_ac tX9_award_139
def tX9_awarded_0 := Bt_0 cX9_awarded
theorem dX9_awarded_0 : decode cX9_awarded 0 = .ok (.aload_n 0, 1) := de_2a tX9_awarded_0
def tX9_awarded_1 := Bt_1 (q := 1) tX9_awarded_0 rfl
theorem dX9_awarded_1 : decode cX9_awarded 1 = .ok (.iload_n 1, 1) := de_1b tX9_awarded_1
def tX9_awarded_2 := Bt_1 (q := 2) tX9_awarded_1 rfl
theorem dX9_awarded_2 : decode cX9_awarded 2 = .ok (.invokevirtual 193, 3) := de_b6 tX9_awarded_2 (by decide +kernel)
def tX9_awarded_5 := Bt_3 (q := 5) tX9_awarded_2 rfl
theorem dX9_awarded_5 : decode cX9_awarded 5 = .ok (.ifCond .eq 9, 3) := de_99 tX9_awarded_5 (by decide +kernel)
def tX9_awarded_8 := Bt_3 (q := 8) tX9_awarded_5 rfl
theorem dX9_awarded_8 : decode cX9_awarded 8 = .ok (.aload_n 0, 1) := de_2a tX9_awarded_8
def tX9_awarded_9 := Bt_1 (q := 9) tX9_awarded_8 rfl
theorem dX9_awarded_9 : decode cX9_awarded 9 = .ok (.iconst (-1), 1) := de_02 tX9_awarded_9
def tX9_awarded_10 := Bt_1 (q := 10) tX9_awarded_9 rfl
theorem dX9_awarded_10 : decode cX9_awarded 10 = .ok (.invokevirtual 62, 3) := de_b6 tX9_awarded_10 (by decide +kernel)
def tX9_awarded_13 := Bt_3 (q := 13) tX9_awarded_10 rfl
theorem dX9_awarded_13 : decode cX9_awarded 13 = .ok (.ireturn, 1) := de_ac tX9_awarded_13
def tX9_awarded_14 := Bt_1 (q := 14) tX9_awarded_13 rfl
theorem dX9_awarded_14 : decode cX9_awarded 14 = .ok (.aload_n 0, 1) := de_2a tX9_awarded_14
def tX9_awarded_15 := Bt_1 (q := 15) tX9_awarded_14 rfl
theorem dX9_awarded_15 : decode cX9_awarded 15 = .ok (.getfield 47, 3) := de_b4 tX9_awarded_15 (by decide +kernel)
def tX9_awarded_18 := Bt_3 (q := 18) tX9_awarded_15 rfl
theorem dX9_awarded_18 : decode cX9_awarded 18 = .ok (.getfield 266, 3) := de_b4 tX9_awarded_18 (by decide +kernel)
def tX9_awarded_21 := Bt_3 (q := 21) tX9_awarded_18 rfl
theorem dX9_awarded_21 : decode cX9_awarded 21 = .ok (.ifCond .ne 10, 3) := de_9a tX9_awarded_21 (by decide +kernel)
def tX9_awarded_24 := Bt_3 (q := 24) tX9_awarded_21 rfl
theorem dX9_awarded_24 : decode cX9_awarded 24 = .ok (.aload_n 0, 1) := de_2a tX9_awarded_24
def tX9_awarded_25 := Bt_1 (q := 25) tX9_awarded_24 rfl
theorem dX9_awarded_25 : decode cX9_awarded 25 = .ok (.bipush (-3), 2) := de_10 tX9_awarded_25 (by decide +kernel)
def tX9_awarded_27 := Bt_2 (q := 27) tX9_awarded_25 rfl
theorem dX9_awarded_27 : decode cX9_awarded 27 = .ok (.invokevirtual 62, 3) := de_b6 tX9_awarded_27 (by decide +kernel)
def tX9_awarded_30 := Bt_3 (q := 30) tX9_awarded_27 rfl
theorem dX9_awarded_30 : decode cX9_awarded 30 = .ok (.ireturn, 1) := de_ac tX9_awarded_30
def tX9_awarded_31 := Bt_1 (q := 31) tX9_awarded_30 rfl
theorem dX9_awarded_31 : decode cX9_awarded 31 = .ok (.aload_n 0, 1) := de_2a tX9_awarded_31
def tX9_awarded_32 := Bt_1 (q := 32) tX9_awarded_31 rfl
theorem dX9_awarded_32 : decode cX9_awarded 32 = .ok (.getfield 47, 3) := de_b4 tX9_awarded_32 (by decide +kernel)
def tX9_awarded_35 := Bt_3 (q := 35) tX9_awarded_32 rfl
theorem dX9_awarded_35 : decode cX9_awarded 35 = .ok (.getfield 277, 3) := de_b4 tX9_awarded_35 (by decide +kernel)
def tX9_awarded_38 := Bt_3 (q := 38) tX9_awarded_35 rfl
theorem dX9_awarded_38 : decode cX9_awarded 38 = .ok (.iload_n 1, 1) := de_1b tX9_awarded_38
def tX9_awarded_39 := Bt_1 (q := 39) tX9_awarded_38 rfl
theorem dX9_awarded_39 : decode cX9_awarded 39 = .ok (.iaload, 1) := de_2e tX9_awarded_39
def tX9_awarded_40 := Bt_1 (q := 40) tX9_awarded_39 rfl
theorem dX9_awarded_40 : decode cX9_awarded 40 = .ok (.ireturn, 1) := de_ac tX9_awarded_40
def tX9_challenge_0 := Bt_0 cX9_challenge
theorem dX9_challenge_0 : decode cX9_challenge 0 = .ok (.aload_n 0, 1) := de_2a tX9_challenge_0
def tX9_challenge_1 := Bt_1 (q := 1) tX9_challenge_0 rfl
theorem dX9_challenge_1 : decode cX9_challenge 1 = .ok (.iload_n 1, 1) := de_1b tX9_challenge_1
def tX9_challenge_2 := Bt_1 (q := 2) tX9_challenge_1 rfl
theorem dX9_challenge_2 : decode cX9_challenge 2 = .ok (.invokevirtual 193, 3) := de_b6 tX9_challenge_2 (by decide +kernel)
def tX9_challenge_5 := Bt_3 (q := 5) tX9_challenge_2 rfl
theorem dX9_challenge_5 : decode cX9_challenge 5 = .ok (.ifCond .eq 9, 3) := de_99 tX9_challenge_5 (by decide +kernel)
def tX9_challenge_8 := Bt_3 (q := 8) tX9_challenge_5 rfl
theorem dX9_challenge_8 : decode cX9_challenge 8 = .ok (.aload_n 0, 1) := de_2a tX9_challenge_8
def tX9_challenge_9 := Bt_1 (q := 9) tX9_challenge_8 rfl
theorem dX9_challenge_9 : decode cX9_challenge 9 = .ok (.iconst (-1), 1) := de_02 tX9_challenge_9
def tX9_challenge_10 := Bt_1 (q := 10) tX9_challenge_9 rfl
theorem dX9_challenge_10 : decode cX9_challenge 10 = .ok (.invokevirtual 62, 3) := de_b6 tX9_challenge_10 (by decide +kernel)
def tX9_challenge_13 := Bt_3 (q := 13) tX9_challenge_10 rfl
theorem dX9_challenge_13 : decode cX9_challenge 13 = .ok (.ireturn, 1) := de_ac tX9_challenge_13
def tX9_challenge_14 := Bt_1 (q := 14) tX9_challenge_13 rfl
theorem dX9_challenge_14 : decode cX9_challenge 14 = .ok (.iload_n 2, 1) := de_1c tX9_challenge_14
def tX9_challenge_15 := Bt_1 (q := 15) tX9_challenge_14 rfl
theorem dX9_challenge_15 : decode cX9_challenge 15 = .ok (.ifCond .lt 8, 3) := de_9b tX9_challenge_15 (by decide +kernel)
def tX9_challenge_18 := Bt_3 (q := 18) tX9_challenge_15 rfl
theorem dX9_challenge_18 : decode cX9_challenge 18 = .ok (.iload_n 2, 1) := de_1c tX9_challenge_18
def tX9_challenge_19 := Bt_1 (q := 19) tX9_challenge_18 rfl
theorem dX9_challenge_19 : decode cX9_challenge 19 = .ok (.iconst 3, 1) := de_06 tX9_challenge_19
def tX9_challenge_20 := Bt_1 (q := 20) tX9_challenge_19 rfl
theorem dX9_challenge_20 : decode cX9_challenge 20 = .ok (.if_icmp .lt 10, 3) := de_a1 tX9_challenge_20 (by decide +kernel)
def tX9_challenge_23 := Bt_3 (q := 23) tX9_challenge_20 rfl
theorem dX9_challenge_23 : decode cX9_challenge 23 = .ok (.aload_n 0, 1) := de_2a tX9_challenge_23
def tX9_challenge_24 := Bt_1 (q := 24) tX9_challenge_23 rfl
theorem dX9_challenge_24 : decode cX9_challenge 24 = .ok (.bipush (-2), 2) := de_10 tX9_challenge_24 (by decide +kernel)
def tX9_challenge_26 := Bt_2 (q := 26) tX9_challenge_24 rfl
theorem dX9_challenge_26 : decode cX9_challenge 26 = .ok (.invokevirtual 62, 3) := de_b6 tX9_challenge_26 (by decide +kernel)
def tX9_challenge_29 := Bt_3 (q := 29) tX9_challenge_26 rfl
theorem dX9_challenge_29 : decode cX9_challenge 29 = .ok (.ireturn, 1) := de_ac tX9_challenge_29
def tX9_challenge_30 := Bt_1 (q := 30) tX9_challenge_29 rfl
theorem dX9_challenge_30 : decode cX9_challenge 30 = .ok (.aload_n 0, 1) := de_2a tX9_challenge_30
def tX9_challenge_31 := Bt_1 (q := 31) tX9_challenge_30 rfl
theorem dX9_challenge_31 : decode cX9_challenge 31 = .ok (.getfield 47, 3) := de_b4 tX9_challenge_31 (by decide +kernel)
def tX9_challenge_34 := Bt_3 (q := 34) tX9_challenge_31 rfl
theorem dX9_challenge_34 : decode cX9_challenge 34 = .ok (.getfield 266, 3) := de_b4 tX9_challenge_34 (by decide +kernel)
def tX9_challenge_37 := Bt_3 (q := 37) tX9_challenge_34 rfl
theorem dX9_challenge_37 : decode cX9_challenge 37 = .ok (.ifCond .eq 30, 3) := de_99 tX9_challenge_37 (by decide +kernel)
def tX9_challenge_40 := Bt_3 (q := 40) tX9_challenge_37 rfl
theorem dX9_challenge_40 : decode cX9_challenge 40 = .ok (.aload_n 0, 1) := de_2a tX9_challenge_40
def tX9_challenge_41 := Bt_1 (q := 41) tX9_challenge_40 rfl
theorem dX9_challenge_41 : decode cX9_challenge 41 = .ok (.getfield 47, 3) := de_b4 tX9_challenge_41 (by decide +kernel)
def tX9_challenge_44 := Bt_3 (q := 44) tX9_challenge_41 rfl
theorem dX9_challenge_44 : decode cX9_challenge 44 = .ok (.getfield 278, 3) := de_b4 tX9_challenge_44 (by decide +kernel)
def tX9_challenge_47 := Bt_3 (q := 47) tX9_challenge_44 rfl
theorem dX9_challenge_47 : decode cX9_challenge 47 = .ok (.ifCond .ne 20, 3) := de_9a tX9_challenge_47 (by decide +kernel)
def tX9_challenge_50 := Bt_3 (q := 50) tX9_challenge_47 rfl
theorem dX9_challenge_50 : decode cX9_challenge 50 = .ok (.aload_n 0, 1) := de_2a tX9_challenge_50
def tX9_challenge_51 := Bt_1 (q := 51) tX9_challenge_50 rfl
theorem dX9_challenge_51 : decode cX9_challenge 51 = .ok (.getfield 47, 3) := de_b4 tX9_challenge_51 (by decide +kernel)
def tX9_challenge_54 := Bt_3 (q := 54) tX9_challenge_51 rfl
theorem dX9_challenge_54 : decode cX9_challenge 54 = .ok (.aload_n 0, 1) := de_2a tX9_challenge_54
def tX9_challenge_55 := Bt_1 (q := 55) tX9_challenge_54 rfl
theorem dX9_challenge_55 : decode cX9_challenge 55 = .ok (.getfield 12, 3) := de_b4 tX9_challenge_55 (by decide +kernel)
def tX9_challenge_58 := Bt_3 (q := 58) tX9_challenge_55 rfl
theorem dX9_challenge_58 : decode cX9_challenge 58 = .ok (.getfield 67, 3) := de_b4 tX9_challenge_58 (by decide +kernel)
def tX9_challenge_61 := Bt_3 (q := 61) tX9_challenge_58 rfl
theorem dX9_challenge_61 : decode cX9_challenge 61 = .ok (.invokevirtual 281, 3) := de_b6 tX9_challenge_61 (by decide +kernel)
def tX9_challenge_64 := Bt_3 (q := 64) tX9_challenge_61 rfl
theorem dX9_challenge_64 : decode cX9_challenge 64 = .ok (.ifCond .eq 10, 3) := de_99 tX9_challenge_64 (by decide +kernel)
def tX9_challenge_67 := Bt_3 (q := 67) tX9_challenge_64 rfl
theorem dX9_challenge_67 : decode cX9_challenge 67 = .ok (.aload_n 0, 1) := de_2a tX9_challenge_67
def tX9_challenge_68 := Bt_1 (q := 68) tX9_challenge_67 rfl
theorem dX9_challenge_68 : decode cX9_challenge 68 = .ok (.bipush (-3), 2) := de_10 tX9_challenge_68 (by decide +kernel)
def tX9_challenge_70 := Bt_2 (q := 70) tX9_challenge_68 rfl
theorem dX9_challenge_70 : decode cX9_challenge 70 = .ok (.invokevirtual 62, 3) := de_b6 tX9_challenge_70 (by decide +kernel)
def tX9_challenge_73 := Bt_3 (q := 73) tX9_challenge_70 rfl
theorem dX9_challenge_73 : decode cX9_challenge 73 = .ok (.ireturn, 1) := de_ac tX9_challenge_73
def tX9_challenge_74 := Bt_1 (q := 74) tX9_challenge_73 rfl
theorem dX9_challenge_74 : decode cX9_challenge 74 = .ok (.aload_n 0, 1) := de_2a tX9_challenge_74
def tX9_challenge_75 := Bt_1 (q := 75) tX9_challenge_74 rfl
theorem dX9_challenge_75 : decode cX9_challenge 75 = .ok (.getfield 47, 3) := de_b4 tX9_challenge_75 (by decide +kernel)
def tX9_challenge_78 := Bt_3 (q := 78) tX9_challenge_75 rfl
theorem dX9_challenge_78 : decode cX9_challenge 78 = .ok (.getfield 284, 3) := de_b4 tX9_challenge_78 (by decide +kernel)
def tX9_challenge_81 := Bt_3 (q := 81) tX9_challenge_78 rfl
theorem dX9_challenge_81 : decode cX9_challenge 81 = .ok (.bipush 20, 2) := de_10 tX9_challenge_81 (by decide +kernel)
def tX9_challenge_83 := Bt_2 (q := 83) tX9_challenge_81 rfl
theorem dX9_challenge_83 : decode cX9_challenge 83 = .ok (.if_icmp .lt 10, 3) := de_a1 tX9_challenge_83 (by decide +kernel)
def tX9_challenge_86 := Bt_3 (q := 86) tX9_challenge_83 rfl
theorem dX9_challenge_86 : decode cX9_challenge 86 = .ok (.aload_n 0, 1) := de_2a tX9_challenge_86
def tX9_challenge_87 := Bt_1 (q := 87) tX9_challenge_86 rfl
theorem dX9_challenge_87 : decode cX9_challenge 87 = .ok (.bipush (-6), 2) := de_10 tX9_challenge_87 (by decide +kernel)
def tX9_challenge_89 := Bt_2 (q := 89) tX9_challenge_87 rfl
theorem dX9_challenge_89 : decode cX9_challenge 89 = .ok (.invokevirtual 62, 3) := de_b6 tX9_challenge_89 (by decide +kernel)
def tX9_challenge_92 := Bt_3 (q := 92) tX9_challenge_89 rfl
theorem dX9_challenge_92 : decode cX9_challenge 92 = .ok (.ireturn, 1) := de_ac tX9_challenge_92
def tX9_challenge_93 := Bt_1 (q := 93) tX9_challenge_92 rfl
theorem dX9_challenge_93 : decode cX9_challenge 93 = .ok (.aload_n 0, 1) := de_2a tX9_challenge_93
def tX9_challenge_94 := Bt_1 (q := 94) tX9_challenge_93 rfl
theorem dX9_challenge_94 : decode cX9_challenge 94 = .ok (.getfield 47, 3) := de_b4 tX9_challenge_94 (by decide +kernel)
def tX9_challenge_97 := Bt_3 (q := 97) tX9_challenge_94 rfl
theorem dX9_challenge_97 : decode cX9_challenge 97 = .ok (.iload_n 1, 1) := de_1b tX9_challenge_97
def tX9_challenge_98 := Bt_1 (q := 98) tX9_challenge_97 rfl
theorem dX9_challenge_98 : decode cX9_challenge 98 = .ok (.iload_n 2, 1) := de_1c tX9_challenge_98
def tX9_challenge_99 := Bt_1 (q := 99) tX9_challenge_98 rfl
theorem dX9_challenge_99 : decode cX9_challenge 99 = .ok (.invokevirtual 287, 3) := de_b6 tX9_challenge_99 (by decide +kernel)
def tX9_challenge_102 := Bt_3 (q := 102) tX9_challenge_99 rfl
theorem dX9_challenge_102 : decode cX9_challenge 102 = .ok (.ireturn, 1) := de_ac tX9_challenge_102
def tX9_judge_0 := Bt_0 cX9_judge
theorem dX9_judge_0 : decode cX9_judge 0 = .ok (.iload_n 1, 1) := de_1b tX9_judge_0
def tX9_judge_1 := Bt_1 (q := 1) tX9_judge_0 rfl
theorem dX9_judge_1 : decode cX9_judge 1 = .ok (.ifCond .lt 14, 3) := de_9b tX9_judge_1 (by decide +kernel)
def tX9_judge_4 := Bt_3 (q := 4) tX9_judge_1 rfl
theorem dX9_judge_4 : decode cX9_judge 4 = .ok (.iload_n 1, 1) := de_1b tX9_judge_4
def tX9_judge_5 := Bt_1 (q := 5) tX9_judge_4 rfl
theorem dX9_judge_5 : decode cX9_judge 5 = .ok (.aload_n 0, 1) := de_2a tX9_judge_5
def tX9_judge_6 := Bt_1 (q := 6) tX9_judge_5 rfl
theorem dX9_judge_6 : decode cX9_judge 6 = .ok (.getfield 47, 3) := de_b4 tX9_judge_6 (by decide +kernel)
def tX9_judge_9 := Bt_3 (q := 9) tX9_judge_6 rfl
theorem dX9_judge_9 : decode cX9_judge 9 = .ok (.getfield 284, 3) := de_b4 tX9_judge_9 (by decide +kernel)
def tX9_judge_12 := Bt_3 (q := 12) tX9_judge_9 rfl
theorem dX9_judge_12 : decode cX9_judge 12 = .ok (.if_icmp .lt 9, 3) := de_a1 tX9_judge_12 (by decide +kernel)
def tX9_judge_15 := Bt_3 (q := 15) tX9_judge_12 rfl
theorem dX9_judge_15 : decode cX9_judge 15 = .ok (.aload_n 0, 1) := de_2a tX9_judge_15
def tX9_judge_16 := Bt_1 (q := 16) tX9_judge_15 rfl
theorem dX9_judge_16 : decode cX9_judge 16 = .ok (.iconst (-1), 1) := de_02 tX9_judge_16
def tX9_judge_17 := Bt_1 (q := 17) tX9_judge_16 rfl
theorem dX9_judge_17 : decode cX9_judge 17 = .ok (.invokevirtual 62, 3) := de_b6 tX9_judge_17 (by decide +kernel)
def tX9_judge_20 := Bt_3 (q := 20) tX9_judge_17 rfl
theorem dX9_judge_20 : decode cX9_judge 20 = .ok (.ireturn, 1) := de_ac tX9_judge_20
def tX9_judge_21 := Bt_1 (q := 21) tX9_judge_20 rfl
theorem dX9_judge_21 : decode cX9_judge 21 = .ok (.aload_n 0, 1) := de_2a tX9_judge_21
def tX9_judge_22 := Bt_1 (q := 22) tX9_judge_21 rfl
theorem dX9_judge_22 : decode cX9_judge 22 = .ok (.getfield 47, 3) := de_b4 tX9_judge_22 (by decide +kernel)
def tX9_judge_25 := Bt_3 (q := 25) tX9_judge_22 rfl
theorem dX9_judge_25 : decode cX9_judge 25 = .ok (.iload_n 1, 1) := de_1b tX9_judge_25
def tX9_judge_26 := Bt_1 (q := 26) tX9_judge_25 rfl
theorem dX9_judge_26 : decode cX9_judge 26 = .ok (.invokevirtual 290, 3) := de_b6 tX9_judge_26 (by decide +kernel)
def tX9_judge_29 := Bt_3 (q := 29) tX9_judge_26 rfl
theorem dX9_judge_29 : decode cX9_judge 29 = .ok (.ifCond .ne 10, 3) := de_9a tX9_judge_29 (by decide +kernel)
def tX9_judge_32 := Bt_3 (q := 32) tX9_judge_29 rfl
theorem dX9_judge_32 : decode cX9_judge 32 = .ok (.aload_n 0, 1) := de_2a tX9_judge_32
def tX9_judge_33 := Bt_1 (q := 33) tX9_judge_32 rfl
theorem dX9_judge_33 : decode cX9_judge 33 = .ok (.bipush (-3), 2) := de_10 tX9_judge_33 (by decide +kernel)
def tX9_judge_35 := Bt_2 (q := 35) tX9_judge_33 rfl
theorem dX9_judge_35 : decode cX9_judge 35 = .ok (.invokevirtual 62, 3) := de_b6 tX9_judge_35 (by decide +kernel)
def tX9_judge_38 := Bt_3 (q := 38) tX9_judge_35 rfl
theorem dX9_judge_38 : decode cX9_judge 38 = .ok (.ireturn, 1) := de_ac tX9_judge_38
def tX9_judge_39 := Bt_1 (q := 39) tX9_judge_38 rfl
theorem dX9_judge_39 : decode cX9_judge 39 = .ok (.aload_n 0, 1) := de_2a tX9_judge_39
def tX9_judge_40 := Bt_1 (q := 40) tX9_judge_39 rfl
theorem dX9_judge_40 : decode cX9_judge 40 = .ok (.getfield 47, 3) := de_b4 tX9_judge_40 (by decide +kernel)
def tX9_judge_43 := Bt_3 (q := 43) tX9_judge_40 rfl
theorem dX9_judge_43 : decode cX9_judge 43 = .ok (.getfield 293, 3) := de_b4 tX9_judge_43 (by decide +kernel)
def tX9_judge_46 := Bt_3 (q := 46) tX9_judge_43 rfl
theorem dX9_judge_46 : decode cX9_judge 46 = .ok (.iload_n 1, 1) := de_1b tX9_judge_46
def tX9_judge_47 := Bt_1 (q := 47) tX9_judge_46 rfl
theorem dX9_judge_47 : decode cX9_judge 47 = .ok (.iconst 1, 1) := de_04 tX9_judge_47
def tX9_judge_48 := Bt_1 (q := 48) tX9_judge_47 rfl
theorem dX9_judge_48 : decode cX9_judge 48 = .ok (.bastore, 1) := de_54 tX9_judge_48
def tX9_judge_49 := Bt_1 (q := 49) tX9_judge_48 rfl
theorem dX9_judge_49 : decode cX9_judge 49 = .ok (.iload_n 2, 1) := de_1c tX9_judge_49
def tX9_judge_50 := Bt_1 (q := 50) tX9_judge_49 rfl
theorem dX9_judge_50 : decode cX9_judge 50 = .ok (.ifCond .eq 33, 3) := de_99 tX9_judge_50 (by decide +kernel)
def tX9_judge_53 := Bt_3 (q := 53) tX9_judge_50 rfl
theorem dX9_judge_53 : decode cX9_judge 53 = .ok (.aload_n 0, 1) := de_2a tX9_judge_53
def tX9_judge_54 := Bt_1 (q := 54) tX9_judge_53 rfl
theorem dX9_judge_54 : decode cX9_judge 54 = .ok (.aload_n 0, 1) := de_2a tX9_judge_54
def tX9_judge_55 := Bt_1 (q := 55) tX9_judge_54 rfl
theorem dX9_judge_55 : decode cX9_judge 55 = .ok (.getfield 47, 3) := de_b4 tX9_judge_55 (by decide +kernel)
def tX9_judge_58 := Bt_3 (q := 58) tX9_judge_55 rfl
theorem dX9_judge_58 : decode cX9_judge 58 = .ok (.getfield 296, 3) := de_b4 tX9_judge_58 (by decide +kernel)
def tX9_judge_61 := Bt_3 (q := 61) tX9_judge_58 rfl
theorem dX9_judge_61 : decode cX9_judge 61 = .ok (.iload_n 1, 1) := de_1b tX9_judge_61
def tX9_judge_62 := Bt_1 (q := 62) tX9_judge_61 rfl
theorem dX9_judge_62 : decode cX9_judge 62 = .ok (.iaload, 1) := de_2e tX9_judge_62
def tX9_judge_63 := Bt_1 (q := 63) tX9_judge_62 rfl
theorem dX9_judge_63 : decode cX9_judge 63 = .ok (.aload_n 0, 1) := de_2a tX9_judge_63
def tX9_judge_64 := Bt_1 (q := 64) tX9_judge_63 rfl
theorem dX9_judge_64 : decode cX9_judge 64 = .ok (.getfield 47, 3) := de_b4 tX9_judge_64 (by decide +kernel)
def tX9_judge_67 := Bt_3 (q := 67) tX9_judge_64 rfl
theorem dX9_judge_67 : decode cX9_judge 67 = .ok (.getfield 299, 3) := de_b4 tX9_judge_67 (by decide +kernel)
def tX9_judge_70 := Bt_3 (q := 70) tX9_judge_67 rfl
theorem dX9_judge_70 : decode cX9_judge 70 = .ok (.iload_n 1, 1) := de_1b tX9_judge_70
def tX9_judge_71 := Bt_1 (q := 71) tX9_judge_70 rfl
theorem dX9_judge_71 : decode cX9_judge 71 = .ok (.iaload, 1) := de_2e tX9_judge_71
def tX9_judge_72 := Bt_1 (q := 72) tX9_judge_71 rfl
theorem dX9_judge_72 : decode cX9_judge 72 = .ok (.invokevirtual 302, 3) := de_b6 tX9_judge_72 (by decide +kernel)
def tX9_judge_75 := Bt_3 (q := 75) tX9_judge_72 rfl
theorem dX9_judge_75 : decode cX9_judge 75 = .ok (.aload_n 0, 1) := de_2a tX9_judge_75
def tX9_judge_76 := Bt_1 (q := 76) tX9_judge_75 rfl
theorem dX9_judge_76 : decode cX9_judge 76 = .ok (.getfield 47, 3) := de_b4 tX9_judge_76 (by decide +kernel)
def tX9_judge_79 := Bt_3 (q := 79) tX9_judge_76 rfl
theorem dX9_judge_79 : decode cX9_judge 79 = .ok (.iconst 0, 1) := de_03 tX9_judge_79
def tX9_judge_80 := Bt_1 (q := 80) tX9_judge_79 rfl
theorem dX9_judge_80 : decode cX9_judge 80 = .ok (.putfield 266, 3) := de_b5 tX9_judge_80 (by decide +kernel)
def tX9_judge_83 := Bt_3 (q := 83) tX9_judge_80 rfl
theorem dX9_judge_83 : decode cX9_judge 83 = .ok (.iconst 1, 1) := de_04 tX9_judge_83
def tX9_judge_84 := Bt_1 (q := 84) tX9_judge_83 rfl
theorem dX9_judge_84 : decode cX9_judge 84 = .ok (.ireturn, 1) := de_ac tX9_judge_84
def tX9_sign_0 := Bt_0 cX9_sign
theorem dX9_sign_0 : decode cX9_sign 0 = .ok (.aload_n 0, 1) := de_2a tX9_sign_0
def tX9_sign_1 := Bt_1 (q := 1) tX9_sign_0 rfl
theorem dX9_sign_1 : decode cX9_sign 1 = .ok (.getfield 47, 3) := de_b4 tX9_sign_1 (by decide +kernel)
def tX9_sign_4 := Bt_3 (q := 4) tX9_sign_1 rfl
theorem dX9_sign_4 : decode cX9_sign 4 = .ok (.getfield 266, 3) := de_b4 tX9_sign_4 (by decide +kernel)
def tX9_sign_7 := Bt_3 (q := 7) tX9_sign_4 rfl
theorem dX9_sign_7 : decode cX9_sign 7 = .ok (.ifCond .eq 40, 3) := de_99 tX9_sign_7 (by decide +kernel)
def tX9_sign_10 := Bt_3 (q := 10) tX9_sign_7 rfl
theorem dX9_sign_10 : decode cX9_sign 10 = .ok (.aload_n 0, 1) := de_2a tX9_sign_10
def tX9_sign_11 := Bt_1 (q := 11) tX9_sign_10 rfl
theorem dX9_sign_11 : decode cX9_sign 11 = .ok (.getfield 47, 3) := de_b4 tX9_sign_11 (by decide +kernel)
def tX9_sign_14 := Bt_3 (q := 14) tX9_sign_11 rfl
theorem dX9_sign_14 : decode cX9_sign 14 = .ok (.getfield 278, 3) := de_b4 tX9_sign_14 (by decide +kernel)
def tX9_sign_17 := Bt_3 (q := 17) tX9_sign_14 rfl
theorem dX9_sign_17 : decode cX9_sign 17 = .ok (.ifCond .ne 30, 3) := de_9a tX9_sign_17 (by decide +kernel)
def tX9_sign_20 := Bt_3 (q := 20) tX9_sign_17 rfl
theorem dX9_sign_20 : decode cX9_sign 20 = .ok (.aload_n 0, 1) := de_2a tX9_sign_20
def tX9_sign_21 := Bt_1 (q := 21) tX9_sign_20 rfl
theorem dX9_sign_21 : decode cX9_sign 21 = .ok (.getfield 47, 3) := de_b4 tX9_sign_21 (by decide +kernel)
def tX9_sign_24 := Bt_3 (q := 24) tX9_sign_21 rfl
theorem dX9_sign_24 : decode cX9_sign 24 = .ok (.aload_n 0, 1) := de_2a tX9_sign_24
def tX9_sign_25 := Bt_1 (q := 25) tX9_sign_24 rfl
theorem dX9_sign_25 : decode cX9_sign 25 = .ok (.getfield 12, 3) := de_b4 tX9_sign_25 (by decide +kernel)
def tX9_sign_28 := Bt_3 (q := 28) tX9_sign_25 rfl
theorem dX9_sign_28 : decode cX9_sign 28 = .ok (.getfield 67, 3) := de_b4 tX9_sign_28 (by decide +kernel)
def tX9_sign_31 := Bt_3 (q := 31) tX9_sign_28 rfl
theorem dX9_sign_31 : decode cX9_sign 31 = .ok (.invokevirtual 281, 3) := de_b6 tX9_sign_31 (by decide +kernel)
def tX9_sign_34 := Bt_3 (q := 34) tX9_sign_31 rfl
theorem dX9_sign_34 : decode cX9_sign 34 = .ok (.ifCond .eq 13, 3) := de_99 tX9_sign_34 (by decide +kernel)
def tX9_sign_37 := Bt_3 (q := 37) tX9_sign_34 rfl
theorem dX9_sign_37 : decode cX9_sign 37 = .ok (.aload_n 0, 1) := de_2a tX9_sign_37
def tX9_sign_38 := Bt_1 (q := 38) tX9_sign_37 rfl
theorem dX9_sign_38 : decode cX9_sign 38 = .ok (.getfield 47, 3) := de_b4 tX9_sign_38 (by decide +kernel)
def tX9_sign_41 := Bt_3 (q := 41) tX9_sign_38 rfl
theorem dX9_sign_41 : decode cX9_sign 41 = .ok (.invokevirtual 306, 3) := de_b6 tX9_sign_41 (by decide +kernel)
def tX9_sign_44 := Bt_3 (q := 44) tX9_sign_41 rfl
theorem dX9_sign_44 : decode cX9_sign 44 = .ok (.ifCond .le 10, 3) := de_9e tX9_sign_44 (by decide +kernel)
def tX9_sign_47 := Bt_3 (q := 47) tX9_sign_44 rfl
theorem dX9_sign_47 : decode cX9_sign 47 = .ok (.aload_n 0, 1) := de_2a tX9_sign_47
def tX9_sign_48 := Bt_1 (q := 48) tX9_sign_47 rfl
theorem dX9_sign_48 : decode cX9_sign 48 = .ok (.bipush (-3), 2) := de_10 tX9_sign_48 (by decide +kernel)
def tX9_sign_50 := Bt_2 (q := 50) tX9_sign_48 rfl
theorem dX9_sign_50 : decode cX9_sign 50 = .ok (.invokevirtual 62, 3) := de_b6 tX9_sign_50 (by decide +kernel)
def tX9_sign_53 := Bt_3 (q := 53) tX9_sign_50 rfl
theorem dX9_sign_53 : decode cX9_sign 53 = .ok (.ireturn, 1) := de_ac tX9_sign_53
def tX9_sign_54 := Bt_1 (q := 54) tX9_sign_53 rfl
theorem dX9_sign_54 : decode cX9_sign 54 = .ok (.aload_n 0, 1) := de_2a tX9_sign_54
def tX9_sign_55 := Bt_1 (q := 55) tX9_sign_54 rfl
theorem dX9_sign_55 : decode cX9_sign 55 = .ok (.getfield 47, 3) := de_b4 tX9_sign_55 (by decide +kernel)
def tX9_sign_58 := Bt_3 (q := 58) tX9_sign_55 rfl
theorem dX9_sign_58 : decode cX9_sign 58 = .ok (.iconst 1, 1) := de_04 tX9_sign_58
def tX9_sign_59 := Bt_1 (q := 59) tX9_sign_58 rfl
theorem dX9_sign_59 : decode cX9_sign 59 = .ok (.putfield 278, 3) := de_b5 tX9_sign_59 (by decide +kernel)
def tX9_sign_62 := Bt_3 (q := 62) tX9_sign_59 rfl
theorem dX9_sign_62 : decode cX9_sign 62 = .ok (.iconst 1, 1) := de_04 tX9_sign_62
def tX9_sign_63 := Bt_1 (q := 63) tX9_sign_62 rfl
theorem dX9_sign_63 : decode cX9_sign 63 = .ok (.ireturn, 1) := de_ac tX9_sign_63
def tX9_change_0 := Bt_0 cX9_change
theorem dX9_change_0 : decode cX9_change 0 = .ok (.aload_n 0, 1) := de_2a tX9_change_0
def tX9_change_1 := Bt_1 (q := 1) tX9_change_0 rfl
theorem dX9_change_1 : decode cX9_change 1 = .ok (.iload_n 1, 1) := de_1b tX9_change_1
def tX9_change_2 := Bt_1 (q := 2) tX9_change_1 rfl
theorem dX9_change_2 : decode cX9_change 2 = .ok (.invokevirtual 193, 3) := de_b6 tX9_change_2 (by decide +kernel)
def tX9_change_5 := Bt_3 (q := 5) tX9_change_2 rfl
theorem dX9_change_5 : decode cX9_change 5 = .ok (.ifCond .eq 9, 3) := de_99 tX9_change_5 (by decide +kernel)
def tX9_change_8 := Bt_3 (q := 8) tX9_change_5 rfl
theorem dX9_change_8 : decode cX9_change 8 = .ok (.aload_n 0, 1) := de_2a tX9_change_8
def tX9_change_9 := Bt_1 (q := 9) tX9_change_8 rfl
theorem dX9_change_9 : decode cX9_change 9 = .ok (.iconst (-1), 1) := de_02 tX9_change_9
def tX9_change_10 := Bt_1 (q := 10) tX9_change_9 rfl
theorem dX9_change_10 : decode cX9_change 10 = .ok (.invokevirtual 62, 3) := de_b6 tX9_change_10 (by decide +kernel)
def tX9_change_13 := Bt_3 (q := 13) tX9_change_10 rfl
theorem dX9_change_13 : decode cX9_change 13 = .ok (.ireturn, 1) := de_ac tX9_change_13
def tX9_change_14 := Bt_1 (q := 14) tX9_change_13 rfl
theorem dX9_change_14 : decode cX9_change 14 = .ok (.aload_n 0, 1) := de_2a tX9_change_14
def tX9_change_15 := Bt_1 (q := 15) tX9_change_14 rfl
theorem dX9_change_15 : decode cX9_change 15 = .ok (.getfield 47, 3) := de_b4 tX9_change_15 (by decide +kernel)
def tX9_change_18 := Bt_3 (q := 18) tX9_change_15 rfl
theorem dX9_change_18 : decode cX9_change 18 = .ok (.getfield 278, 3) := de_b4 tX9_change_18 (by decide +kernel)
def tX9_change_21 := Bt_3 (q := 21) tX9_change_18 rfl
theorem dX9_change_21 : decode cX9_change 21 = .ok (.ifCond .eq 17, 3) := de_99 tX9_change_21 (by decide +kernel)
def tX9_change_24 := Bt_3 (q := 24) tX9_change_21 rfl
theorem dX9_change_24 : decode cX9_change 24 = .ok (.aload_n 0, 1) := de_2a tX9_change_24
def tX9_change_25 := Bt_1 (q := 25) tX9_change_24 rfl
theorem dX9_change_25 : decode cX9_change 25 = .ok (.getfield 47, 3) := de_b4 tX9_change_25 (by decide +kernel)
def tX9_change_28 := Bt_3 (q := 28) tX9_change_25 rfl
theorem dX9_change_28 : decode cX9_change 28 = .ok (.getfield 277, 3) := de_b4 tX9_change_28 (by decide +kernel)
def tX9_change_31 := Bt_3 (q := 31) tX9_change_28 rfl
theorem dX9_change_31 : decode cX9_change 31 = .ok (.iload_n 1, 1) := de_1b tX9_change_31
def tX9_change_32 := Bt_1 (q := 32) tX9_change_31 rfl
theorem dX9_change_32 : decode cX9_change 32 = .ok (.iaload, 1) := de_2e tX9_change_32
def tX9_change_33 := Bt_1 (q := 33) tX9_change_32 rfl
theorem dX9_change_33 : decode cX9_change 33 = .ok (.bipush (-9), 2) := de_10 tX9_change_33 (by decide +kernel)
def tX9_change_35 := Bt_2 (q := 35) tX9_change_33 rfl
theorem dX9_change_35 : decode cX9_change 35 = .ok (.if_icmp .ne 10, 3) := de_a0 tX9_change_35 (by decide +kernel)
def tX9_change_38 := Bt_3 (q := 38) tX9_change_35 rfl
theorem dX9_change_38 : decode cX9_change 38 = .ok (.aload_n 0, 1) := de_2a tX9_change_38
def tX9_change_39 := Bt_1 (q := 39) tX9_change_38 rfl
theorem dX9_change_39 : decode cX9_change 39 = .ok (.bipush (-3), 2) := de_10 tX9_change_39 (by decide +kernel)
def tX9_change_41 := Bt_2 (q := 41) tX9_change_39 rfl
theorem dX9_change_41 : decode cX9_change 41 = .ok (.invokevirtual 62, 3) := de_b6 tX9_change_41 (by decide +kernel)
def tX9_change_44 := Bt_3 (q := 44) tX9_change_41 rfl
theorem dX9_change_44 : decode cX9_change 44 = .ok (.ireturn, 1) := de_ac tX9_change_44
def tX9_change_45 := Bt_1 (q := 45) tX9_change_44 rfl
theorem dX9_change_45 : decode cX9_change 45 = .ok (.iload_n 2, 1) := de_1c tX9_change_45
def tX9_change_46 := Bt_1 (q := 46) tX9_change_45 rfl
theorem dX9_change_46 : decode cX9_change 46 = .ok (.iconst 1, 1) := de_04 tX9_change_46
def tX9_change_47 := Bt_1 (q := 47) tX9_change_46 rfl
theorem dX9_change_47 : decode cX9_change 47 = .ok (.ldc 66, 2) := de_12 tX9_change_47 (by decide +kernel)
def tX9_change_49 := Bt_2 (q := 49) tX9_change_47 rfl
theorem dX9_change_49 : decode cX9_change 49 = .ok (.invokestatic 76, 3) := de_b8 tX9_change_49 (by decide +kernel)
def tX9_change_52 := Bt_3 (q := 52) tX9_change_49 rfl
theorem dX9_change_52 : decode cX9_change 52 = .ok (.istore_n 3, 1) := de_3e tX9_change_52
def tX9_change_53 := Bt_1 (q := 53) tX9_change_52 rfl
theorem dX9_change_53 : decode cX9_change 53 = .ok (.iload_n 3, 1) := de_1d tX9_change_53
def tX9_change_54 := Bt_1 (q := 54) tX9_change_53 rfl
theorem dX9_change_54 : decode cX9_change 54 = .ok (.ifCond .eq 9, 3) := de_99 tX9_change_54 (by decide +kernel)
def tX9_change_57 := Bt_3 (q := 57) tX9_change_54 rfl
theorem dX9_change_57 : decode cX9_change 57 = .ok (.aload_n 0, 1) := de_2a tX9_change_57
def tX9_change_58 := Bt_1 (q := 58) tX9_change_57 rfl
theorem dX9_change_58 : decode cX9_change 58 = .ok (.iload_n 3, 1) := de_1d tX9_change_58
def tX9_change_59 := Bt_1 (q := 59) tX9_change_58 rfl
theorem dX9_change_59 : decode cX9_change 59 = .ok (.invokevirtual 62, 3) := de_b6 tX9_change_59 (by decide +kernel)
def tX9_change_62 := Bt_3 (q := 62) tX9_change_59 rfl
theorem dX9_change_62 : decode cX9_change 62 = .ok (.ireturn, 1) := de_ac tX9_change_62
def tX9_change_63 := Bt_1 (q := 63) tX9_change_62 rfl
theorem dX9_change_63 : decode cX9_change 63 = .ok (.aload_n 0, 1) := de_2a tX9_change_63
def tX9_change_64 := Bt_1 (q := 64) tX9_change_63 rfl
theorem dX9_change_64 : decode cX9_change 64 = .ok (.getfield 47, 3) := de_b4 tX9_change_64 (by decide +kernel)
def tX9_change_67 := Bt_3 (q := 67) tX9_change_64 rfl
theorem dX9_change_67 : decode cX9_change 67 = .ok (.iload_n 1, 1) := de_1b tX9_change_67
def tX9_change_68 := Bt_1 (q := 68) tX9_change_67 rfl
theorem dX9_change_68 : decode cX9_change 68 = .ok (.iload_n 2, 1) := de_1c tX9_change_68
def tX9_change_69 := Bt_1 (q := 69) tX9_change_68 rfl
theorem dX9_change_69 : decode cX9_change 69 = .ok (.aload_n 0, 1) := de_2a tX9_change_69
def tX9_change_70 := Bt_1 (q := 70) tX9_change_69 rfl
theorem dX9_change_70 : decode cX9_change 70 = .ok (.getfield 12, 3) := de_b4 tX9_change_70 (by decide +kernel)
def tX9_change_73 := Bt_3 (q := 73) tX9_change_70 rfl
theorem dX9_change_73 : decode cX9_change 73 = .ok (.getfield 128, 3) := de_b4 tX9_change_73 (by decide +kernel)
def tX9_change_76 := Bt_3 (q := 76) tX9_change_73 rfl
theorem dX9_change_76 : decode cX9_change 76 = .ok (.iconst 3, 1) := de_06 tX9_change_76
def tX9_change_77 := Bt_1 (q := 77) tX9_change_76 rfl
theorem dX9_change_77 : decode cX9_change 77 = .ok (.iaload, 1) := de_2e tX9_change_77
def tX9_change_78 := Bt_1 (q := 78) tX9_change_77 rfl
theorem dX9_change_78 : decode cX9_change 78 = .ok (.invokevirtual 309, 3) := de_b6 tX9_change_78 (by decide +kernel)
def tX9_change_81 := Bt_3 (q := 81) tX9_change_78 rfl
theorem dX9_change_81 : decode cX9_change 81 = .ok (.ireturn, 1) := de_ac tX9_change_81
def tX9_likeness_0 := Bt_0 cX9_likeness
theorem dX9_likeness_0 : decode cX9_likeness 0 = .ok (.aload_n 0, 1) := de_2a tX9_likeness_0
def tX9_likeness_1 := Bt_1 (q := 1) tX9_likeness_0 rfl
theorem dX9_likeness_1 : decode cX9_likeness 1 = .ok (.iload_n 1, 1) := de_1b tX9_likeness_1
def tX9_likeness_2 := Bt_1 (q := 2) tX9_likeness_1 rfl
theorem dX9_likeness_2 : decode cX9_likeness 2 = .ok (.iload_n 2, 1) := de_1c tX9_likeness_2
def tX9_likeness_3 := Bt_1 (q := 3) tX9_likeness_2 rfl
theorem dX9_likeness_3 : decode cX9_likeness 3 = .ok (.iload_n 3, 1) := de_1d tX9_likeness_3
def tX9_likeness_4 := Bt_1 (q := 4) tX9_likeness_3 rfl
theorem dX9_likeness_4 : decode cX9_likeness 4 = .ok (.invokevirtual 223, 3) := de_b6 tX9_likeness_4 (by decide +kernel)
def tX9_likeness_7 := Bt_3 (q := 7) tX9_likeness_4 rfl
theorem dX9_likeness_7 : decode cX9_likeness 7 = .ok (.ifCond .eq 9, 3) := de_99 tX9_likeness_7 (by decide +kernel)
def tX9_likeness_10 := Bt_3 (q := 10) tX9_likeness_7 rfl
theorem dX9_likeness_10 : decode cX9_likeness 10 = .ok (.aload_n 0, 1) := de_2a tX9_likeness_10
def tX9_likeness_11 := Bt_1 (q := 11) tX9_likeness_10 rfl
theorem dX9_likeness_11 : decode cX9_likeness 11 = .ok (.iconst (-1), 1) := de_02 tX9_likeness_11
def tX9_likeness_12 := Bt_1 (q := 12) tX9_likeness_11 rfl
theorem dX9_likeness_12 : decode cX9_likeness 12 = .ok (.invokevirtual 176, 3) := de_b6 tX9_likeness_12 (by decide +kernel)
def tX9_likeness_15 := Bt_3 (q := 15) tX9_likeness_12 rfl
theorem dX9_likeness_15 : decode cX9_likeness 15 = .ok (.lreturn, 1) := de_ad tX9_likeness_15
def tX9_likeness_16 := Bt_1 (q := 16) tX9_likeness_15 rfl
theorem dX9_likeness_16 : decode cX9_likeness 16 = .ok (.aload_n 0, 1) := de_2a tX9_likeness_16
def tX9_likeness_17 := Bt_1 (q := 17) tX9_likeness_16 rfl
theorem dX9_likeness_17 : decode cX9_likeness 17 = .ok (.getfield 12, 3) := de_b4 tX9_likeness_17 (by decide +kernel)
def tX9_likeness_20 := Bt_3 (q := 20) tX9_likeness_17 rfl
theorem dX9_likeness_20 : decode cX9_likeness 20 = .ok (.getfield 113, 3) := de_b4 tX9_likeness_20 (by decide +kernel)
def tX9_likeness_23 := Bt_3 (q := 23) tX9_likeness_20 rfl
theorem dX9_likeness_23 : decode cX9_likeness 23 = .ok (.iload_n 2, 1) := de_1c tX9_likeness_23
def tX9_likeness_24 := Bt_1 (q := 24) tX9_likeness_23 rfl
theorem dX9_likeness_24 : decode cX9_likeness 24 = .ok (.iload_n 1, 1) := de_1b tX9_likeness_24
def tX9_likeness_25 := Bt_1 (q := 25) tX9_likeness_24 rfl
theorem dX9_likeness_25 : decode cX9_likeness 25 = .ok (.invokestatic 110, 3) := de_b8 tX9_likeness_25 (by decide +kernel)
def tX9_likeness_28 := Bt_3 (q := 28) tX9_likeness_25 rfl
theorem dX9_likeness_28 : decode cX9_likeness 28 = .ok (.baload, 1) := de_33 tX9_likeness_28
def tX9_likeness_29 := Bt_1 (q := 29) tX9_likeness_28 rfl
theorem dX9_likeness_29 : decode cX9_likeness 29 = .ok (.ifCond .eq 19, 3) := de_99 tX9_likeness_29 (by decide +kernel)
def tX9_likeness_32 := Bt_3 (q := 32) tX9_likeness_29 rfl
theorem dX9_likeness_32 : decode cX9_likeness 32 = .ok (.aload_n 0, 1) := de_2a tX9_likeness_32
def tX9_likeness_33 := Bt_1 (q := 33) tX9_likeness_32 rfl
theorem dX9_likeness_33 : decode cX9_likeness 33 = .ok (.getfield 12, 3) := de_b4 tX9_likeness_33 (by decide +kernel)
def tX9_likeness_36 := Bt_3 (q := 36) tX9_likeness_33 rfl
theorem dX9_likeness_36 : decode cX9_likeness 36 = .ok (.getfield 113, 3) := de_b4 tX9_likeness_36 (by decide +kernel)
def tX9_likeness_39 := Bt_3 (q := 39) tX9_likeness_36 rfl
theorem dX9_likeness_39 : decode cX9_likeness 39 = .ok (.iload_n 3, 1) := de_1d tX9_likeness_39
def tX9_likeness_40 := Bt_1 (q := 40) tX9_likeness_39 rfl
theorem dX9_likeness_40 : decode cX9_likeness 40 = .ok (.iload_n 1, 1) := de_1b tX9_likeness_40
def tX9_likeness_41 := Bt_1 (q := 41) tX9_likeness_40 rfl
theorem dX9_likeness_41 : decode cX9_likeness 41 = .ok (.invokestatic 110, 3) := de_b8 tX9_likeness_41 (by decide +kernel)
def tX9_likeness_44 := Bt_3 (q := 44) tX9_likeness_41 rfl
theorem dX9_likeness_44 : decode cX9_likeness 44 = .ok (.baload, 1) := de_33 tX9_likeness_44
def tX9_likeness_45 := Bt_1 (q := 45) tX9_likeness_44 rfl
theorem dX9_likeness_45 : decode cX9_likeness 45 = .ok (.ifCond .ne 10, 3) := de_9a tX9_likeness_45 (by decide +kernel)
def tX9_likeness_48 := Bt_3 (q := 48) tX9_likeness_45 rfl
theorem dX9_likeness_48 : decode cX9_likeness 48 = .ok (.aload_n 0, 1) := de_2a tX9_likeness_48
def tX9_likeness_49 := Bt_1 (q := 49) tX9_likeness_48 rfl
theorem dX9_likeness_49 : decode cX9_likeness 49 = .ok (.bipush (-5), 2) := de_10 tX9_likeness_49 (by decide +kernel)
def tX9_likeness_51 := Bt_2 (q := 51) tX9_likeness_49 rfl
theorem dX9_likeness_51 : decode cX9_likeness 51 = .ok (.invokevirtual 176, 3) := de_b6 tX9_likeness_51 (by decide +kernel)
def tX9_likeness_54 := Bt_3 (q := 54) tX9_likeness_51 rfl
theorem dX9_likeness_54 : decode cX9_likeness 54 = .ok (.lreturn, 1) := de_ad tX9_likeness_54
def tX9_likeness_55 := Bt_1 (q := 55) tX9_likeness_54 rfl
theorem dX9_likeness_55 : decode cX9_likeness 55 = .ok (.aload_n 0, 1) := de_2a tX9_likeness_55
def tX9_likeness_56 := Bt_1 (q := 56) tX9_likeness_55 rfl
theorem dX9_likeness_56 : decode cX9_likeness 56 = .ok (.getfield 12, 3) := de_b4 tX9_likeness_56 (by decide +kernel)
def tX9_likeness_59 := Bt_3 (q := 59) tX9_likeness_56 rfl
theorem dX9_likeness_59 : decode cX9_likeness 59 = .ok (.iload_n 2, 1) := de_1c tX9_likeness_59
def tX9_likeness_60 := Bt_1 (q := 60) tX9_likeness_59 rfl
theorem dX9_likeness_60 : decode cX9_likeness 60 = .ok (.iload_n 1, 1) := de_1b tX9_likeness_60
def tX9_likeness_61 := Bt_1 (q := 61) tX9_likeness_60 rfl
theorem dX9_likeness_61 : decode cX9_likeness 61 = .ok (.invokestatic 110, 3) := de_b8 tX9_likeness_61 (by decide +kernel)
def tX9_likeness_64 := Bt_3 (q := 64) tX9_likeness_61 rfl
theorem dX9_likeness_64 : decode cX9_likeness 64 = .ok (.iload_n 3, 1) := de_1d tX9_likeness_64
def tX9_likeness_65 := Bt_1 (q := 65) tX9_likeness_64 rfl
theorem dX9_likeness_65 : decode cX9_likeness 65 = .ok (.iload_n 1, 1) := de_1b tX9_likeness_65
def tX9_likeness_66 := Bt_1 (q := 66) tX9_likeness_65 rfl
theorem dX9_likeness_66 : decode cX9_likeness 66 = .ok (.invokestatic 110, 3) := de_b8 tX9_likeness_66 (by decide +kernel)
def tX9_likeness_69 := Bt_3 (q := 69) tX9_likeness_66 rfl
theorem dX9_likeness_69 : decode cX9_likeness 69 = .ok (.invokestatic 312, 3) := de_b8 tX9_likeness_69 (by decide +kernel)
def tX9_likeness_72 := Bt_3 (q := 72) tX9_likeness_69 rfl
theorem dX9_likeness_72 : decode cX9_likeness 72 = .ok (.lreturn, 1) := de_ad tX9_likeness_72
def tX9_chance_0 := Bt_0 cX9_chance
theorem dX9_chance_0 : decode cX9_chance 0 = .ok (.aload_n 0, 1) := de_2a tX9_chance_0
def tX9_chance_1 := Bt_1 (q := 1) tX9_chance_0 rfl
theorem dX9_chance_1 : decode cX9_chance 1 = .ok (.iload_n 1, 1) := de_1b tX9_chance_1
def tX9_chance_2 := Bt_1 (q := 2) tX9_chance_1 rfl
theorem dX9_chance_2 : decode cX9_chance 2 = .ok (.iload_n 2, 1) := de_1c tX9_chance_2
def tX9_chance_3 := Bt_1 (q := 3) tX9_chance_2 rfl
theorem dX9_chance_3 : decode cX9_chance 3 = .ok (.iload_n 3, 1) := de_1d tX9_chance_3
def tX9_chance_4 := Bt_1 (q := 4) tX9_chance_3 rfl
theorem dX9_chance_4 : decode cX9_chance 4 = .ok (.invokevirtual 223, 3) := de_b6 tX9_chance_4 (by decide +kernel)
def tX9_chance_7 := Bt_3 (q := 7) tX9_chance_4 rfl
theorem dX9_chance_7 : decode cX9_chance 7 = .ok (.ifCond .eq 9, 3) := de_99 tX9_chance_7 (by decide +kernel)
def tX9_chance_10 := Bt_3 (q := 10) tX9_chance_7 rfl
theorem dX9_chance_10 : decode cX9_chance 10 = .ok (.aload_n 0, 1) := de_2a tX9_chance_10
def tX9_chance_11 := Bt_1 (q := 11) tX9_chance_10 rfl
theorem dX9_chance_11 : decode cX9_chance 11 = .ok (.iconst (-1), 1) := de_02 tX9_chance_11
def tX9_chance_12 := Bt_1 (q := 12) tX9_chance_11 rfl
theorem dX9_chance_12 : decode cX9_chance 12 = .ok (.invokevirtual 62, 3) := de_b6 tX9_chance_12 (by decide +kernel)
def tX9_chance_15 := Bt_3 (q := 15) tX9_chance_12 rfl
theorem dX9_chance_15 : decode cX9_chance 15 = .ok (.ireturn, 1) := de_ac tX9_chance_15
def tX9_chance_16 := Bt_1 (q := 16) tX9_chance_15 rfl
theorem dX9_chance_16 : decode cX9_chance 16 = .ok (.aload_n 0, 1) := de_2a tX9_chance_16
def tX9_chance_17 := Bt_1 (q := 17) tX9_chance_16 rfl
theorem dX9_chance_17 : decode cX9_chance 17 = .ok (.getfield 12, 3) := de_b4 tX9_chance_17 (by decide +kernel)
def tX9_chance_20 := Bt_3 (q := 20) tX9_chance_17 rfl
theorem dX9_chance_20 : decode cX9_chance 20 = .ok (.getfield 113, 3) := de_b4 tX9_chance_20 (by decide +kernel)
def tX9_chance_23 := Bt_3 (q := 23) tX9_chance_20 rfl
theorem dX9_chance_23 : decode cX9_chance 23 = .ok (.iload_n 2, 1) := de_1c tX9_chance_23
def tX9_chance_24 := Bt_1 (q := 24) tX9_chance_23 rfl
theorem dX9_chance_24 : decode cX9_chance 24 = .ok (.iload_n 1, 1) := de_1b tX9_chance_24
def tX9_chance_25 := Bt_1 (q := 25) tX9_chance_24 rfl
theorem dX9_chance_25 : decode cX9_chance 25 = .ok (.invokestatic 110, 3) := de_b8 tX9_chance_25 (by decide +kernel)
def tX9_chance_28 := Bt_3 (q := 28) tX9_chance_25 rfl
theorem dX9_chance_28 : decode cX9_chance 28 = .ok (.baload, 1) := de_33 tX9_chance_28
def tX9_chance_29 := Bt_1 (q := 29) tX9_chance_28 rfl
theorem dX9_chance_29 : decode cX9_chance 29 = .ok (.ifCond .eq 19, 3) := de_99 tX9_chance_29 (by decide +kernel)
def tX9_chance_32 := Bt_3 (q := 32) tX9_chance_29 rfl
theorem dX9_chance_32 : decode cX9_chance 32 = .ok (.aload_n 0, 1) := de_2a tX9_chance_32
def tX9_chance_33 := Bt_1 (q := 33) tX9_chance_32 rfl
theorem dX9_chance_33 : decode cX9_chance 33 = .ok (.getfield 12, 3) := de_b4 tX9_chance_33 (by decide +kernel)
def tX9_chance_36 := Bt_3 (q := 36) tX9_chance_33 rfl
theorem dX9_chance_36 : decode cX9_chance 36 = .ok (.getfield 113, 3) := de_b4 tX9_chance_36 (by decide +kernel)
def tX9_chance_39 := Bt_3 (q := 39) tX9_chance_36 rfl
theorem dX9_chance_39 : decode cX9_chance 39 = .ok (.iload_n 3, 1) := de_1d tX9_chance_39
def tX9_chance_40 := Bt_1 (q := 40) tX9_chance_39 rfl
theorem dX9_chance_40 : decode cX9_chance 40 = .ok (.iload_n 1, 1) := de_1b tX9_chance_40
def tX9_chance_41 := Bt_1 (q := 41) tX9_chance_40 rfl
theorem dX9_chance_41 : decode cX9_chance 41 = .ok (.invokestatic 110, 3) := de_b8 tX9_chance_41 (by decide +kernel)
def tX9_chance_44 := Bt_3 (q := 44) tX9_chance_41 rfl
theorem dX9_chance_44 : decode cX9_chance 44 = .ok (.baload, 1) := de_33 tX9_chance_44
def tX9_chance_45 := Bt_1 (q := 45) tX9_chance_44 rfl
theorem dX9_chance_45 : decode cX9_chance 45 = .ok (.ifCond .ne 10, 3) := de_9a tX9_chance_45 (by decide +kernel)
def tX9_chance_48 := Bt_3 (q := 48) tX9_chance_45 rfl
theorem dX9_chance_48 : decode cX9_chance 48 = .ok (.aload_n 0, 1) := de_2a tX9_chance_48
def tX9_chance_49 := Bt_1 (q := 49) tX9_chance_48 rfl
theorem dX9_chance_49 : decode cX9_chance 49 = .ok (.bipush (-5), 2) := de_10 tX9_chance_49 (by decide +kernel)
def tX9_chance_51 := Bt_2 (q := 51) tX9_chance_49 rfl
theorem dX9_chance_51 : decode cX9_chance 51 = .ok (.invokevirtual 62, 3) := de_b6 tX9_chance_51 (by decide +kernel)
def tX9_chance_54 := Bt_3 (q := 54) tX9_chance_51 rfl
theorem dX9_chance_54 : decode cX9_chance 54 = .ok (.ireturn, 1) := de_ac tX9_chance_54
def tX9_chance_55 := Bt_1 (q := 55) tX9_chance_54 rfl
theorem dX9_chance_55 : decode cX9_chance 55 = .ok (.aload_n 0, 1) := de_2a tX9_chance_55
def tX9_chance_56 := Bt_1 (q := 56) tX9_chance_55 rfl
theorem dX9_chance_56 : decode cX9_chance 56 = .ok (.getfield 12, 3) := de_b4 tX9_chance_56 (by decide +kernel)
def tX9_chance_59 := Bt_3 (q := 59) tX9_chance_56 rfl
theorem dX9_chance_59 : decode cX9_chance 59 = .ok (.iload_n 2, 1) := de_1c tX9_chance_59
def tX9_chance_60 := Bt_1 (q := 60) tX9_chance_59 rfl
theorem dX9_chance_60 : decode cX9_chance 60 = .ok (.iload_n 1, 1) := de_1b tX9_chance_60
def tX9_chance_61 := Bt_1 (q := 61) tX9_chance_60 rfl
theorem dX9_chance_61 : decode cX9_chance 61 = .ok (.invokestatic 110, 3) := de_b8 tX9_chance_61 (by decide +kernel)
def tX9_chance_64 := Bt_3 (q := 64) tX9_chance_61 rfl
theorem dX9_chance_64 : decode cX9_chance 64 = .ok (.iload_n 3, 1) := de_1d tX9_chance_64
def tX9_chance_65 := Bt_1 (q := 65) tX9_chance_64 rfl
theorem dX9_chance_65 : decode cX9_chance 65 = .ok (.iload_n 1, 1) := de_1b tX9_chance_65
def tX9_chance_66 := Bt_1 (q := 66) tX9_chance_65 rfl
theorem dX9_chance_66 : decode cX9_chance 66 = .ok (.invokestatic 110, 3) := de_b8 tX9_chance_66 (by decide +kernel)
def tX9_chance_69 := Bt_3 (q := 69) tX9_chance_66 rfl
theorem dX9_chance_69 : decode cX9_chance 69 = .ok (.invokestatic 318, 3) := de_b8 tX9_chance_69 (by decide +kernel)
def tX9_chance_72 := Bt_3 (q := 72) tX9_chance_69 rfl
theorem dX9_chance_72 : decode cX9_chance 72 = .ok (.ireturn, 1) := de_ac tX9_chance_72
def tX9_ring_0 := Bt_0 cX9_ring
theorem dX9_ring_0 : decode cX9_ring 0 = .ok (.aload_n 0, 1) := de_2a tX9_ring_0
def tX9_ring_1 := Bt_1 (q := 1) tX9_ring_0 rfl
theorem dX9_ring_1 : decode cX9_ring 1 = .ok (.iload_n 2, 1) := de_1c tX9_ring_1
def tX9_ring_2 := Bt_1 (q := 2) tX9_ring_1 rfl
theorem dX9_ring_2 : decode cX9_ring 2 = .ok (.iload_n 1, 1) := de_1b tX9_ring_2
def tX9_ring_3 := Bt_1 (q := 3) tX9_ring_2 rfl
theorem dX9_ring_3 : decode cX9_ring 3 = .ok (.invokevirtual 93, 3) := de_b6 tX9_ring_3 (by decide +kernel)
def tX9_ring_6 := Bt_3 (q := 6) tX9_ring_3 rfl
theorem dX9_ring_6 : decode cX9_ring 6 = .ok (.ifCond .eq 9, 3) := de_99 tX9_ring_6 (by decide +kernel)
def tX9_ring_9 := Bt_3 (q := 9) tX9_ring_6 rfl
theorem dX9_ring_9 : decode cX9_ring 9 = .ok (.aload_n 0, 1) := de_2a tX9_ring_9
def tX9_ring_10 := Bt_1 (q := 10) tX9_ring_9 rfl
theorem dX9_ring_10 : decode cX9_ring 10 = .ok (.iconst (-1), 1) := de_02 tX9_ring_10
def tX9_ring_11 := Bt_1 (q := 11) tX9_ring_10 rfl
theorem dX9_ring_11 : decode cX9_ring 11 = .ok (.invokevirtual 62, 3) := de_b6 tX9_ring_11 (by decide +kernel)
def tX9_ring_14 := Bt_3 (q := 14) tX9_ring_11 rfl
theorem dX9_ring_14 : decode cX9_ring 14 = .ok (.ireturn, 1) := de_ac tX9_ring_14
def tX9_ring_15 := Bt_1 (q := 15) tX9_ring_14 rfl
theorem dX9_ring_15 : decode cX9_ring 15 = .ok (.aload_n 0, 1) := de_2a tX9_ring_15
def tX9_ring_16 := Bt_1 (q := 16) tX9_ring_15 rfl
theorem dX9_ring_16 : decode cX9_ring 16 = .ok (.getfield 12, 3) := de_b4 tX9_ring_16 (by decide +kernel)
def tX9_ring_19 := Bt_3 (q := 19) tX9_ring_16 rfl
theorem dX9_ring_19 : decode cX9_ring 19 = .ok (.getfield 113, 3) := de_b4 tX9_ring_19 (by decide +kernel)
def tX9_ring_22 := Bt_3 (q := 22) tX9_ring_19 rfl
theorem dX9_ring_22 : decode cX9_ring 22 = .ok (.iload_n 2, 1) := de_1c tX9_ring_22
def tX9_ring_23 := Bt_1 (q := 23) tX9_ring_22 rfl
theorem dX9_ring_23 : decode cX9_ring 23 = .ok (.iload_n 1, 1) := de_1b tX9_ring_23
def tX9_ring_24 := Bt_1 (q := 24) tX9_ring_23 rfl
theorem dX9_ring_24 : decode cX9_ring 24 = .ok (.invokestatic 110, 3) := de_b8 tX9_ring_24 (by decide +kernel)
def tX9_ring_27 := Bt_3 (q := 27) tX9_ring_24 rfl
theorem dX9_ring_27 : decode cX9_ring 27 = .ok (.baload, 1) := de_33 tX9_ring_27
def tX9_ring_28 := Bt_1 (q := 28) tX9_ring_27 rfl
theorem dX9_ring_28 : decode cX9_ring 28 = .ok (.ifCond .ne 10, 3) := de_9a tX9_ring_28 (by decide +kernel)
def tX9_ring_31 := Bt_3 (q := 31) tX9_ring_28 rfl
theorem dX9_ring_31 : decode cX9_ring 31 = .ok (.aload_n 0, 1) := de_2a tX9_ring_31
def tX9_ring_32 := Bt_1 (q := 32) tX9_ring_31 rfl
theorem dX9_ring_32 : decode cX9_ring 32 = .ok (.bipush (-5), 2) := de_10 tX9_ring_32 (by decide +kernel)
def tX9_ring_34 := Bt_2 (q := 34) tX9_ring_32 rfl
theorem dX9_ring_34 : decode cX9_ring 34 = .ok (.invokevirtual 62, 3) := de_b6 tX9_ring_34 (by decide +kernel)
def tX9_ring_37 := Bt_3 (q := 37) tX9_ring_34 rfl
theorem dX9_ring_37 : decode cX9_ring 37 = .ok (.ireturn, 1) := de_ac tX9_ring_37
def tX9_ring_38 := Bt_1 (q := 38) tX9_ring_37 rfl
theorem dX9_ring_38 : decode cX9_ring 38 = .ok (.aload_n 0, 1) := de_2a tX9_ring_38
def tX9_ring_39 := Bt_1 (q := 39) tX9_ring_38 rfl
theorem dX9_ring_39 : decode cX9_ring 39 = .ok (.getfield 12, 3) := de_b4 tX9_ring_39 (by decide +kernel)
def tX9_ring_42 := Bt_3 (q := 42) tX9_ring_39 rfl
theorem dX9_ring_42 : decode cX9_ring 42 = .ok (.iload_n 1, 1) := de_1b tX9_ring_42
def tX9_ring_43 := Bt_1 (q := 43) tX9_ring_42 rfl
theorem dX9_ring_43 : decode cX9_ring 43 = .ok (.iload_n 2, 1) := de_1c tX9_ring_43
def tX9_ring_44 := Bt_1 (q := 44) tX9_ring_43 rfl
theorem dX9_ring_44 : decode cX9_ring 44 = .ok (.invokestatic 322, 3) := de_b8 tX9_ring_44 (by decide +kernel)
def tX9_ring_47 := Bt_3 (q := 47) tX9_ring_44 rfl
theorem dX9_ring_47 : decode cX9_ring 47 = .ok (.ireturn, 1) := de_ac tX9_ring_47
def tX9_join_0 := Bt_0 cX9_join
theorem dX9_join_0 : decode cX9_join 0 = .ok (.iload_n 1, 1) := de_1b tX9_join_0
def tX9_join_1 := Bt_1 (q := 1) tX9_join_0 rfl
theorem dX9_join_1 : decode cX9_join 1 = .ok (.invokestatic 144, 3) := de_b8 tX9_join_1 (by decide +kernel)
def tX9_join_4 := Bt_3 (q := 4) tX9_join_1 rfl
theorem dX9_join_4 : decode cX9_join 4 = .ok (.ifCond .eq 9, 3) := de_99 tX9_join_4 (by decide +kernel)
def tX9_join_7 := Bt_3 (q := 7) tX9_join_4 rfl
theorem dX9_join_7 : decode cX9_join 7 = .ok (.aload_n 0, 1) := de_2a tX9_join_7
def tX9_join_8 := Bt_1 (q := 8) tX9_join_7 rfl
theorem dX9_join_8 : decode cX9_join 8 = .ok (.iconst (-1), 1) := de_02 tX9_join_8
def tX9_join_9 := Bt_1 (q := 9) tX9_join_8 rfl
theorem dX9_join_9 : decode cX9_join 9 = .ok (.invokevirtual 62, 3) := de_b6 tX9_join_9 (by decide +kernel)
def tX9_join_12 := Bt_3 (q := 12) tX9_join_9 rfl
theorem dX9_join_12 : decode cX9_join 12 = .ok (.ireturn, 1) := de_ac tX9_join_12
def tX9_join_13 := Bt_1 (q := 13) tX9_join_12 rfl
theorem dX9_join_13 : decode cX9_join 13 = .ok (.aload_n 0, 1) := de_2a tX9_join_13
def tX9_join_14 := Bt_1 (q := 14) tX9_join_13 rfl
theorem dX9_join_14 : decode cX9_join 14 = .ok (.getfield 54, 3) := de_b4 tX9_join_14 (by decide +kernel)
def tX9_join_17 := Bt_3 (q := 17) tX9_join_14 rfl
theorem dX9_join_17 : decode cX9_join 17 = .ok (.iload_n 1, 1) := de_1b tX9_join_17
def tX9_join_18 := Bt_1 (q := 18) tX9_join_17 rfl
theorem dX9_join_18 : decode cX9_join 18 = .ok (.invokevirtual 325, 3) := de_b6 tX9_join_18 (by decide +kernel)
def tX9_join_21 := Bt_3 (q := 21) tX9_join_18 rfl
theorem dX9_join_21 : decode cX9_join 21 = .ok (.iconst (-1), 1) := de_02 tX9_join_21
def tX9_join_22 := Bt_1 (q := 22) tX9_join_21 rfl
theorem dX9_join_22 : decode cX9_join 22 = .ok (.if_icmp .eq 10, 3) := de_9f tX9_join_22 (by decide +kernel)
def tX9_join_25 := Bt_3 (q := 25) tX9_join_22 rfl
theorem dX9_join_25 : decode cX9_join 25 = .ok (.aload_n 0, 1) := de_2a tX9_join_25
def tX9_join_26 := Bt_1 (q := 26) tX9_join_25 rfl
theorem dX9_join_26 : decode cX9_join 26 = .ok (.bipush (-3), 2) := de_10 tX9_join_26 (by decide +kernel)
def tX9_join_28 := Bt_2 (q := 28) tX9_join_26 rfl
theorem dX9_join_28 : decode cX9_join 28 = .ok (.invokevirtual 62, 3) := de_b6 tX9_join_28 (by decide +kernel)
def tX9_join_31 := Bt_3 (q := 31) tX9_join_28 rfl
theorem dX9_join_31 : decode cX9_join 31 = .ok (.ireturn, 1) := de_ac tX9_join_31
def tX9_join_32 := Bt_1 (q := 32) tX9_join_31 rfl
theorem dX9_join_32 : decode cX9_join 32 = .ok (.iload_n 2, 1) := de_1c tX9_join_32
def tX9_join_33 := Bt_1 (q := 33) tX9_join_32 rfl
theorem dX9_join_33 : decode cX9_join 33 = .ok (.iconst 1, 1) := de_04 tX9_join_33
def tX9_join_34 := Bt_1 (q := 34) tX9_join_33 rfl
theorem dX9_join_34 : decode cX9_join 34 = .ok (.sipush 999, 3) := de_11 tX9_join_34 (by decide +kernel)
def tX9_join_37 := Bt_3 (q := 37) tX9_join_34 rfl
theorem dX9_join_37 : decode cX9_join 37 = .ok (.invokestatic 76, 3) := de_b8 tX9_join_37 (by decide +kernel)
def tX9_join_40 := Bt_3 (q := 40) tX9_join_37 rfl
theorem dX9_join_40 : decode cX9_join 40 = .ok (.istore_n 3, 1) := de_3e tX9_join_40
def tX9_join_41 := Bt_1 (q := 41) tX9_join_40 rfl
theorem dX9_join_41 : decode cX9_join 41 = .ok (.iload_n 3, 1) := de_1d tX9_join_41
def tX9_join_42 := Bt_1 (q := 42) tX9_join_41 rfl
theorem dX9_join_42 : decode cX9_join 42 = .ok (.ifCond .eq 9, 3) := de_99 tX9_join_42 (by decide +kernel)
def tX9_join_45 := Bt_3 (q := 45) tX9_join_42 rfl
theorem dX9_join_45 : decode cX9_join 45 = .ok (.aload_n 0, 1) := de_2a tX9_join_45
def tX9_join_46 := Bt_1 (q := 46) tX9_join_45 rfl
theorem dX9_join_46 : decode cX9_join 46 = .ok (.iload_n 3, 1) := de_1d tX9_join_46
def tX9_join_47 := Bt_1 (q := 47) tX9_join_46 rfl
theorem dX9_join_47 : decode cX9_join 47 = .ok (.invokevirtual 62, 3) := de_b6 tX9_join_47 (by decide +kernel)
def tX9_join_50 := Bt_3 (q := 50) tX9_join_47 rfl
theorem dX9_join_50 : decode cX9_join 50 = .ok (.ireturn, 1) := de_ac tX9_join_50
def tX9_join_51 := Bt_1 (q := 51) tX9_join_50 rfl
theorem dX9_join_51 : decode cX9_join 51 = .ok (.aload_n 0, 1) := de_2a tX9_join_51
def tX9_join_52 := Bt_1 (q := 52) tX9_join_51 rfl
theorem dX9_join_52 : decode cX9_join 52 = .ok (.getfield 54, 3) := de_b4 tX9_join_52 (by decide +kernel)
def tX9_join_55 := Bt_3 (q := 55) tX9_join_52 rfl
theorem dX9_join_55 : decode cX9_join 55 = .ok (.iload_n 1, 1) := de_1b tX9_join_55
def tX9_join_56 := Bt_1 (q := 56) tX9_join_55 rfl
theorem dX9_join_56 : decode cX9_join 56 = .ok (.iload_n 2, 1) := de_1c tX9_join_56
def tX9_join_57 := Bt_1 (q := 57) tX9_join_56 rfl
theorem dX9_join_57 : decode cX9_join 57 = .ok (.invokevirtual 328, 3) := de_b6 tX9_join_57 (by decide +kernel)
def tX9_join_60 := Bt_3 (q := 60) tX9_join_57 rfl
theorem dX9_join_60 : decode cX9_join 60 = .ok (.ireturn, 1) := de_ac tX9_join_60
def tX9_call_0 := Bt_0 cX9_call
theorem dX9_call_0 : decode cX9_call 0 = .ok (.iload_n 1, 1) := de_1b tX9_call_0
def tX9_call_1 := Bt_1 (q := 1) tX9_call_0 rfl
theorem dX9_call_1 : decode cX9_call 1 = .ok (.iconst 1, 1) := de_04 tX9_call_1
def tX9_call_2 := Bt_1 (q := 2) tX9_call_1 rfl
theorem dX9_call_2 : decode cX9_call 2 = .ok (.sipush 999, 3) := de_11 tX9_call_2 (by decide +kernel)
def tX9_call_5 := Bt_3 (q := 5) tX9_call_2 rfl
theorem dX9_call_5 : decode cX9_call 5 = .ok (.invokestatic 76, 3) := de_b8 tX9_call_5 (by decide +kernel)
def tX9_call_8 := Bt_3 (q := 8) tX9_call_5 rfl
theorem dX9_call_8 : decode cX9_call 8 = .ok (.istore_n 2, 1) := de_3d tX9_call_8
def tX9_call_9 := Bt_1 (q := 9) tX9_call_8 rfl
theorem dX9_call_9 : decode cX9_call 9 = .ok (.iload_n 2, 1) := de_1c tX9_call_9
def tX9_call_10 := Bt_1 (q := 10) tX9_call_9 rfl
theorem dX9_call_10 : decode cX9_call 10 = .ok (.ifCond .eq 9, 3) := de_99 tX9_call_10 (by decide +kernel)
def tX9_call_13 := Bt_3 (q := 13) tX9_call_10 rfl
theorem dX9_call_13 : decode cX9_call 13 = .ok (.aload_n 0, 1) := de_2a tX9_call_13
def tX9_call_14 := Bt_1 (q := 14) tX9_call_13 rfl
theorem dX9_call_14 : decode cX9_call 14 = .ok (.iload_n 2, 1) := de_1c tX9_call_14
def tX9_call_15 := Bt_1 (q := 15) tX9_call_14 rfl
theorem dX9_call_15 : decode cX9_call 15 = .ok (.invokevirtual 62, 3) := de_b6 tX9_call_15 (by decide +kernel)
def tX9_call_18 := Bt_3 (q := 18) tX9_call_15 rfl
theorem dX9_call_18 : decode cX9_call 18 = .ok (.ireturn, 1) := de_ac tX9_call_18
def tX9_call_19 := Bt_1 (q := 19) tX9_call_18 rfl
theorem dX9_call_19 : decode cX9_call 19 = .ok (.aload_n 0, 1) := de_2a tX9_call_19
def tX9_call_20 := Bt_1 (q := 20) tX9_call_19 rfl
theorem dX9_call_20 : decode cX9_call 20 = .ok (.getfield 54, 3) := de_b4 tX9_call_20 (by decide +kernel)
def tX9_call_23 := Bt_3 (q := 23) tX9_call_20 rfl
theorem dX9_call_23 : decode cX9_call 23 = .ok (.iload_n 1, 1) := de_1b tX9_call_23
def tX9_call_24 := Bt_1 (q := 24) tX9_call_23 rfl
theorem dX9_call_24 : decode cX9_call 24 = .ok (.invokevirtual 331, 3) := de_b6 tX9_call_24 (by decide +kernel)
def tX9_call_27 := Bt_3 (q := 27) tX9_call_24 rfl
theorem dX9_call_27 : decode cX9_call 27 = .ok (.ireturn, 1) := de_ac tX9_call_27
def tX9_decline_0 := Bt_0 cX9_decline
theorem dX9_decline_0 : decode cX9_decline 0 = .ok (.aload_n 0, 1) := de_2a tX9_decline_0
def tX9_decline_1 := Bt_1 (q := 1) tX9_decline_0 rfl
theorem dX9_decline_1 : decode cX9_decline 1 = .ok (.getfield 54, 3) := de_b4 tX9_decline_1 (by decide +kernel)
def tX9_decline_4 := Bt_3 (q := 4) tX9_decline_1 rfl
theorem dX9_decline_4 : decode cX9_decline 4 = .ok (.getfield 334, 3) := de_b4 tX9_decline_4 (by decide +kernel)
def tX9_decline_7 := Bt_3 (q := 7) tX9_decline_4 rfl
theorem dX9_decline_7 : decode cX9_decline 7 = .ok (.iconst (-1), 1) := de_02 tX9_decline_7
def tX9_decline_8 := Bt_1 (q := 8) tX9_decline_7 rfl
theorem dX9_decline_8 : decode cX9_decline 8 = .ok (.if_icmp .ne 10, 3) := de_a0 tX9_decline_8 (by decide +kernel)
def tX9_decline_11 := Bt_3 (q := 11) tX9_decline_8 rfl
theorem dX9_decline_11 : decode cX9_decline 11 = .ok (.aload_n 0, 1) := de_2a tX9_decline_11
def tX9_decline_12 := Bt_1 (q := 12) tX9_decline_11 rfl
theorem dX9_decline_12 : decode cX9_decline 12 = .ok (.bipush (-3), 2) := de_10 tX9_decline_12 (by decide +kernel)
def tX9_decline_14 := Bt_2 (q := 14) tX9_decline_12 rfl
theorem dX9_decline_14 : decode cX9_decline 14 = .ok (.invokevirtual 62, 3) := de_b6 tX9_decline_14 (by decide +kernel)
def tX9_decline_17 := Bt_3 (q := 17) tX9_decline_14 rfl
theorem dX9_decline_17 : decode cX9_decline 17 = .ok (.ireturn, 1) := de_ac tX9_decline_17
def tX9_decline_18 := Bt_1 (q := 18) tX9_decline_17 rfl
theorem dX9_decline_18 : decode cX9_decline 18 = .ok (.aload_n 0, 1) := de_2a tX9_decline_18
def tX9_decline_19 := Bt_1 (q := 19) tX9_decline_18 rfl
theorem dX9_decline_19 : decode cX9_decline 19 = .ok (.getfield 54, 3) := de_b4 tX9_decline_19 (by decide +kernel)
def tX9_decline_22 := Bt_3 (q := 22) tX9_decline_19 rfl
theorem dX9_decline_22 : decode cX9_decline 22 = .ok (.invokevirtual 337, 3) := de_b6 tX9_decline_22 (by decide +kernel)
def tX9_decline_25 := Bt_3 (q := 25) tX9_decline_22 rfl
theorem dX9_decline_25 : decode cX9_decline 25 = .ok (.ireturn, 1) := de_ac tX9_decline_25
def tX9_room_0 := Bt_0 cX9_room
theorem dX9_room_0 : decode cX9_room 0 = .ok (.iload_n 1, 1) := de_1b tX9_room_0
def tX9_room_1 := Bt_1 (q := 1) tX9_room_0 rfl
theorem dX9_room_1 : decode cX9_room 1 = .ok (.invokestatic 144, 3) := de_b8 tX9_room_1 (by decide +kernel)
def tX9_room_4 := Bt_3 (q := 4) tX9_room_1 rfl
theorem dX9_room_4 : decode cX9_room 4 = .ok (.ifCond .eq 9, 3) := de_99 tX9_room_4 (by decide +kernel)
def tX9_room_7 := Bt_3 (q := 7) tX9_room_4 rfl
theorem dX9_room_7 : decode cX9_room 7 = .ok (.aload_n 0, 1) := de_2a tX9_room_7
def tX9_room_8 := Bt_1 (q := 8) tX9_room_7 rfl
theorem dX9_room_8 : decode cX9_room 8 = .ok (.iconst (-1), 1) := de_02 tX9_room_8
def tX9_room_9 := Bt_1 (q := 9) tX9_room_8 rfl
theorem dX9_room_9 : decode cX9_room 9 = .ok (.invokevirtual 62, 3) := de_b6 tX9_room_9 (by decide +kernel)
def tX9_room_12 := Bt_3 (q := 12) tX9_room_9 rfl
theorem dX9_room_12 : decode cX9_room 12 = .ok (.ireturn, 1) := de_ac tX9_room_12
def tX9_room_13 := Bt_1 (q := 13) tX9_room_12 rfl
theorem dX9_room_13 : decode cX9_room 13 = .ok (.aload_n 0, 1) := de_2a tX9_room_13
def tX9_room_14 := Bt_1 (q := 14) tX9_room_13 rfl
theorem dX9_room_14 : decode cX9_room 14 = .ok (.getfield 54, 3) := de_b4 tX9_room_14 (by decide +kernel)
def tX9_room_17 := Bt_3 (q := 17) tX9_room_14 rfl
theorem dX9_room_17 : decode cX9_room 17 = .ok (.iload_n 1, 1) := de_1b tX9_room_17
def tX9_room_18 := Bt_1 (q := 18) tX9_room_17 rfl
theorem dX9_room_18 : decode cX9_room 18 = .ok (.invokevirtual 325, 3) := de_b6 tX9_room_18 (by decide +kernel)
def tX9_room_21 := Bt_3 (q := 21) tX9_room_18 rfl
theorem dX9_room_21 : decode cX9_room 21 = .ok (.istore_n 2, 1) := de_3d tX9_room_21
def tX9_room_22 := Bt_1 (q := 22) tX9_room_21 rfl
theorem dX9_room_22 : decode cX9_room 22 = .ok (.iload_n 2, 1) := de_1c tX9_room_22
def tX9_room_23 := Bt_1 (q := 23) tX9_room_22 rfl
theorem dX9_room_23 : decode cX9_room 23 = .ok (.iconst (-1), 1) := de_02 tX9_room_23
def tX9_room_24 := Bt_1 (q := 24) tX9_room_23 rfl
theorem dX9_room_24 : decode cX9_room 24 = .ok (.if_icmp .ne 10, 3) := de_a0 tX9_room_24 (by decide +kernel)
def tX9_room_27 := Bt_3 (q := 27) tX9_room_24 rfl
theorem dX9_room_27 : decode cX9_room 27 = .ok (.aload_n 0, 1) := de_2a tX9_room_27
def tX9_room_28 := Bt_1 (q := 28) tX9_room_27 rfl
theorem dX9_room_28 : decode cX9_room 28 = .ok (.bipush (-3), 2) := de_10 tX9_room_28 (by decide +kernel)
def tX9_room_30 := Bt_2 (q := 30) tX9_room_28 rfl
theorem dX9_room_30 : decode cX9_room 30 = .ok (.invokevirtual 62, 3) := de_b6 tX9_room_30 (by decide +kernel)
def tX9_room_33 := Bt_3 (q := 33) tX9_room_30 rfl
theorem dX9_room_33 : decode cX9_room 33 = .ok (.ireturn, 1) := de_ac tX9_room_33
def tX9_room_34 := Bt_1 (q := 34) tX9_room_33 rfl
theorem dX9_room_34 : decode cX9_room 34 = .ok (.aload_n 0, 1) := de_2a tX9_room_34
def tX9_room_35 := Bt_1 (q := 35) tX9_room_34 rfl
theorem dX9_room_35 : decode cX9_room 35 = .ok (.getfield 54, 3) := de_b4 tX9_room_35 (by decide +kernel)
def tX9_room_38 := Bt_3 (q := 38) tX9_room_35 rfl
theorem dX9_room_38 : decode cX9_room 38 = .ok (.getfield 340, 3) := de_b4 tX9_room_38 (by decide +kernel)
def tX9_room_41 := Bt_3 (q := 41) tX9_room_38 rfl
theorem dX9_room_41 : decode cX9_room 41 = .ok (.iload_n 2, 1) := de_1c tX9_room_41
def tX9_room_42 := Bt_1 (q := 42) tX9_room_41 rfl
theorem dX9_room_42 : decode cX9_room 42 = .ok (.iaload, 1) := de_2e tX9_room_42
def tX9_room_43 := Bt_1 (q := 43) tX9_room_42 rfl
theorem dX9_room_43 : decode cX9_room 43 = .ok (.ireturn, 1) := de_ac tX9_room_43
def tX9_count_0 := Bt_0 cX9_count
theorem dX9_count_0 : decode cX9_count 0 = .ok (.iload_n 1, 1) := de_1b tX9_count_0
def tX9_count_1 := Bt_1 (q := 1) tX9_count_0 rfl
theorem dX9_count_1 : decode cX9_count 1 = .ok (.bipush 11, 2) := de_10 tX9_count_1 (by decide +kernel)
def tX9_count_3 := Bt_2 (q := 3) tX9_count_1 rfl
theorem dX9_count_3 : decode cX9_count 3 = .ok (.if_icmp .lt 19, 3) := de_a1 tX9_count_3 (by decide +kernel)
def tX9_count_6 := Bt_3 (q := 6) tX9_count_3 rfl
theorem dX9_count_6 : decode cX9_count 6 = .ok (.iload_n 1, 1) := de_1b tX9_count_6
def tX9_count_7 := Bt_1 (q := 7) tX9_count_6 rfl
theorem dX9_count_7 : decode cX9_count 7 = .ok (.bipush 17, 2) := de_10 tX9_count_7 (by decide +kernel)
def tX9_count_9 := Bt_2 (q := 9) tX9_count_7 rfl
theorem dX9_count_9 : decode cX9_count 9 = .ok (.if_icmp .gt 13, 3) := de_a3 tX9_count_9 (by decide +kernel)
def tX9_count_12 := Bt_3 (q := 12) tX9_count_9 rfl
theorem dX9_count_12 : decode cX9_count 12 = .ok (.aload_n 0, 1) := de_2a tX9_count_12
def tX9_count_13 := Bt_1 (q := 13) tX9_count_12 rfl
theorem dX9_count_13 : decode cX9_count 13 = .ok (.getfield 58, 3) := de_b4 tX9_count_13 (by decide +kernel)
def tX9_count_16 := Bt_3 (q := 16) tX9_count_13 rfl
theorem dX9_count_16 : decode cX9_count 16 = .ok (.iload_n 1, 1) := de_1b tX9_count_16
def tX9_count_17 := Bt_1 (q := 17) tX9_count_16 rfl
theorem dX9_count_17 : decode cX9_count 17 = .ok (.bipush 10, 2) := de_10 tX9_count_17 (by decide +kernel)
def tX9_count_19 := Bt_2 (q := 19) tX9_count_17 rfl
theorem dX9_count_19 : decode cX9_count 19 = .ok (.isub, 1) := de_64 tX9_count_19
def tX9_count_20 := Bt_1 (q := 20) tX9_count_19 rfl
theorem dX9_count_20 : decode cX9_count 20 = .ok (.iaload, 1) := de_2e tX9_count_20
def tX9_count_21 := Bt_1 (q := 21) tX9_count_20 rfl
theorem dX9_count_21 : decode cX9_count 21 = .ok (.ireturn, 1) := de_ac tX9_count_21
def tX9_count_22 := Bt_1 (q := 22) tX9_count_21 rfl
theorem dX9_count_22 : decode cX9_count 22 = .ok (.iload_n 1, 1) := de_1b tX9_count_22
def tX9_count_23 := Bt_1 (q := 23) tX9_count_22 rfl
theorem dX9_count_23 : decode cX9_count 23 = .ok (.tableswitch 157 0 9 #[53, 61, 69, 77, 85, 93, 109, 125, 141, 149], 53) := by decide +kernel
def tX9_count_76 := Bt_n (q := 76) 53 tX9_count_23 rfl rfl
theorem dX9_count_76 : decode cX9_count 76 = .ok (.aload_n 0, 1) := de_2a tX9_count_76
def tX9_count_77 := Bt_1 (q := 77) tX9_count_76 rfl
theorem dX9_count_77 : decode cX9_count 77 = .ok (.getfield 12, 3) := de_b4 tX9_count_77 (by decide +kernel)
def tX9_count_80 := Bt_3 (q := 80) tX9_count_77 rfl
theorem dX9_count_80 : decode cX9_count 80 = .ok (.getfield 67, 3) := de_b4 tX9_count_80 (by decide +kernel)
def tX9_count_83 := Bt_3 (q := 83) tX9_count_80 rfl
theorem dX9_count_83 : decode cX9_count 83 = .ok (.ireturn, 1) := de_ac tX9_count_83
def tX9_count_84 := Bt_1 (q := 84) tX9_count_83 rfl
theorem dX9_count_84 : decode cX9_count 84 = .ok (.aload_n 0, 1) := de_2a tX9_count_84
def tX9_count_85 := Bt_1 (q := 85) tX9_count_84 rfl
theorem dX9_count_85 : decode cX9_count 85 = .ok (.getfield 12, 3) := de_b4 tX9_count_85 (by decide +kernel)
def tX9_count_88 := Bt_3 (q := 88) tX9_count_85 rfl
theorem dX9_count_88 : decode cX9_count 88 = .ok (.getfield 83, 3) := de_b4 tX9_count_88 (by decide +kernel)
def tX9_count_91 := Bt_3 (q := 91) tX9_count_88 rfl
theorem dX9_count_91 : decode cX9_count 91 = .ok (.ireturn, 1) := de_ac tX9_count_91
def tX9_count_92 := Bt_1 (q := 92) tX9_count_91 rfl
theorem dX9_count_92 : decode cX9_count 92 = .ok (.aload_n 0, 1) := de_2a tX9_count_92
def tX9_count_93 := Bt_1 (q := 93) tX9_count_92 rfl
theorem dX9_count_93 : decode cX9_count 93 = .ok (.getfield 12, 3) := de_b4 tX9_count_93 (by decide +kernel)
def tX9_count_96 := Bt_3 (q := 96) tX9_count_93 rfl
theorem dX9_count_96 : decode cX9_count 96 = .ok (.invokevirtual 343, 3) := de_b6 tX9_count_96 (by decide +kernel)
def tX9_count_99 := Bt_3 (q := 99) tX9_count_96 rfl
theorem dX9_count_99 : decode cX9_count 99 = .ok (.ireturn, 1) := de_ac tX9_count_99
def tX9_count_100 := Bt_1 (q := 100) tX9_count_99 rfl
theorem dX9_count_100 : decode cX9_count 100 = .ok (.aload_n 0, 1) := de_2a tX9_count_100
def tX9_count_101 := Bt_1 (q := 101) tX9_count_100 rfl
theorem dX9_count_101 : decode cX9_count 101 = .ok (.getfield 12, 3) := de_b4 tX9_count_101 (by decide +kernel)
def tX9_count_104 := Bt_3 (q := 104) tX9_count_101 rfl
theorem dX9_count_104 : decode cX9_count 104 = .ok (.invokevirtual 346, 3) := de_b6 tX9_count_104 (by decide +kernel)
def tX9_count_107 := Bt_3 (q := 107) tX9_count_104 rfl
theorem dX9_count_107 : decode cX9_count 107 = .ok (.ireturn, 1) := de_ac tX9_count_107
def tX9_count_108 := Bt_1 (q := 108) tX9_count_107 rfl
theorem dX9_count_108 : decode cX9_count 108 = .ok (.aload_n 0, 1) := de_2a tX9_count_108
def tX9_count_109 := Bt_1 (q := 109) tX9_count_108 rfl
theorem dX9_count_109 : decode cX9_count 109 = .ok (.getfield 12, 3) := de_b4 tX9_count_109 (by decide +kernel)
def tX9_count_112 := Bt_3 (q := 112) tX9_count_109 rfl
theorem dX9_count_112 : decode cX9_count 112 = .ok (.getfield 107, 3) := de_b4 tX9_count_112 (by decide +kernel)
def tX9_count_115 := Bt_3 (q := 115) tX9_count_112 rfl
theorem dX9_count_115 : decode cX9_count 115 = .ok (.ireturn, 1) := de_ac tX9_count_115
def tX9_count_116 := Bt_1 (q := 116) tX9_count_115 rfl
theorem dX9_count_116 : decode cX9_count 116 = .ok (.aload_n 0, 1) := de_2a tX9_count_116
def tX9_count_117 := Bt_1 (q := 117) tX9_count_116 rfl
theorem dX9_count_117 : decode cX9_count 117 = .ok (.getfield 12, 3) := de_b4 tX9_count_117 (by decide +kernel)
def tX9_count_120 := Bt_3 (q := 120) tX9_count_117 rfl
theorem dX9_count_120 : decode cX9_count 120 = .ok (.invokevirtual 71, 3) := de_b6 tX9_count_120 (by decide +kernel)
def tX9_count_123 := Bt_3 (q := 123) tX9_count_120 rfl
theorem dX9_count_123 : decode cX9_count 123 = .ok (.ifCond .eq 7, 3) := de_99 tX9_count_123 (by decide +kernel)
def tX9_count_126 := Bt_3 (q := 126) tX9_count_123 rfl
theorem dX9_count_126 : decode cX9_count 126 = .ok (.iconst 1, 1) := de_04 tX9_count_126
def tX9_count_127 := Bt_1 (q := 127) tX9_count_126 rfl
theorem dX9_count_127 : decode cX9_count 127 = .ok (.goto 4, 3) := de_a7 tX9_count_127 (by decide +kernel)
def tX9_count_130 := Bt_3 (q := 130) tX9_count_127 rfl
theorem dX9_count_130 : decode cX9_count 130 = .ok (.iconst 0, 1) := de_03 tX9_count_130
def tX9_count_131 := Bt_1 (q := 131) tX9_count_130 rfl
theorem dX9_count_131 : decode cX9_count 131 = .ok (.ireturn, 1) := de_ac tX9_count_131
def tX9_count_132 := Bt_1 (q := 132) tX9_count_131 rfl
theorem dX9_count_132 : decode cX9_count 132 = .ok (.aload_n 0, 1) := de_2a tX9_count_132
def tX9_count_133 := Bt_1 (q := 133) tX9_count_132 rfl
theorem dX9_count_133 : decode cX9_count 133 = .ok (.getfield 47, 3) := de_b4 tX9_count_133 (by decide +kernel)
def tX9_count_136 := Bt_3 (q := 136) tX9_count_133 rfl
theorem dX9_count_136 : decode cX9_count 136 = .ok (.getfield 266, 3) := de_b4 tX9_count_136 (by decide +kernel)
def tX9_count_139 := Bt_3 (q := 139) tX9_count_136 rfl
theorem dX9_count_139 : decode cX9_count 139 = .ok (.ifCond .eq 7, 3) := de_99 tX9_count_139 (by decide +kernel)
def tX9_count_142 := Bt_3 (q := 142) tX9_count_139 rfl
theorem dX9_count_142 : decode cX9_count 142 = .ok (.iconst 1, 1) := de_04 tX9_count_142
def tX9_count_143 := Bt_1 (q := 143) tX9_count_142 rfl
theorem dX9_count_143 : decode cX9_count 143 = .ok (.goto 4, 3) := de_a7 tX9_count_143 (by decide +kernel)
def tX9_count_146 := Bt_3 (q := 146) tX9_count_143 rfl
theorem dX9_count_146 : decode cX9_count 146 = .ok (.iconst 0, 1) := de_03 tX9_count_146
def tX9_count_147 := Bt_1 (q := 147) tX9_count_146 rfl
theorem dX9_count_147 : decode cX9_count 147 = .ok (.ireturn, 1) := de_ac tX9_count_147
def tX9_count_148 := Bt_1 (q := 148) tX9_count_147 rfl
theorem dX9_count_148 : decode cX9_count 148 = .ok (.aload_n 0, 1) := de_2a tX9_count_148
def tX9_count_149 := Bt_1 (q := 149) tX9_count_148 rfl
theorem dX9_count_149 : decode cX9_count 149 = .ok (.getfield 47, 3) := de_b4 tX9_count_149 (by decide +kernel)
def tX9_count_152 := Bt_3 (q := 152) tX9_count_149 rfl
theorem dX9_count_152 : decode cX9_count 152 = .ok (.getfield 278, 3) := de_b4 tX9_count_152 (by decide +kernel)
def tX9_count_155 := Bt_3 (q := 155) tX9_count_152 rfl
theorem dX9_count_155 : decode cX9_count 155 = .ok (.ifCond .eq 7, 3) := de_99 tX9_count_155 (by decide +kernel)
def tX9_count_158 := Bt_3 (q := 158) tX9_count_155 rfl
theorem dX9_count_158 : decode cX9_count 158 = .ok (.iconst 1, 1) := de_04 tX9_count_158
def tX9_count_159 := Bt_1 (q := 159) tX9_count_158 rfl
theorem dX9_count_159 : decode cX9_count 159 = .ok (.goto 4, 3) := de_a7 tX9_count_159 (by decide +kernel)
def tX9_count_162 := Bt_3 (q := 162) tX9_count_159 rfl
theorem dX9_count_162 : decode cX9_count 162 = .ok (.iconst 0, 1) := de_03 tX9_count_162
def tX9_count_163 := Bt_1 (q := 163) tX9_count_162 rfl
theorem dX9_count_163 : decode cX9_count 163 = .ok (.ireturn, 1) := de_ac tX9_count_163
def tX9_count_164 := Bt_1 (q := 164) tX9_count_163 rfl
theorem dX9_count_164 : decode cX9_count 164 = .ok (.aload_n 0, 1) := de_2a tX9_count_164
def tX9_count_165 := Bt_1 (q := 165) tX9_count_164 rfl
theorem dX9_count_165 : decode cX9_count 165 = .ok (.getfield 47, 3) := de_b4 tX9_count_165 (by decide +kernel)
def tX9_count_168 := Bt_3 (q := 168) tX9_count_165 rfl
theorem dX9_count_168 : decode cX9_count 168 = .ok (.invokevirtual 306, 3) := de_b6 tX9_count_168 (by decide +kernel)
def tX9_count_171 := Bt_3 (q := 171) tX9_count_168 rfl
theorem dX9_count_171 : decode cX9_count 171 = .ok (.ireturn, 1) := de_ac tX9_count_171
def tX9_count_172 := Bt_1 (q := 172) tX9_count_171 rfl
theorem dX9_count_172 : decode cX9_count 172 = .ok (.aload_n 0, 1) := de_2a tX9_count_172
def tX9_count_173 := Bt_1 (q := 173) tX9_count_172 rfl
theorem dX9_count_173 : decode cX9_count 173 = .ok (.getfield 26, 3) := de_b4 tX9_count_173 (by decide +kernel)
def tX9_count_176 := Bt_3 (q := 176) tX9_count_173 rfl
theorem dX9_count_176 : decode cX9_count 176 = .ok (.getfield 165, 3) := de_b4 tX9_count_176 (by decide +kernel)
def tX9_count_179 := Bt_3 (q := 179) tX9_count_176 rfl
theorem dX9_count_179 : decode cX9_count 179 = .ok (.ireturn, 1) := de_ac tX9_count_179
def tX9_count_180 := Bt_1 (q := 180) tX9_count_179 rfl
theorem dX9_count_180 : decode cX9_count 180 = .ok (.bipush (-9), 2) := de_10 tX9_count_180 (by decide +kernel)
def tX9_count_182 := Bt_2 (q := 182) tX9_count_180 rfl
theorem dX9_count_182 : decode cX9_count 182 = .ok (.ireturn, 1) := de_ac tX9_count_182
def tX9_refuse_0 := Bt_0 cX9_refuse
theorem dX9_refuse_0 : decode cX9_refuse 0 = .ok (.iload_n 1, 1) := de_1b tX9_refuse_0
def tX9_refuse_1 := Bt_1 (q := 1) tX9_refuse_0 rfl
theorem dX9_refuse_1 : decode cX9_refuse 1 = .ok (.ifCond .ge 24, 3) := de_9c tX9_refuse_1 (by decide +kernel)
def tX9_refuse_4 := Bt_3 (q := 4) tX9_refuse_1 rfl
theorem dX9_refuse_4 : decode cX9_refuse 4 = .ok (.iload_n 1, 1) := de_1b tX9_refuse_4
def tX9_refuse_5 := Bt_1 (q := 5) tX9_refuse_4 rfl
theorem dX9_refuse_5 : decode cX9_refuse 5 = .ok (.ineg, 1) := de_74 tX9_refuse_5
def tX9_refuse_6 := Bt_1 (q := 6) tX9_refuse_5 rfl
theorem dX9_refuse_6 : decode cX9_refuse 6 = .ok (.aload_n 0, 1) := de_2a tX9_refuse_6
def tX9_refuse_7 := Bt_1 (q := 7) tX9_refuse_6 rfl
theorem dX9_refuse_7 : decode cX9_refuse 7 = .ok (.getfield 58, 3) := de_b4 tX9_refuse_7 (by decide +kernel)
def tX9_refuse_10 := Bt_3 (q := 10) tX9_refuse_7 rfl
theorem dX9_refuse_10 : decode cX9_refuse 10 = .ok (.arraylength, 1) := de_be tX9_refuse_10
def tX9_refuse_11 := Bt_1 (q := 11) tX9_refuse_10 rfl
theorem dX9_refuse_11 : decode cX9_refuse 11 = .ok (.if_icmp .ge 14, 3) := de_a2 tX9_refuse_11 (by decide +kernel)
def tX9_refuse_14 := Bt_3 (q := 14) tX9_refuse_11 rfl
theorem dX9_refuse_14 : decode cX9_refuse 14 = .ok (.aload_n 0, 1) := de_2a tX9_refuse_14
def tX9_refuse_15 := Bt_1 (q := 15) tX9_refuse_14 rfl
theorem dX9_refuse_15 : decode cX9_refuse 15 = .ok (.getfield 58, 3) := de_b4 tX9_refuse_15 (by decide +kernel)
def tX9_refuse_18 := Bt_3 (q := 18) tX9_refuse_15 rfl
theorem dX9_refuse_18 : decode cX9_refuse 18 = .ok (.iload_n 1, 1) := de_1b tX9_refuse_18
def tX9_refuse_19 := Bt_1 (q := 19) tX9_refuse_18 rfl
theorem dX9_refuse_19 : decode cX9_refuse 19 = .ok (.ineg, 1) := de_74 tX9_refuse_19
def tX9_refuse_20 := Bt_1 (q := 20) tX9_refuse_19 rfl
theorem dX9_refuse_20 : decode cX9_refuse 20 = .ok (.dup2, 1) := de_5c tX9_refuse_20
def tX9_refuse_21 := Bt_1 (q := 21) tX9_refuse_20 rfl
theorem dX9_refuse_21 : decode cX9_refuse 21 = .ok (.iaload, 1) := de_2e tX9_refuse_21
def tX9_refuse_22 := Bt_1 (q := 22) tX9_refuse_21 rfl
theorem dX9_refuse_22 : decode cX9_refuse 22 = .ok (.iconst 1, 1) := de_04 tX9_refuse_22
def tX9_refuse_23 := Bt_1 (q := 23) tX9_refuse_22 rfl
theorem dX9_refuse_23 : decode cX9_refuse 23 = .ok (.iadd, 1) := de_60 tX9_refuse_23
def tX9_refuse_24 := Bt_1 (q := 24) tX9_refuse_23 rfl
theorem dX9_refuse_24 : decode cX9_refuse 24 = .ok (.iastore, 1) := de_4f tX9_refuse_24
def tX9_refuse_25 := Bt_1 (q := 25) tX9_refuse_24 rfl
theorem dX9_refuse_25 : decode cX9_refuse 25 = .ok (.iload_n 1, 1) := de_1b tX9_refuse_25
def tX9_refuse_26 := Bt_1 (q := 26) tX9_refuse_25 rfl
theorem dX9_refuse_26 : decode cX9_refuse 26 = .ok (.ireturn, 1) := de_ac tX9_refuse_26
def tX9_refuseLong_0 := Bt_0 cX9_refuseLong
theorem dX9_refuseLong_0 : decode cX9_refuseLong 0 = .ok (.ldc2_w 349, 3) := de_14 tX9_refuseLong_0 (by decide +kernel)
def tX9_refuseLong_3 := Bt_3 (q := 3) tX9_refuseLong_0 rfl
theorem dX9_refuseLong_3 : decode cX9_refuseLong 3 = .ok (.aload_n 0, 1) := de_2a tX9_refuseLong_3
def tX9_refuseLong_4 := Bt_1 (q := 4) tX9_refuseLong_3 rfl
theorem dX9_refuseLong_4 : decode cX9_refuseLong 4 = .ok (.iload_n 1, 1) := de_1b tX9_refuseLong_4
def tX9_refuseLong_5 := Bt_1 (q := 5) tX9_refuseLong_4 rfl
theorem dX9_refuseLong_5 : decode cX9_refuseLong 5 = .ok (.invokevirtual 62, 3) := de_b6 tX9_refuseLong_5 (by decide +kernel)
def tX9_refuseLong_8 := Bt_3 (q := 8) tX9_refuseLong_5 rfl
theorem dX9_refuseLong_8 : decode cX9_refuseLong 8 = .ok (.i2l, 1) := de_85 tX9_refuseLong_8
def tX9_refuseLong_9 := Bt_1 (q := 9) tX9_refuseLong_8 rfl
theorem dX9_refuseLong_9 : decode cX9_refuseLong 9 = .ok (.lsub, 1) := de_65 tX9_refuseLong_9
def tX9_refuseLong_10 := Bt_1 (q := 10) tX9_refuseLong_9 rfl
theorem dX9_refuseLong_10 : decode cX9_refuseLong 10 = .ok (.lreturn, 1) := de_ad tX9_refuseLong_10
def tX9_inRange_0 := Bt_0 cX9_inRange
theorem dX9_inRange_0 : decode cX9_inRange 0 = .ok (.iload_n 0, 1) := de_1a tX9_inRange_0
def tX9_inRange_1 := Bt_1 (q := 1) tX9_inRange_0 rfl
theorem dX9_inRange_1 : decode cX9_inRange 1 = .ok (.iload_n 1, 1) := de_1b tX9_inRange_1
def tX9_inRange_2 := Bt_1 (q := 2) tX9_inRange_1 rfl
theorem dX9_inRange_2 : decode cX9_inRange 2 = .ok (.if_icmp .ge 6, 3) := de_a2 tX9_inRange_2 (by decide +kernel)
def tX9_inRange_5 := Bt_3 (q := 5) tX9_inRange_2 rfl
theorem dX9_inRange_5 : decode cX9_inRange 5 = .ok (.bipush (-4), 2) := de_10 tX9_inRange_5 (by decide +kernel)
def tX9_inRange_7 := Bt_2 (q := 7) tX9_inRange_5 rfl
theorem dX9_inRange_7 : decode cX9_inRange 7 = .ok (.ireturn, 1) := de_ac tX9_inRange_7
def tX9_inRange_8 := Bt_1 (q := 8) tX9_inRange_7 rfl
theorem dX9_inRange_8 : decode cX9_inRange 8 = .ok (.iload_n 0, 1) := de_1a tX9_inRange_8
def tX9_inRange_9 := Bt_1 (q := 9) tX9_inRange_8 rfl
theorem dX9_inRange_9 : decode cX9_inRange 9 = .ok (.iload_n 2, 1) := de_1c tX9_inRange_9
def tX9_inRange_10 := Bt_1 (q := 10) tX9_inRange_9 rfl
theorem dX9_inRange_10 : decode cX9_inRange 10 = .ok (.if_icmp .le 8, 3) := de_a4 tX9_inRange_10 (by decide +kernel)
def tX9_inRange_13 := Bt_3 (q := 13) tX9_inRange_10 rfl
theorem dX9_inRange_13 : decode cX9_inRange 13 = .ok (.bipush (-6), 2) := de_10 tX9_inRange_13 (by decide +kernel)
def tX9_inRange_15 := Bt_2 (q := 15) tX9_inRange_13 rfl
theorem dX9_inRange_15 : decode cX9_inRange 15 = .ok (.goto 4, 3) := de_a7 tX9_inRange_15 (by decide +kernel)
def tX9_inRange_18 := Bt_3 (q := 18) tX9_inRange_15 rfl
theorem dX9_inRange_18 : decode cX9_inRange 18 = .ok (.iconst 0, 1) := de_03 tX9_inRange_18
def tX9_inRange_19 := Bt_1 (q := 19) tX9_inRange_18 rfl
theorem dX9_inRange_19 : decode cX9_inRange 19 = .ok (.ireturn, 1) := de_ac tX9_inRange_19
def tX9_cell_0 := Bt_0 cX9_cell
theorem dX9_cell_0 : decode cX9_cell 0 = .ok (.iload_n 0, 1) := de_1a tX9_cell_0
def tX9_cell_1 := Bt_1 (q := 1) tX9_cell_0 rfl
theorem dX9_cell_1 : decode cX9_cell 1 = .ok (.bipush 6, 2) := de_10 tX9_cell_1 (by decide +kernel)
def tX9_cell_3 := Bt_2 (q := 3) tX9_cell_1 rfl
theorem dX9_cell_3 : decode cX9_cell 3 = .ok (.imul, 1) := de_68 tX9_cell_3
def tX9_cell_4 := Bt_1 (q := 4) tX9_cell_3 rfl
theorem dX9_cell_4 : decode cX9_cell 4 = .ok (.iload_n 1, 1) := de_1b tX9_cell_4
def tX9_cell_5 := Bt_1 (q := 5) tX9_cell_4 rfl
theorem dX9_cell_5 : decode cX9_cell 5 = .ok (.iadd, 1) := de_60 tX9_cell_5
def tX9_cell_6 := Bt_1 (q := 6) tX9_cell_5 rfl
theorem dX9_cell_6 : decode cX9_cell 6 = .ok (.ireturn, 1) := de_ac tX9_cell_6
def tX9_noBidder_0 := Bt_0 cX9_noBidder
theorem dX9_noBidder_0 : decode cX9_noBidder 0 = .ok (.iload_n 0, 1) := de_1a tX9_noBidder_0
def tX9_noBidder_1 := Bt_1 (q := 1) tX9_noBidder_0 rfl
theorem dX9_noBidder_1 : decode cX9_noBidder 1 = .ok (.ifCond .lt 9, 3) := de_9b tX9_noBidder_1 (by decide +kernel)
def tX9_noBidder_4 := Bt_3 (q := 4) tX9_noBidder_1 rfl
theorem dX9_noBidder_4 : decode cX9_noBidder 4 = .ok (.iload_n 0, 1) := de_1a tX9_noBidder_4
def tX9_noBidder_5 := Bt_1 (q := 5) tX9_noBidder_4 rfl
theorem dX9_noBidder_5 : decode cX9_noBidder 5 = .ok (.bipush 8, 2) := de_10 tX9_noBidder_5 (by decide +kernel)
def tX9_noBidder_7 := Bt_2 (q := 7) tX9_noBidder_5 rfl
theorem dX9_noBidder_7 : decode cX9_noBidder 7 = .ok (.if_icmp .lt 7, 3) := de_a1 tX9_noBidder_7 (by decide +kernel)
def tX9_noBidder_10 := Bt_3 (q := 10) tX9_noBidder_7 rfl
theorem dX9_noBidder_10 : decode cX9_noBidder 10 = .ok (.iconst 1, 1) := de_04 tX9_noBidder_10
def tX9_noBidder_11 := Bt_1 (q := 11) tX9_noBidder_10 rfl
theorem dX9_noBidder_11 : decode cX9_noBidder 11 = .ok (.goto 4, 3) := de_a7 tX9_noBidder_11 (by decide +kernel)
def tX9_noBidder_14 := Bt_3 (q := 14) tX9_noBidder_11 rfl
theorem dX9_noBidder_14 : decode cX9_noBidder 14 = .ok (.iconst 0, 1) := de_03 tX9_noBidder_14
def tX9_noBidder_15 := Bt_1 (q := 15) tX9_noBidder_14 rfl
theorem dX9_noBidder_15 : decode cX9_noBidder 15 = .ok (.ireturn, 1) := de_ac tX9_noBidder_15
def tX9_noScorer_0 := Bt_0 cX9_noScorer
theorem dX9_noScorer_0 : decode cX9_noScorer 0 = .ok (.iload_n 0, 1) := de_1a tX9_noScorer_0
def tX9_noScorer_1 := Bt_1 (q := 1) tX9_noScorer_0 rfl
theorem dX9_noScorer_1 : decode cX9_noScorer 1 = .ok (.ifCond .lt 9, 3) := de_9b tX9_noScorer_1 (by decide +kernel)
def tX9_noScorer_4 := Bt_3 (q := 4) tX9_noScorer_1 rfl
theorem dX9_noScorer_4 : decode cX9_noScorer 4 = .ok (.iload_n 0, 1) := de_1a tX9_noScorer_4
def tX9_noScorer_5 := Bt_1 (q := 5) tX9_noScorer_4 rfl
theorem dX9_noScorer_5 : decode cX9_noScorer 5 = .ok (.bipush 6, 2) := de_10 tX9_noScorer_5 (by decide +kernel)
def tX9_noScorer_7 := Bt_2 (q := 7) tX9_noScorer_5 rfl
theorem dX9_noScorer_7 : decode cX9_noScorer 7 = .ok (.if_icmp .lt 7, 3) := de_a1 tX9_noScorer_7 (by decide +kernel)
def tX9_noScorer_10 := Bt_3 (q := 10) tX9_noScorer_7 rfl
theorem dX9_noScorer_10 : decode cX9_noScorer 10 = .ok (.iconst 1, 1) := de_04 tX9_noScorer_10
def tX9_noScorer_11 := Bt_1 (q := 11) tX9_noScorer_10 rfl
theorem dX9_noScorer_11 : decode cX9_noScorer 11 = .ok (.goto 4, 3) := de_a7 tX9_noScorer_11 (by decide +kernel)
def tX9_noScorer_14 := Bt_3 (q := 14) tX9_noScorer_11 rfl
theorem dX9_noScorer_14 : decode cX9_noScorer 14 = .ok (.iconst 0, 1) := de_03 tX9_noScorer_14
def tX9_noScorer_15 := Bt_1 (q := 15) tX9_noScorer_14 rfl
theorem dX9_noScorer_15 : decode cX9_noScorer 15 = .ok (.ireturn, 1) := de_ac tX9_noScorer_15
def tX9_noPart_0 := Bt_0 cX9_noPart
theorem dX9_noPart_0 : decode cX9_noPart 0 = .ok (.iload_n 0, 1) := de_1a tX9_noPart_0
def tX9_noPart_1 := Bt_1 (q := 1) tX9_noPart_0 rfl
theorem dX9_noPart_1 : decode cX9_noPart 1 = .ok (.ifCond .lt 8, 3) := de_9b tX9_noPart_1 (by decide +kernel)
def tX9_noPart_4 := Bt_3 (q := 4) tX9_noPart_1 rfl
theorem dX9_noPart_4 : decode cX9_noPart 4 = .ok (.iload_n 0, 1) := de_1a tX9_noPart_4
def tX9_noPart_5 := Bt_1 (q := 5) tX9_noPart_4 rfl
theorem dX9_noPart_5 : decode cX9_noPart 5 = .ok (.iconst 1, 1) := de_04 tX9_noPart_5
def tX9_noPart_6 := Bt_1 (q := 6) tX9_noPart_5 rfl
theorem dX9_noPart_6 : decode cX9_noPart 6 = .ok (.if_icmp .le 7, 3) := de_a4 tX9_noPart_6 (by decide +kernel)
def tX9_noPart_9 := Bt_3 (q := 9) tX9_noPart_6 rfl
theorem dX9_noPart_9 : decode cX9_noPart 9 = .ok (.iconst 1, 1) := de_04 tX9_noPart_9
def tX9_noPart_10 := Bt_1 (q := 10) tX9_noPart_9 rfl
theorem dX9_noPart_10 : decode cX9_noPart 10 = .ok (.goto 4, 3) := de_a7 tX9_noPart_10 (by decide +kernel)
def tX9_noPart_13 := Bt_3 (q := 13) tX9_noPart_10 rfl
theorem dX9_noPart_13 : decode cX9_noPart 13 = .ok (.iconst 0, 1) := de_03 tX9_noPart_13
def tX9_noPart_14 := Bt_1 (q := 14) tX9_noPart_13 rfl
theorem dX9_noPart_14 : decode cX9_noPart 14 = .ok (.ireturn, 1) := de_ac tX9_noPart_14
def tX9_noLot_0 := Bt_0 cX9_noLot
theorem dX9_noLot_0 : decode cX9_noLot 0 = .ok (.iload_n 1, 1) := de_1b tX9_noLot_0
def tX9_noLot_1 := Bt_1 (q := 1) tX9_noLot_0 rfl
theorem dX9_noLot_1 : decode cX9_noLot 1 = .ok (.ifCond .lt 14, 3) := de_9b tX9_noLot_1 (by decide +kernel)
def tX9_noLot_4 := Bt_3 (q := 4) tX9_noLot_1 rfl
theorem dX9_noLot_4 : decode cX9_noLot 4 = .ok (.iload_n 1, 1) := de_1b tX9_noLot_4
def tX9_noLot_5 := Bt_1 (q := 5) tX9_noLot_4 rfl
theorem dX9_noLot_5 : decode cX9_noLot 5 = .ok (.aload_n 0, 1) := de_2a tX9_noLot_5
def tX9_noLot_6 := Bt_1 (q := 6) tX9_noLot_5 rfl
theorem dX9_noLot_6 : decode cX9_noLot 6 = .ok (.getfield 12, 3) := de_b4 tX9_noLot_6 (by decide +kernel)
def tX9_noLot_9 := Bt_3 (q := 9) tX9_noLot_6 rfl
theorem dX9_noLot_9 : decode cX9_noLot 9 = .ok (.getfield 83, 3) := de_b4 tX9_noLot_9 (by decide +kernel)
def tX9_noLot_12 := Bt_3 (q := 12) tX9_noLot_9 rfl
theorem dX9_noLot_12 : decode cX9_noLot 12 = .ok (.if_icmp .lt 7, 3) := de_a1 tX9_noLot_12 (by decide +kernel)
def tX9_noLot_15 := Bt_3 (q := 15) tX9_noLot_12 rfl
theorem dX9_noLot_15 : decode cX9_noLot 15 = .ok (.iconst 1, 1) := de_04 tX9_noLot_15
def tX9_noLot_16 := Bt_1 (q := 16) tX9_noLot_15 rfl
theorem dX9_noLot_16 : decode cX9_noLot 16 = .ok (.goto 4, 3) := de_a7 tX9_noLot_16 (by decide +kernel)
def tX9_noLot_19 := Bt_3 (q := 19) tX9_noLot_16 rfl
theorem dX9_noLot_19 : decode cX9_noLot 19 = .ok (.iconst 0, 1) := de_03 tX9_noLot_19
def tX9_noLot_20 := Bt_1 (q := 20) tX9_noLot_19 rfl
theorem dX9_noLot_20 : decode cX9_noLot 20 = .ok (.ireturn, 1) := de_ac tX9_noLot_20
def tX9_noBid_0 := Bt_0 cX9_noBid
theorem dX9_noBid_0 : decode cX9_noBid 0 = .ok (.iload_n 1, 1) := de_1b tX9_noBid_0
def tX9_noBid_1 := Bt_1 (q := 1) tX9_noBid_0 rfl
theorem dX9_noBid_1 : decode cX9_noBid 1 = .ok (.invokestatic 144, 3) := de_b8 tX9_noBid_1 (by decide +kernel)
def tX9_noBid_4 := Bt_3 (q := 4) tX9_noBid_1 rfl
theorem dX9_noBid_4 : decode cX9_noBid 4 = .ok (.ifCond .ne 11, 3) := de_9a tX9_noBid_4 (by decide +kernel)
def tX9_noBid_7 := Bt_3 (q := 7) tX9_noBid_4 rfl
theorem dX9_noBid_7 : decode cX9_noBid 7 = .ok (.aload_n 0, 1) := de_2a tX9_noBid_7
def tX9_noBid_8 := Bt_1 (q := 8) tX9_noBid_7 rfl
theorem dX9_noBid_8 : decode cX9_noBid 8 = .ok (.iload_n 2, 1) := de_1c tX9_noBid_8
def tX9_noBid_9 := Bt_1 (q := 9) tX9_noBid_8 rfl
theorem dX9_noBid_9 : decode cX9_noBid 9 = .ok (.invokevirtual 193, 3) := de_b6 tX9_noBid_9 (by decide +kernel)
def tX9_noBid_12 := Bt_3 (q := 12) tX9_noBid_9 rfl
theorem dX9_noBid_12 : decode cX9_noBid 12 = .ok (.ifCond .eq 7, 3) := de_99 tX9_noBid_12 (by decide +kernel)
def tX9_noBid_15 := Bt_3 (q := 15) tX9_noBid_12 rfl
theorem dX9_noBid_15 : decode cX9_noBid 15 = .ok (.iconst 1, 1) := de_04 tX9_noBid_15
def tX9_noBid_16 := Bt_1 (q := 16) tX9_noBid_15 rfl
theorem dX9_noBid_16 : decode cX9_noBid 16 = .ok (.goto 4, 3) := de_a7 tX9_noBid_16 (by decide +kernel)
def tX9_noBid_19 := Bt_3 (q := 19) tX9_noBid_16 rfl
theorem dX9_noBid_19 : decode cX9_noBid 19 = .ok (.iconst 0, 1) := de_03 tX9_noBid_19
def tX9_noBid_20 := Bt_1 (q := 20) tX9_noBid_19 rfl
theorem dX9_noBid_20 : decode cX9_noBid 20 = .ok (.ireturn, 1) := de_ac tX9_noBid_20
def tX9_noPair_0 := Bt_0 cX9_noPair
theorem dX9_noPair_0 : decode cX9_noPair 0 = .ok (.aload_n 0, 1) := de_2a tX9_noPair_0
def tX9_noPair_1 := Bt_1 (q := 1) tX9_noPair_0 rfl
theorem dX9_noPair_1 : decode cX9_noPair 1 = .ok (.iload_n 1, 1) := de_1b tX9_noPair_1
def tX9_noPair_2 := Bt_1 (q := 2) tX9_noPair_1 rfl
theorem dX9_noPair_2 : decode cX9_noPair 2 = .ok (.invokevirtual 193, 3) := de_b6 tX9_noPair_2 (by decide +kernel)
def tX9_noPair_5 := Bt_3 (q := 5) tX9_noPair_2 rfl
theorem dX9_noPair_5 : decode cX9_noPair 5 = .ok (.ifCond .ne 22, 3) := de_9a tX9_noPair_5 (by decide +kernel)
def tX9_noPair_8 := Bt_3 (q := 8) tX9_noPair_5 rfl
theorem dX9_noPair_8 : decode cX9_noPair 8 = .ok (.iload_n 2, 1) := de_1c tX9_noPair_8
def tX9_noPair_9 := Bt_1 (q := 9) tX9_noPair_8 rfl
theorem dX9_noPair_9 : decode cX9_noPair 9 = .ok (.invokestatic 144, 3) := de_b8 tX9_noPair_9 (by decide +kernel)
def tX9_noPair_12 := Bt_3 (q := 12) tX9_noPair_9 rfl
theorem dX9_noPair_12 : decode cX9_noPair 12 = .ok (.ifCond .ne 15, 3) := de_9a tX9_noPair_12 (by decide +kernel)
def tX9_noPair_15 := Bt_3 (q := 15) tX9_noPair_12 rfl
theorem dX9_noPair_15 : decode cX9_noPair 15 = .ok (.iload_n 3, 1) := de_1d tX9_noPair_15
def tX9_noPair_16 := Bt_1 (q := 16) tX9_noPair_15 rfl
theorem dX9_noPair_16 : decode cX9_noPair 16 = .ok (.invokestatic 144, 3) := de_b8 tX9_noPair_16 (by decide +kernel)
def tX9_noPair_19 := Bt_3 (q := 19) tX9_noPair_16 rfl
theorem dX9_noPair_19 : decode cX9_noPair 19 = .ok (.ifCond .ne 8, 3) := de_9a tX9_noPair_19 (by decide +kernel)
def tX9_noPair_22 := Bt_3 (q := 22) tX9_noPair_19 rfl
theorem dX9_noPair_22 : decode cX9_noPair 22 = .ok (.iload_n 2, 1) := de_1c tX9_noPair_22
def tX9_noPair_23 := Bt_1 (q := 23) tX9_noPair_22 rfl
theorem dX9_noPair_23 : decode cX9_noPair 23 = .ok (.iload_n 3, 1) := de_1d tX9_noPair_23
def tX9_noPair_24 := Bt_1 (q := 24) tX9_noPair_23 rfl
theorem dX9_noPair_24 : decode cX9_noPair 24 = .ok (.if_icmp .ne 7, 3) := de_a0 tX9_noPair_24 (by decide +kernel)
def tX9_noPair_27 := Bt_3 (q := 27) tX9_noPair_24 rfl
theorem dX9_noPair_27 : decode cX9_noPair 27 = .ok (.iconst 1, 1) := de_04 tX9_noPair_27
def tX9_noPair_28 := Bt_1 (q := 28) tX9_noPair_27 rfl
theorem dX9_noPair_28 : decode cX9_noPair 28 = .ok (.goto 4, 3) := de_a7 tX9_noPair_28 (by decide +kernel)
def tX9_noPair_31 := Bt_3 (q := 31) tX9_noPair_28 rfl
theorem dX9_noPair_31 : decode cX9_noPair 31 = .ok (.iconst 0, 1) := de_03 tX9_noPair_31
def tX9_noPair_32 := Bt_1 (q := 32) tX9_noPair_31 rfl
theorem dX9_noPair_32 : decode cX9_noPair 32 = .ok (.ireturn, 1) := de_ac tX9_noPair_32
def tX9_workPair_0 := Bt_0 cX9_workPair
theorem dX9_workPair_0 : decode cX9_workPair 0 = .ok (.aload_n 0, 1) := de_2a tX9_workPair_0
def tX9_workPair_1 := Bt_1 (q := 1) tX9_workPair_0 rfl
theorem dX9_workPair_1 : decode cX9_workPair 1 = .ok (.getfield 33, 3) := de_b4 tX9_workPair_1 (by decide +kernel)
def tX9_workPair_4 := Bt_3 (q := 4) tX9_workPair_1 rfl
theorem dX9_workPair_4 : decode cX9_workPair 4 = .ok (.aload_n 0, 1) := de_2a tX9_workPair_4
def tX9_workPair_5 := Bt_1 (q := 5) tX9_workPair_4 rfl
theorem dX9_workPair_5 : decode cX9_workPair 5 = .ok (.getfield 12, 3) := de_b4 tX9_workPair_5 (by decide +kernel)
def tX9_workPair_8 := Bt_3 (q := 8) tX9_workPair_5 rfl
theorem dX9_workPair_8 : decode cX9_workPair 8 = .ok (.aload_n 0, 1) := de_2a tX9_workPair_8
def tX9_workPair_9 := Bt_1 (q := 9) tX9_workPair_8 rfl
theorem dX9_workPair_9 : decode cX9_workPair 9 = .ok (.getfield 19, 3) := de_b4 tX9_workPair_9 (by decide +kernel)
def tX9_workPair_12 := Bt_3 (q := 12) tX9_workPair_9 rfl
theorem dX9_workPair_12 : decode cX9_workPair 12 = .ok (.iload_n 1, 1) := de_1b tX9_workPair_12
def tX9_workPair_13 := Bt_1 (q := 13) tX9_workPair_12 rfl
theorem dX9_workPair_13 : decode cX9_workPair 13 = .ok (.iload 4, 2) := de_15 tX9_workPair_13 (by decide +kernel)
def tX9_workPair_15 := Bt_2 (q := 15) tX9_workPair_13 rfl
theorem dX9_workPair_15 : decode cX9_workPair 15 = .ok (.invokevirtual 154, 3) := de_b6 tX9_workPair_15 (by decide +kernel)
def tX9_workPair_18 := Bt_3 (q := 18) tX9_workPair_15 rfl
theorem dX9_workPair_18 : decode cX9_workPair 18 = .ok (.aload_n 0, 1) := de_2a tX9_workPair_18
def tX9_workPair_19 := Bt_1 (q := 19) tX9_workPair_18 rfl
theorem dX9_workPair_19 : decode cX9_workPair 19 = .ok (.getfield 33, 3) := de_b4 tX9_workPair_19 (by decide +kernel)
def tX9_workPair_22 := Bt_3 (q := 22) tX9_workPair_19 rfl
theorem dX9_workPair_22 : decode cX9_workPair 22 = .ok (.aload_n 0, 1) := de_2a tX9_workPair_22
def tX9_workPair_23 := Bt_1 (q := 23) tX9_workPair_22 rfl
theorem dX9_workPair_23 : decode cX9_workPair 23 = .ok (.getfield 26, 3) := de_b4 tX9_workPair_23 (by decide +kernel)
def tX9_workPair_26 := Bt_3 (q := 26) tX9_workPair_23 rfl
theorem dX9_workPair_26 : decode cX9_workPair 26 = .ok (.iload_n 2, 1) := de_1c tX9_workPair_26
def tX9_workPair_27 := Bt_1 (q := 27) tX9_workPair_26 rfl
theorem dX9_workPair_27 : decode cX9_workPair 27 = .ok (.invokevirtual 180, 3) := de_b6 tX9_workPair_27 (by decide +kernel)
def tX9_workPair_30 := Bt_3 (q := 30) tX9_workPair_27 rfl
theorem dX9_workPair_30 : decode cX9_workPair 30 = .ok (.aload_n 0, 1) := de_2a tX9_workPair_30
def tX9_workPair_31 := Bt_1 (q := 31) tX9_workPair_30 rfl
theorem dX9_workPair_31 : decode cX9_workPair 31 = .ok (.getfield 33, 3) := de_b4 tX9_workPair_31 (by decide +kernel)
def tX9_workPair_34 := Bt_3 (q := 34) tX9_workPair_31 rfl
theorem dX9_workPair_34 : decode cX9_workPair 34 = .ok (.aload_n 0, 1) := de_2a tX9_workPair_34
def tX9_workPair_35 := Bt_1 (q := 35) tX9_workPair_34 rfl
theorem dX9_workPair_35 : decode cX9_workPair 35 = .ok (.getfield 26, 3) := de_b4 tX9_workPair_35 (by decide +kernel)
def tX9_workPair_38 := Bt_3 (q := 38) tX9_workPair_35 rfl
theorem dX9_workPair_38 : decode cX9_workPair 38 = .ok (.iload_n 3, 1) := de_1d tX9_workPair_38
def tX9_workPair_39 := Bt_1 (q := 39) tX9_workPair_38 rfl
theorem dX9_workPair_39 : decode cX9_workPair 39 = .ok (.invokevirtual 180, 3) := de_b6 tX9_workPair_39 (by decide +kernel)
def tX9_workPair_42 := Bt_3 (q := 42) tX9_workPair_39 rfl
theorem dX9_workPair_42 : decode cX9_workPair 42 = .ok (.return_, 1) := de_b1 tX9_workPair_42
def tX9_findBest_0 := Bt_0 cX9_findBest
theorem dX9_findBest_0 : decode cX9_findBest 0 = .ok (.aload_n 0, 1) := de_2a tX9_findBest_0
def tX9_findBest_1 := Bt_1 (q := 1) tX9_findBest_0 rfl
theorem dX9_findBest_1 : decode cX9_findBest 1 = .ok (.getfield 40, 3) := de_b4 tX9_findBest_1 (by decide +kernel)
def tX9_findBest_4 := Bt_3 (q := 4) tX9_findBest_1 rfl
theorem dX9_findBest_4 : decode cX9_findBest 4 = .ok (.invokevirtual 351, 3) := de_b6 tX9_findBest_4 (by decide +kernel)
def tX9_findBest_7 := Bt_3 (q := 7) tX9_findBest_4 rfl
theorem dX9_findBest_7 : decode cX9_findBest 7 = .ok (.iconst 0, 1) := de_03 tX9_findBest_7
def tX9_findBest_8 := Bt_1 (q := 8) tX9_findBest_7 rfl
theorem dX9_findBest_8 : decode cX9_findBest 8 = .ok (.istore_n 1, 1) := de_3c tX9_findBest_8
def tX9_findBest_9 := Bt_1 (q := 9) tX9_findBest_8 rfl
theorem dX9_findBest_9 : decode cX9_findBest 9 = .ok (.iload_n 1, 1) := de_1b tX9_findBest_9
def tX9_findBest_10 := Bt_1 (q := 10) tX9_findBest_9 rfl
theorem dX9_findBest_10 : decode cX9_findBest 10 = .ok (.aload_n 0, 1) := de_2a tX9_findBest_10
def tX9_findBest_11 := Bt_1 (q := 11) tX9_findBest_10 rfl
theorem dX9_findBest_11 : decode cX9_findBest 11 = .ok (.getfield 12, 3) := de_b4 tX9_findBest_11 (by decide +kernel)
def tX9_findBest_14 := Bt_3 (q := 14) tX9_findBest_11 rfl
theorem dX9_findBest_14 : decode cX9_findBest 14 = .ok (.getfield 83, 3) := de_b4 tX9_findBest_14 (by decide +kernel)
def tX9_findBest_17 := Bt_3 (q := 17) tX9_findBest_14 rfl
theorem dX9_findBest_17 : decode cX9_findBest 17 = .ok (.if_icmp .ge 85, 3) := de_a2 tX9_findBest_17 (by decide +kernel)
def tX9_findBest_20 := Bt_3 (q := 20) tX9_findBest_17 rfl
theorem dX9_findBest_20 : decode cX9_findBest 20 = .ok (.aload_n 0, 1) := de_2a tX9_findBest_20
def tX9_findBest_21 := Bt_1 (q := 21) tX9_findBest_20 rfl
theorem dX9_findBest_21 : decode cX9_findBest 21 = .ok (.getfield 33, 3) := de_b4 tX9_findBest_21 (by decide +kernel)
def tX9_findBest_24 := Bt_3 (q := 24) tX9_findBest_21 rfl
theorem dX9_findBest_24 : decode cX9_findBest 24 = .ok (.aload_n 0, 1) := de_2a tX9_findBest_24
def tX9_findBest_25 := Bt_1 (q := 25) tX9_findBest_24 rfl
theorem dX9_findBest_25 : decode cX9_findBest 25 = .ok (.getfield 12, 3) := de_b4 tX9_findBest_25 (by decide +kernel)
def tX9_findBest_28 := Bt_3 (q := 28) tX9_findBest_25 rfl
theorem dX9_findBest_28 : decode cX9_findBest 28 = .ok (.aload_n 0, 1) := de_2a tX9_findBest_28
def tX9_findBest_29 := Bt_1 (q := 29) tX9_findBest_28 rfl
theorem dX9_findBest_29 : decode cX9_findBest 29 = .ok (.getfield 19, 3) := de_b4 tX9_findBest_29 (by decide +kernel)
def tX9_findBest_32 := Bt_3 (q := 32) tX9_findBest_29 rfl
theorem dX9_findBest_32 : decode cX9_findBest 32 = .ok (.iload_n 1, 1) := de_1b tX9_findBest_32
def tX9_findBest_33 := Bt_1 (q := 33) tX9_findBest_32 rfl
theorem dX9_findBest_33 : decode cX9_findBest 33 = .ok (.iconst (-1), 1) := de_02 tX9_findBest_33
def tX9_findBest_34 := Bt_1 (q := 34) tX9_findBest_33 rfl
theorem dX9_findBest_34 : decode cX9_findBest 34 = .ok (.invokevirtual 154, 3) := de_b6 tX9_findBest_34 (by decide +kernel)
def tX9_findBest_37 := Bt_3 (q := 37) tX9_findBest_34 rfl
theorem dX9_findBest_37 : decode cX9_findBest 37 = .ok (.aload_n 0, 1) := de_2a tX9_findBest_37
def tX9_findBest_38 := Bt_1 (q := 38) tX9_findBest_37 rfl
theorem dX9_findBest_38 : decode cX9_findBest 38 = .ok (.getfield 33, 3) := de_b4 tX9_findBest_38 (by decide +kernel)
def tX9_findBest_41 := Bt_3 (q := 41) tX9_findBest_38 rfl
theorem dX9_findBest_41 : decode cX9_findBest 41 = .ok (.aload_n 0, 1) := de_2a tX9_findBest_41
def tX9_findBest_42 := Bt_1 (q := 42) tX9_findBest_41 rfl
theorem dX9_findBest_42 : decode cX9_findBest 42 = .ok (.getfield 26, 3) := de_b4 tX9_findBest_42 (by decide +kernel)
def tX9_findBest_45 := Bt_3 (q := 45) tX9_findBest_42 rfl
theorem dX9_findBest_45 : decode cX9_findBest 45 = .ok (.invokevirtual 196, 3) := de_b6 tX9_findBest_45 (by decide +kernel)
def tX9_findBest_48 := Bt_3 (q := 48) tX9_findBest_45 rfl
theorem dX9_findBest_48 : decode cX9_findBest 48 = .ok (.iconst 0, 1) := de_03 tX9_findBest_48
def tX9_findBest_49 := Bt_1 (q := 49) tX9_findBest_48 rfl
theorem dX9_findBest_49 : decode cX9_findBest 49 = .ok (.istore_n 2, 1) := de_3d tX9_findBest_49
def tX9_findBest_50 := Bt_1 (q := 50) tX9_findBest_49 rfl
theorem dX9_findBest_50 : decode cX9_findBest 50 = .ok (.iload_n 2, 1) := de_1c tX9_findBest_50
def tX9_findBest_51 := Bt_1 (q := 51) tX9_findBest_50 rfl
theorem dX9_findBest_51 : decode cX9_findBest 51 = .ok (.aload_n 0, 1) := de_2a tX9_findBest_51
def tX9_findBest_52 := Bt_1 (q := 52) tX9_findBest_51 rfl
theorem dX9_findBest_52 : decode cX9_findBest 52 = .ok (.getfield 33, 3) := de_b4 tX9_findBest_52 (by decide +kernel)
def tX9_findBest_55 := Bt_3 (q := 55) tX9_findBest_52 rfl
theorem dX9_findBest_55 : decode cX9_findBest 55 = .ok (.getfield 200, 3) := de_b4 tX9_findBest_55 (by decide +kernel)
def tX9_findBest_58 := Bt_3 (q := 58) tX9_findBest_55 rfl
theorem dX9_findBest_58 : decode cX9_findBest 58 = .ok (.if_icmp .ge 38, 3) := de_a2 tX9_findBest_58 (by decide +kernel)
def tX9_findBest_61 := Bt_3 (q := 61) tX9_findBest_58 rfl
theorem dX9_findBest_61 : decode cX9_findBest 61 = .ok (.aload_n 0, 1) := de_2a tX9_findBest_61
def tX9_findBest_62 := Bt_1 (q := 62) tX9_findBest_61 rfl
theorem dX9_findBest_62 : decode cX9_findBest 62 = .ok (.getfield 33, 3) := de_b4 tX9_findBest_62 (by decide +kernel)
def tX9_findBest_65 := Bt_3 (q := 65) tX9_findBest_62 rfl
theorem dX9_findBest_65 : decode cX9_findBest 65 = .ok (.getfield 203, 3) := de_b4 tX9_findBest_65 (by decide +kernel)
def tX9_findBest_68 := Bt_3 (q := 68) tX9_findBest_65 rfl
theorem dX9_findBest_68 : decode cX9_findBest 68 = .ok (.iload_n 2, 1) := de_1c tX9_findBest_68
def tX9_findBest_69 := Bt_1 (q := 69) tX9_findBest_68 rfl
theorem dX9_findBest_69 : decode cX9_findBest 69 = .ok (.iaload, 1) := de_2e tX9_findBest_69
def tX9_findBest_70 := Bt_1 (q := 70) tX9_findBest_69 rfl
theorem dX9_findBest_70 : decode cX9_findBest 70 = .ok (.istore_n 3, 1) := de_3e tX9_findBest_70
def tX9_findBest_71 := Bt_1 (q := 71) tX9_findBest_70 rfl
theorem dX9_findBest_71 : decode cX9_findBest 71 = .ok (.aload_n 0, 1) := de_2a tX9_findBest_71
def tX9_findBest_72 := Bt_1 (q := 72) tX9_findBest_71 rfl
theorem dX9_findBest_72 : decode cX9_findBest 72 = .ok (.getfield 40, 3) := de_b4 tX9_findBest_72 (by decide +kernel)
def tX9_findBest_75 := Bt_3 (q := 75) tX9_findBest_72 rfl
theorem dX9_findBest_75 : decode cX9_findBest 75 = .ok (.iload_n 1, 1) := de_1b tX9_findBest_75
def tX9_findBest_76 := Bt_1 (q := 76) tX9_findBest_75 rfl
theorem dX9_findBest_76 : decode cX9_findBest 76 = .ok (.iload_n 3, 1) := de_1d tX9_findBest_76
def tX9_findBest_77 := Bt_1 (q := 77) tX9_findBest_76 rfl
theorem dX9_findBest_77 : decode cX9_findBest 77 = .ok (.iload_n 2, 1) := de_1c tX9_findBest_77
def tX9_findBest_78 := Bt_1 (q := 78) tX9_findBest_77 rfl
theorem dX9_findBest_78 : decode cX9_findBest 78 = .ok (.aload_n 0, 1) := de_2a tX9_findBest_78
def tX9_findBest_79 := Bt_1 (q := 79) tX9_findBest_78 rfl
theorem dX9_findBest_79 : decode cX9_findBest 79 = .ok (.getfield 33, 3) := de_b4 tX9_findBest_79 (by decide +kernel)
def tX9_findBest_82 := Bt_3 (q := 82) tX9_findBest_79 rfl
theorem dX9_findBest_82 : decode cX9_findBest 82 = .ok (.getfield 354, 3) := de_b4 tX9_findBest_82 (by decide +kernel)
def tX9_findBest_85 := Bt_3 (q := 85) tX9_findBest_82 rfl
theorem dX9_findBest_85 : decode cX9_findBest 85 = .ok (.iload_n 3, 1) := de_1d tX9_findBest_85
def tX9_findBest_86 := Bt_1 (q := 86) tX9_findBest_85 rfl
theorem dX9_findBest_86 : decode cX9_findBest 86 = .ok (.iaload, 1) := de_2e tX9_findBest_86
def tX9_findBest_87 := Bt_1 (q := 87) tX9_findBest_86 rfl
theorem dX9_findBest_87 : decode cX9_findBest 87 = .ok (.invokevirtual 357, 3) := de_b6 tX9_findBest_87 (by decide +kernel)
def tX9_findBest_90 := Bt_3 (q := 90) tX9_findBest_87 rfl
theorem dX9_findBest_90 : decode cX9_findBest 90 = .ok (.iinc 2 1, 3) := de_84 tX9_findBest_90 (by decide +kernel) (by decide +kernel)
def tX9_findBest_93 := Bt_3 (q := 93) tX9_findBest_90 rfl
theorem dX9_findBest_93 : decode cX9_findBest 93 = .ok (.goto (-43), 3) := de_a7 tX9_findBest_93 (by decide +kernel)
def tX9_findBest_96 := Bt_3 (q := 96) tX9_findBest_93 rfl
theorem dX9_findBest_96 : decode cX9_findBest 96 = .ok (.iinc 1 1, 3) := de_84 tX9_findBest_96 (by decide +kernel) (by decide +kernel)
def tX9_findBest_99 := Bt_3 (q := 99) tX9_findBest_96 rfl
theorem dX9_findBest_99 : decode cX9_findBest 99 = .ok (.goto (-90), 3) := de_a7 tX9_findBest_99 (by decide +kernel)
def tX9_findBest_102 := Bt_3 (q := 102) tX9_findBest_99 rfl
theorem dX9_findBest_102 : decode cX9_findBest 102 = .ok (.aload_n 0, 1) := de_2a tX9_findBest_102
def tX9_findBest_103 := Bt_1 (q := 103) tX9_findBest_102 rfl
theorem dX9_findBest_103 : decode cX9_findBest 103 = .ok (.getfield 40, 3) := de_b4 tX9_findBest_103 (by decide +kernel)
def tX9_findBest_106 := Bt_3 (q := 106) tX9_findBest_103 rfl
theorem dX9_findBest_106 : decode cX9_findBest 106 = .ok (.aload_n 0, 1) := de_2a tX9_findBest_106
def tX9_findBest_107 := Bt_1 (q := 107) tX9_findBest_106 rfl
theorem dX9_findBest_107 : decode cX9_findBest 107 = .ok (.getfield 12, 3) := de_b4 tX9_findBest_107 (by decide +kernel)
def tX9_findBest_110 := Bt_3 (q := 110) tX9_findBest_107 rfl
theorem dX9_findBest_110 : decode cX9_findBest 110 = .ok (.getfield 83, 3) := de_b4 tX9_findBest_110 (by decide +kernel)
def tX9_findBest_113 := Bt_3 (q := 113) tX9_findBest_110 rfl
theorem dX9_findBest_113 : decode cX9_findBest 113 = .ok (.invokevirtual 360, 3) := de_b6 tX9_findBest_113 (by decide +kernel)
def tX9_findBest_116 := Bt_3 (q := 116) tX9_findBest_113 rfl
theorem dX9_findBest_116 : decode cX9_findBest 116 = .ok (.return_, 1) := de_b1 tX9_findBest_116
def tX9_makeAnew_0 := Bt_0 cX9_makeAnew
theorem dX9_makeAnew_0 : decode cX9_makeAnew 0 = .ok (.iload_n 2, 1) := de_1c tX9_makeAnew_0
def tX9_makeAnew_1 := Bt_1 (q := 1) tX9_makeAnew_0 rfl
theorem dX9_makeAnew_1 : decode cX9_makeAnew 1 = .ok (.ifCond .ne 11, 3) := de_9a tX9_makeAnew_1 (by decide +kernel)
def tX9_makeAnew_4 := Bt_3 (q := 4) tX9_makeAnew_1 rfl
theorem dX9_makeAnew_4 : decode cX9_makeAnew 4 = .ok (.aload_n 0, 1) := de_2a tX9_makeAnew_4
def tX9_makeAnew_5 := Bt_1 (q := 5) tX9_makeAnew_4 rfl
theorem dX9_makeAnew_5 : decode cX9_makeAnew 5 = .ok (.getfield 26, 3) := de_b4 tX9_makeAnew_5 (by decide +kernel)
def tX9_makeAnew_8 := Bt_3 (q := 8) tX9_makeAnew_5 rfl
theorem dX9_makeAnew_8 : decode cX9_makeAnew 8 = .ok (.invokevirtual 363, 3) := de_b6 tX9_makeAnew_8 (by decide +kernel)
def tX9_makeAnew_11 := Bt_3 (q := 11) tX9_makeAnew_8 rfl
theorem dX9_makeAnew_11 : decode cX9_makeAnew 11 = .ok (.return_, 1) := de_b1 tX9_makeAnew_11
def tX9_makeAnew_12 := Bt_1 (q := 12) tX9_makeAnew_11 rfl
theorem dX9_makeAnew_12 : decode cX9_makeAnew 12 = .ok (.aload_n 0, 1) := de_2a tX9_makeAnew_12
def tX9_makeAnew_13 := Bt_1 (q := 13) tX9_makeAnew_12 rfl
theorem dX9_makeAnew_13 : decode cX9_makeAnew 13 = .ok (.getfield 19, 3) := de_b4 tX9_makeAnew_13 (by decide +kernel)
def tX9_makeAnew_16 := Bt_3 (q := 16) tX9_makeAnew_13 rfl
theorem dX9_makeAnew_16 : decode cX9_makeAnew 16 = .ok (.iload_n 1, 1) := de_1b tX9_makeAnew_16
def tX9_makeAnew_17 := Bt_1 (q := 17) tX9_makeAnew_16 rfl
theorem dX9_makeAnew_17 : decode cX9_makeAnew 17 = .ok (.invokevirtual 366, 3) := de_b6 tX9_makeAnew_17 (by decide +kernel)
def tX9_makeAnew_20 := Bt_3 (q := 20) tX9_makeAnew_17 rfl
theorem dX9_makeAnew_20 : decode cX9_makeAnew 20 = .ok (.iload_n 2, 1) := de_1c tX9_makeAnew_20
def tX9_makeAnew_21 := Bt_1 (q := 21) tX9_makeAnew_20 rfl
theorem dX9_makeAnew_21 : decode cX9_makeAnew 21 = .ok (.iconst 2, 1) := de_05 tX9_makeAnew_21
def tX9_makeAnew_22 := Bt_1 (q := 22) tX9_makeAnew_21 rfl
theorem dX9_makeAnew_22 : decode cX9_makeAnew 22 = .ok (.if_icmp .ne 11, 3) := de_a0 tX9_makeAnew_22 (by decide +kernel)
def tX9_makeAnew_25 := Bt_3 (q := 25) tX9_makeAnew_22 rfl
theorem dX9_makeAnew_25 : decode cX9_makeAnew 25 = .ok (.aload_n 0, 1) := de_2a tX9_makeAnew_25
def tX9_makeAnew_26 := Bt_1 (q := 26) tX9_makeAnew_25 rfl
theorem dX9_makeAnew_26 : decode cX9_makeAnew 26 = .ok (.getfield 12, 3) := de_b4 tX9_makeAnew_26 (by decide +kernel)
def tX9_makeAnew_29 := Bt_3 (q := 29) tX9_makeAnew_26 rfl
theorem dX9_makeAnew_29 : decode cX9_makeAnew 29 = .ok (.iload_n 1, 1) := de_1b tX9_makeAnew_29
def tX9_makeAnew_30 := Bt_1 (q := 30) tX9_makeAnew_29 rfl
theorem dX9_makeAnew_30 : decode cX9_makeAnew 30 = .ok (.invokevirtual 369, 3) := de_b6 tX9_makeAnew_30 (by decide +kernel)
def tX9_makeAnew_33 := Bt_3 (q := 33) tX9_makeAnew_30 rfl
theorem dX9_makeAnew_33 : decode cX9_makeAnew 33 = .ok (.return_, 1) := de_b1 tX9_makeAnew_33
