theorem gX10_findOrder_0 : (decode cX10_findOrder 0 = .ok (.aload_n 0, 1)) ∧ (decode cX10_findOrder 1 = .ok (.iconst 0, 1)) ∧ (decode cX10_findOrder 2 = .ok (.putfield 315, 3)) ∧ (decode cX10_findOrder 5 = .ok (.iconst 0, 1)) ∧ (decode cX10_findOrder 6 = .ok (.istore_n 2, 1)) ∧ (decode cX10_findOrder 7 = .ok (.iload_n 2, 1)) ∧ (decode cX10_findOrder 8 = .ok (.bipush 8, 2)) ∧ (decode cX10_findOrder 10 = .ok (.if_icmp .ge 108, 3)) ∧ (decode cX10_findOrder 13 = .ok (.bipush 8, 2)) ∧ (decode cX10_findOrder 15 = .ok (.iload_n 1, 1)) ∧ (decode cX10_findOrder 16 = .ok (.imul, 1)) ∧ (decode cX10_findOrder 17 = .ok (.iload_n 2, 1)) := by decide +kernel
theorem dX10_findOrder_0 : decode cX10_findOrder 0 = .ok (.aload_n 0, 1) := gX10_findOrder_0.1
theorem dX10_findOrder_1 : decode cX10_findOrder 1 = .ok (.iconst 0, 1) := gX10_findOrder_0.2.1
theorem dX10_findOrder_2 : decode cX10_findOrder 2 = .ok (.putfield 315, 3) := gX10_findOrder_0.2.2.1
theorem dX10_findOrder_5 : decode cX10_findOrder 5 = .ok (.iconst 0, 1) := gX10_findOrder_0.2.2.2.1
theorem dX10_findOrder_6 : decode cX10_findOrder 6 = .ok (.istore_n 2, 1) := gX10_findOrder_0.2.2.2.2.1
theorem dX10_findOrder_7 : decode cX10_findOrder 7 = .ok (.iload_n 2, 1) := gX10_findOrder_0.2.2.2.2.2.1
theorem dX10_findOrder_8 : decode cX10_findOrder 8 = .ok (.bipush 8, 2) := gX10_findOrder_0.2.2.2.2.2.2.1
theorem dX10_findOrder_10 : decode cX10_findOrder 10 = .ok (.if_icmp .ge 108, 3) := gX10_findOrder_0.2.2.2.2.2.2.2.1
theorem dX10_findOrder_13 : decode cX10_findOrder 13 = .ok (.bipush 8, 2) := gX10_findOrder_0.2.2.2.2.2.2.2.2.1
theorem dX10_findOrder_15 : decode cX10_findOrder 15 = .ok (.iload_n 1, 1) := gX10_findOrder_0.2.2.2.2.2.2.2.2.2.1
theorem dX10_findOrder_16 : decode cX10_findOrder 16 = .ok (.imul, 1) := gX10_findOrder_0.2.2.2.2.2.2.2.2.2.2.1
theorem dX10_findOrder_17 : decode cX10_findOrder 17 = .ok (.iload_n 2, 1) := gX10_findOrder_0.2.2.2.2.2.2.2.2.2.2.2
theorem gX10_findOrder_12 : (decode cX10_findOrder 18 = .ok (.iadd, 1)) ∧ (decode cX10_findOrder 19 = .ok (.istore_n 3, 1)) ∧ (decode cX10_findOrder 20 = .ok (.aload_n 0, 1)) ∧ (decode cX10_findOrder 21 = .ok (.iload_n 3, 1)) ∧ (decode cX10_findOrder 22 = .ok (.invokevirtual 197, 3)) ∧ (decode cX10_findOrder 25 = .ok (.ifCond .eq 87, 3)) ∧ (decode cX10_findOrder 28 = .ok (.aload_n 0, 1)) ∧ (decode cX10_findOrder 29 = .ok (.iload_n 3, 1)) ∧ (decode cX10_findOrder 30 = .ok (.iconst 0, 1)) ∧ (decode cX10_findOrder 31 = .ok (.iconst (-1), 1)) ∧ (decode cX10_findOrder 32 = .ok (.invokevirtual 312, 3)) ∧ (decode cX10_findOrder 35 = .ok (.ifCond .eq 77, 3)) := by decide +kernel
theorem dX10_findOrder_18 : decode cX10_findOrder 18 = .ok (.iadd, 1) := gX10_findOrder_12.1
theorem dX10_findOrder_19 : decode cX10_findOrder 19 = .ok (.istore_n 3, 1) := gX10_findOrder_12.2.1
theorem dX10_findOrder_20 : decode cX10_findOrder 20 = .ok (.aload_n 0, 1) := gX10_findOrder_12.2.2.1
theorem dX10_findOrder_21 : decode cX10_findOrder 21 = .ok (.iload_n 3, 1) := gX10_findOrder_12.2.2.2.1
theorem dX10_findOrder_22 : decode cX10_findOrder 22 = .ok (.invokevirtual 197, 3) := gX10_findOrder_12.2.2.2.2.1
theorem dX10_findOrder_25 : decode cX10_findOrder 25 = .ok (.ifCond .eq 87, 3) := gX10_findOrder_12.2.2.2.2.2.1
theorem dX10_findOrder_28 : decode cX10_findOrder 28 = .ok (.aload_n 0, 1) := gX10_findOrder_12.2.2.2.2.2.2.1
theorem dX10_findOrder_29 : decode cX10_findOrder 29 = .ok (.iload_n 3, 1) := gX10_findOrder_12.2.2.2.2.2.2.2.1
theorem dX10_findOrder_30 : decode cX10_findOrder 30 = .ok (.iconst 0, 1) := gX10_findOrder_12.2.2.2.2.2.2.2.2.1
theorem dX10_findOrder_31 : decode cX10_findOrder 31 = .ok (.iconst (-1), 1) := gX10_findOrder_12.2.2.2.2.2.2.2.2.2.1
theorem dX10_findOrder_32 : decode cX10_findOrder 32 = .ok (.invokevirtual 312, 3) := gX10_findOrder_12.2.2.2.2.2.2.2.2.2.2.1
theorem dX10_findOrder_35 : decode cX10_findOrder 35 = .ok (.ifCond .eq 77, 3) := gX10_findOrder_12.2.2.2.2.2.2.2.2.2.2.2
theorem gX10_findOrder_24 : (decode cX10_findOrder 38 = .ok (.aload_n 0, 1)) ∧ (decode cX10_findOrder 39 = .ok (.getfield 315, 3)) ∧ (decode cX10_findOrder 42 = .ok (.istore 4, 2)) ∧ (decode cX10_findOrder 44 = .ok (.iload 4, 2)) ∧ (decode cX10_findOrder 46 = .ok (.ifCond .le 48, 3)) ∧ (decode cX10_findOrder 49 = .ok (.aload_n 0, 1)) ∧ (decode cX10_findOrder 50 = .ok (.iload_n 3, 1)) ∧ (decode cX10_findOrder 51 = .ok (.bipush 8, 2)) ∧ (decode cX10_findOrder 53 = .ok (.iload_n 1, 1)) ∧ (decode cX10_findOrder 54 = .ok (.imul, 1)) ∧ (decode cX10_findOrder 55 = .ok (.aload_n 0, 1)) ∧ (decode cX10_findOrder 56 = .ok (.getfield 76, 3)) := by decide +kernel
theorem dX10_findOrder_38 : decode cX10_findOrder 38 = .ok (.aload_n 0, 1) := gX10_findOrder_24.1
theorem dX10_findOrder_39 : decode cX10_findOrder 39 = .ok (.getfield 315, 3) := gX10_findOrder_24.2.1
theorem dX10_findOrder_42 : decode cX10_findOrder 42 = .ok (.istore 4, 2) := gX10_findOrder_24.2.2.1
theorem dX10_findOrder_44 : decode cX10_findOrder 44 = .ok (.iload 4, 2) := gX10_findOrder_24.2.2.2.1
theorem dX10_findOrder_46 : decode cX10_findOrder 46 = .ok (.ifCond .le 48, 3) := gX10_findOrder_24.2.2.2.2.1
theorem dX10_findOrder_49 : decode cX10_findOrder 49 = .ok (.aload_n 0, 1) := gX10_findOrder_24.2.2.2.2.2.1
theorem dX10_findOrder_50 : decode cX10_findOrder 50 = .ok (.iload_n 3, 1) := gX10_findOrder_24.2.2.2.2.2.2.1
theorem dX10_findOrder_51 : decode cX10_findOrder 51 = .ok (.bipush 8, 2) := gX10_findOrder_24.2.2.2.2.2.2.2.1
theorem dX10_findOrder_53 : decode cX10_findOrder 53 = .ok (.iload_n 1, 1) := gX10_findOrder_24.2.2.2.2.2.2.2.2.1
theorem dX10_findOrder_54 : decode cX10_findOrder 54 = .ok (.imul, 1) := gX10_findOrder_24.2.2.2.2.2.2.2.2.2.1
theorem dX10_findOrder_55 : decode cX10_findOrder 55 = .ok (.aload_n 0, 1) := gX10_findOrder_24.2.2.2.2.2.2.2.2.2.2.1
theorem dX10_findOrder_56 : decode cX10_findOrder 56 = .ok (.getfield 76, 3) := gX10_findOrder_24.2.2.2.2.2.2.2.2.2.2.2
theorem gX10_findOrder_36 : (decode cX10_findOrder 59 = .ok (.iload 4, 2)) ∧ (decode cX10_findOrder 61 = .ok (.iconst 1, 1)) ∧ (decode cX10_findOrder 62 = .ok (.isub, 1)) ∧ (decode cX10_findOrder 63 = .ok (.iaload, 1)) ∧ (decode cX10_findOrder 64 = .ok (.iadd, 1)) ∧ (decode cX10_findOrder 65 = .ok (.iconst (-1), 1)) ∧ (decode cX10_findOrder 66 = .ok (.invokevirtual 318, 3)) ∧ (decode cX10_findOrder 69 = .ok (.ifCond .eq 25, 3)) ∧ (decode cX10_findOrder 72 = .ok (.aload_n 0, 1)) ∧ (decode cX10_findOrder 73 = .ok (.getfield 76, 3)) ∧ (decode cX10_findOrder 76 = .ok (.iload 4, 2)) ∧ (decode cX10_findOrder 78 = .ok (.aload_n 0, 1)) := by decide +kernel
theorem dX10_findOrder_59 : decode cX10_findOrder 59 = .ok (.iload 4, 2) := gX10_findOrder_36.1
theorem dX10_findOrder_61 : decode cX10_findOrder 61 = .ok (.iconst 1, 1) := gX10_findOrder_36.2.1
theorem dX10_findOrder_62 : decode cX10_findOrder 62 = .ok (.isub, 1) := gX10_findOrder_36.2.2.1
theorem dX10_findOrder_63 : decode cX10_findOrder 63 = .ok (.iaload, 1) := gX10_findOrder_36.2.2.2.1
theorem dX10_findOrder_64 : decode cX10_findOrder 64 = .ok (.iadd, 1) := gX10_findOrder_36.2.2.2.2.1
theorem dX10_findOrder_65 : decode cX10_findOrder 65 = .ok (.iconst (-1), 1) := gX10_findOrder_36.2.2.2.2.2.1
theorem dX10_findOrder_66 : decode cX10_findOrder 66 = .ok (.invokevirtual 318, 3) := gX10_findOrder_36.2.2.2.2.2.2.1
theorem dX10_findOrder_69 : decode cX10_findOrder 69 = .ok (.ifCond .eq 25, 3) := gX10_findOrder_36.2.2.2.2.2.2.2.1
theorem dX10_findOrder_72 : decode cX10_findOrder 72 = .ok (.aload_n 0, 1) := gX10_findOrder_36.2.2.2.2.2.2.2.2.1
theorem dX10_findOrder_73 : decode cX10_findOrder 73 = .ok (.getfield 76, 3) := gX10_findOrder_36.2.2.2.2.2.2.2.2.2.1
theorem dX10_findOrder_76 : decode cX10_findOrder 76 = .ok (.iload 4, 2) := gX10_findOrder_36.2.2.2.2.2.2.2.2.2.2.1
theorem dX10_findOrder_78 : decode cX10_findOrder 78 = .ok (.aload_n 0, 1) := gX10_findOrder_36.2.2.2.2.2.2.2.2.2.2.2
theorem gX10_findOrder_48 : (decode cX10_findOrder 79 = .ok (.getfield 76, 3)) ∧ (decode cX10_findOrder 82 = .ok (.iload 4, 2)) ∧ (decode cX10_findOrder 84 = .ok (.iconst 1, 1)) ∧ (decode cX10_findOrder 85 = .ok (.isub, 1)) ∧ (decode cX10_findOrder 86 = .ok (.iaload, 1)) ∧ (decode cX10_findOrder 87 = .ok (.iastore, 1)) ∧ (decode cX10_findOrder 88 = .ok (.iinc 4 (-1), 3)) ∧ (decode cX10_findOrder 91 = .ok (.goto (-47), 3)) ∧ (decode cX10_findOrder 94 = .ok (.aload_n 0, 1)) ∧ (decode cX10_findOrder 95 = .ok (.getfield 76, 3)) ∧ (decode cX10_findOrder 98 = .ok (.iload 4, 2)) ∧ (decode cX10_findOrder 100 = .ok (.iload_n 2, 1)) := by decide +kernel
theorem dX10_findOrder_79 : decode cX10_findOrder 79 = .ok (.getfield 76, 3) := gX10_findOrder_48.1
theorem dX10_findOrder_82 : decode cX10_findOrder 82 = .ok (.iload 4, 2) := gX10_findOrder_48.2.1
theorem dX10_findOrder_84 : decode cX10_findOrder 84 = .ok (.iconst 1, 1) := gX10_findOrder_48.2.2.1
theorem dX10_findOrder_85 : decode cX10_findOrder 85 = .ok (.isub, 1) := gX10_findOrder_48.2.2.2.1
theorem dX10_findOrder_86 : decode cX10_findOrder 86 = .ok (.iaload, 1) := gX10_findOrder_48.2.2.2.2.1
theorem dX10_findOrder_87 : decode cX10_findOrder 87 = .ok (.iastore, 1) := gX10_findOrder_48.2.2.2.2.2.1
theorem dX10_findOrder_88 : decode cX10_findOrder 88 = .ok (.iinc 4 (-1), 3) := gX10_findOrder_48.2.2.2.2.2.2.1
theorem dX10_findOrder_91 : decode cX10_findOrder 91 = .ok (.goto (-47), 3) := gX10_findOrder_48.2.2.2.2.2.2.2.1
theorem dX10_findOrder_94 : decode cX10_findOrder 94 = .ok (.aload_n 0, 1) := gX10_findOrder_48.2.2.2.2.2.2.2.2.1
theorem dX10_findOrder_95 : decode cX10_findOrder 95 = .ok (.getfield 76, 3) := gX10_findOrder_48.2.2.2.2.2.2.2.2.2.1
theorem dX10_findOrder_98 : decode cX10_findOrder 98 = .ok (.iload 4, 2) := gX10_findOrder_48.2.2.2.2.2.2.2.2.2.2.1
theorem dX10_findOrder_100 : decode cX10_findOrder 100 = .ok (.iload_n 2, 1) := gX10_findOrder_48.2.2.2.2.2.2.2.2.2.2.2
theorem gX10_findOrder_60 : (decode cX10_findOrder 101 = .ok (.iastore, 1)) ∧ (decode cX10_findOrder 102 = .ok (.aload_n 0, 1)) ∧ (decode cX10_findOrder 103 = .ok (.dup, 1)) ∧ (decode cX10_findOrder 104 = .ok (.getfield 315, 3)) ∧ (decode cX10_findOrder 107 = .ok (.iconst 1, 1)) ∧ (decode cX10_findOrder 108 = .ok (.iadd, 1)) ∧ (decode cX10_findOrder 109 = .ok (.putfield 315, 3)) ∧ (decode cX10_findOrder 112 = .ok (.iinc 2 1, 3)) ∧ (decode cX10_findOrder 115 = .ok (.goto (-108), 3)) ∧ (decode cX10_findOrder 118 = .ok (.return_, 1)) := by decide +kernel
theorem dX10_findOrder_101 : decode cX10_findOrder 101 = .ok (.iastore, 1) := gX10_findOrder_60.1
theorem dX10_findOrder_102 : decode cX10_findOrder 102 = .ok (.aload_n 0, 1) := gX10_findOrder_60.2.1
theorem dX10_findOrder_103 : decode cX10_findOrder 103 = .ok (.dup, 1) := gX10_findOrder_60.2.2.1
theorem dX10_findOrder_104 : decode cX10_findOrder 104 = .ok (.getfield 315, 3) := gX10_findOrder_60.2.2.2.1
theorem dX10_findOrder_107 : decode cX10_findOrder 107 = .ok (.iconst 1, 1) := gX10_findOrder_60.2.2.2.2.1
theorem dX10_findOrder_108 : decode cX10_findOrder 108 = .ok (.iadd, 1) := gX10_findOrder_60.2.2.2.2.2.1
theorem dX10_findOrder_109 : decode cX10_findOrder 109 = .ok (.putfield 315, 3) := gX10_findOrder_60.2.2.2.2.2.2.1
theorem dX10_findOrder_112 : decode cX10_findOrder 112 = .ok (.iinc 2 1, 3) := gX10_findOrder_60.2.2.2.2.2.2.2.1
theorem dX10_findOrder_115 : decode cX10_findOrder 115 = .ok (.goto (-108), 3) := gX10_findOrder_60.2.2.2.2.2.2.2.2.1
theorem dX10_findOrder_118 : decode cX10_findOrder 118 = .ok (.return_, 1) := gX10_findOrder_60.2.2.2.2.2.2.2.2.2
theorem gX10_order_0 : (decode cX10_order 0 = .ok (.aload_n 0, 1)) ∧ (decode cX10_order 1 = .ok (.iload_n 1, 1)) ∧ (decode cX10_order 2 = .ok (.invokevirtual 170, 3)) ∧ (decode cX10_order 5 = .ok (.ifCond .ne 9, 3)) ∧ (decode cX10_order 8 = .ok (.aload_n 0, 1)) ∧ (decode cX10_order 9 = .ok (.iconst (-1), 1)) ∧ (decode cX10_order 10 = .ok (.invokevirtual 151, 3)) ∧ (decode cX10_order 13 = .ok (.ireturn, 1)) ∧ (decode cX10_order 14 = .ok (.aload_n 0, 1)) ∧ (decode cX10_order 15 = .ok (.iload_n 1, 1)) ∧ (decode cX10_order 16 = .ok (.invokevirtual 321, 3)) ∧ (decode cX10_order 19 = .ok (.iload_n 2, 1)) := by decide +kernel
theorem dX10_order_0 : decode cX10_order 0 = .ok (.aload_n 0, 1) := gX10_order_0.1
theorem dX10_order_1 : decode cX10_order 1 = .ok (.iload_n 1, 1) := gX10_order_0.2.1
theorem dX10_order_2 : decode cX10_order 2 = .ok (.invokevirtual 170, 3) := gX10_order_0.2.2.1
theorem dX10_order_5 : decode cX10_order 5 = .ok (.ifCond .ne 9, 3) := gX10_order_0.2.2.2.1
theorem dX10_order_8 : decode cX10_order 8 = .ok (.aload_n 0, 1) := gX10_order_0.2.2.2.2.1
theorem dX10_order_9 : decode cX10_order 9 = .ok (.iconst (-1), 1) := gX10_order_0.2.2.2.2.2.1
theorem dX10_order_10 : decode cX10_order 10 = .ok (.invokevirtual 151, 3) := gX10_order_0.2.2.2.2.2.2.1
theorem dX10_order_13 : decode cX10_order 13 = .ok (.ireturn, 1) := gX10_order_0.2.2.2.2.2.2.2.1
theorem dX10_order_14 : decode cX10_order 14 = .ok (.aload_n 0, 1) := gX10_order_0.2.2.2.2.2.2.2.2.1
theorem dX10_order_15 : decode cX10_order 15 = .ok (.iload_n 1, 1) := gX10_order_0.2.2.2.2.2.2.2.2.2.1
theorem dX10_order_16 : decode cX10_order 16 = .ok (.invokevirtual 321, 3) := gX10_order_0.2.2.2.2.2.2.2.2.2.2.1
theorem dX10_order_19 : decode cX10_order 19 = .ok (.iload_n 2, 1) := gX10_order_0.2.2.2.2.2.2.2.2.2.2.2
theorem gX10_order_12 : (decode cX10_order 20 = .ok (.iconst 0, 1)) ∧ (decode cX10_order 21 = .ok (.aload_n 0, 1)) ∧ (decode cX10_order 22 = .ok (.getfield 315, 3)) ∧ (decode cX10_order 25 = .ok (.iconst 1, 1)) ∧ (decode cX10_order 26 = .ok (.isub, 1)) ∧ (decode cX10_order 27 = .ok (.invokestatic 144, 3)) ∧ (decode cX10_order 30 = .ok (.ifCond .eq 12, 3)) ∧ (decode cX10_order 33 = .ok (.aload_n 0, 1)) ∧ (decode cX10_order 34 = .ok (.getfield 76, 3)) ∧ (decode cX10_order 37 = .ok (.iload_n 2, 1)) ∧ (decode cX10_order 38 = .ok (.iaload, 1)) ∧ (decode cX10_order 39 = .ok (.goto 5, 3)) := by decide +kernel
theorem dX10_order_20 : decode cX10_order 20 = .ok (.iconst 0, 1) := gX10_order_12.1
theorem dX10_order_21 : decode cX10_order 21 = .ok (.aload_n 0, 1) := gX10_order_12.2.1
theorem dX10_order_22 : decode cX10_order 22 = .ok (.getfield 315, 3) := gX10_order_12.2.2.1
theorem dX10_order_25 : decode cX10_order 25 = .ok (.iconst 1, 1) := gX10_order_12.2.2.2.1
theorem dX10_order_26 : decode cX10_order 26 = .ok (.isub, 1) := gX10_order_12.2.2.2.2.1
theorem dX10_order_27 : decode cX10_order 27 = .ok (.invokestatic 144, 3) := gX10_order_12.2.2.2.2.2.1
theorem dX10_order_30 : decode cX10_order 30 = .ok (.ifCond .eq 12, 3) := gX10_order_12.2.2.2.2.2.2.1
theorem dX10_order_33 : decode cX10_order 33 = .ok (.aload_n 0, 1) := gX10_order_12.2.2.2.2.2.2.2.1
theorem dX10_order_34 : decode cX10_order 34 = .ok (.getfield 76, 3) := gX10_order_12.2.2.2.2.2.2.2.2.1
theorem dX10_order_37 : decode cX10_order 37 = .ok (.iload_n 2, 1) := gX10_order_12.2.2.2.2.2.2.2.2.2.1
theorem dX10_order_38 : decode cX10_order 38 = .ok (.iaload, 1) := gX10_order_12.2.2.2.2.2.2.2.2.2.2.1
theorem dX10_order_39 : decode cX10_order 39 = .ok (.goto 5, 3) := gX10_order_12.2.2.2.2.2.2.2.2.2.2.2
theorem gX10_order_24 : (decode cX10_order 42 = .ok (.bipush (-9), 2)) ∧ (decode cX10_order 44 = .ok (.ireturn, 1)) := by decide +kernel
theorem dX10_order_42 : decode cX10_order 42 = .ok (.bipush (-9), 2) := gX10_order_24.1
theorem dX10_order_44 : decode cX10_order 44 = .ok (.ireturn, 1) := gX10_order_24.2
theorem gX10_gain_0 : (decode cX10_gain 0 = .ok (.iload_n 1, 1)) ∧ (decode cX10_gain 1 = .ok (.invokestatic 166, 3)) ∧ (decode cX10_gain 4 = .ok (.ifCond .eq 11, 3)) ∧ (decode cX10_gain 7 = .ok (.aload_n 0, 1)) ∧ (decode cX10_gain 8 = .ok (.iload_n 2, 1)) ∧ (decode cX10_gain 9 = .ok (.invokevirtual 170, 3)) ∧ (decode cX10_gain 12 = .ok (.ifCond .ne 9, 3)) ∧ (decode cX10_gain 15 = .ok (.aload_n 0, 1)) ∧ (decode cX10_gain 16 = .ok (.iconst (-1), 1)) ∧ (decode cX10_gain 17 = .ok (.invokevirtual 308, 3)) ∧ (decode cX10_gain 20 = .ok (.lreturn, 1)) ∧ (decode cX10_gain 21 = .ok (.iload 4, 2)) := by decide +kernel
theorem dX10_gain_0 : decode cX10_gain 0 = .ok (.iload_n 1, 1) := gX10_gain_0.1
theorem dX10_gain_1 : decode cX10_gain 1 = .ok (.invokestatic 166, 3) := gX10_gain_0.2.1
theorem dX10_gain_4 : decode cX10_gain 4 = .ok (.ifCond .eq 11, 3) := gX10_gain_0.2.2.1
theorem dX10_gain_7 : decode cX10_gain 7 = .ok (.aload_n 0, 1) := gX10_gain_0.2.2.2.1
theorem dX10_gain_8 : decode cX10_gain 8 = .ok (.iload_n 2, 1) := gX10_gain_0.2.2.2.2.1
theorem dX10_gain_9 : decode cX10_gain 9 = .ok (.invokevirtual 170, 3) := gX10_gain_0.2.2.2.2.2.1
theorem dX10_gain_12 : decode cX10_gain 12 = .ok (.ifCond .ne 9, 3) := gX10_gain_0.2.2.2.2.2.2.1
theorem dX10_gain_15 : decode cX10_gain 15 = .ok (.aload_n 0, 1) := gX10_gain_0.2.2.2.2.2.2.2.1
theorem dX10_gain_16 : decode cX10_gain 16 = .ok (.iconst (-1), 1) := gX10_gain_0.2.2.2.2.2.2.2.2.1
theorem dX10_gain_17 : decode cX10_gain 17 = .ok (.invokevirtual 308, 3) := gX10_gain_0.2.2.2.2.2.2.2.2.2.1
theorem dX10_gain_20 : decode cX10_gain 20 = .ok (.lreturn, 1) := gX10_gain_0.2.2.2.2.2.2.2.2.2.2.1
theorem dX10_gain_21 : decode cX10_gain 21 = .ok (.iload 4, 2) := gX10_gain_0.2.2.2.2.2.2.2.2.2.2.2
theorem gX10_gain_12 : (decode cX10_gain 23 = .ok (.iconst 0, 1)) ∧ (decode cX10_gain 24 = .ok (.iconst 1, 1)) ∧ (decode cX10_gain 25 = .ok (.invokestatic 144, 3)) ∧ (decode cX10_gain 28 = .ok (.ifCond .ne 10, 3)) ∧ (decode cX10_gain 31 = .ok (.aload_n 0, 1)) ∧ (decode cX10_gain 32 = .ok (.bipush (-2), 2)) ∧ (decode cX10_gain 34 = .ok (.invokevirtual 308, 3)) ∧ (decode cX10_gain 37 = .ok (.lreturn, 1)) ∧ (decode cX10_gain 38 = .ok (.aload_n 0, 1)) ∧ (decode cX10_gain 39 = .ok (.iload_n 1, 1)) ∧ (decode cX10_gain 40 = .ok (.iload_n 2, 1)) ∧ (decode cX10_gain 41 = .ok (.invokevirtual 203, 3)) := by decide +kernel
theorem dX10_gain_23 : decode cX10_gain 23 = .ok (.iconst 0, 1) := gX10_gain_12.1
theorem dX10_gain_24 : decode cX10_gain 24 = .ok (.iconst 1, 1) := gX10_gain_12.2.1
theorem dX10_gain_25 : decode cX10_gain 25 = .ok (.invokestatic 144, 3) := gX10_gain_12.2.2.1
theorem dX10_gain_28 : decode cX10_gain 28 = .ok (.ifCond .ne 10, 3) := gX10_gain_12.2.2.2.1
theorem dX10_gain_31 : decode cX10_gain 31 = .ok (.aload_n 0, 1) := gX10_gain_12.2.2.2.2.1
theorem dX10_gain_32 : decode cX10_gain 32 = .ok (.bipush (-2), 2) := gX10_gain_12.2.2.2.2.2.1
theorem dX10_gain_34 : decode cX10_gain 34 = .ok (.invokevirtual 308, 3) := gX10_gain_12.2.2.2.2.2.2.1
theorem dX10_gain_37 : decode cX10_gain 37 = .ok (.lreturn, 1) := gX10_gain_12.2.2.2.2.2.2.2.1
theorem dX10_gain_38 : decode cX10_gain 38 = .ok (.aload_n 0, 1) := gX10_gain_12.2.2.2.2.2.2.2.2.1
theorem dX10_gain_39 : decode cX10_gain 39 = .ok (.iload_n 1, 1) := gX10_gain_12.2.2.2.2.2.2.2.2.2.1
theorem dX10_gain_40 : decode cX10_gain 40 = .ok (.iload_n 2, 1) := gX10_gain_12.2.2.2.2.2.2.2.2.2.2.1
theorem dX10_gain_41 : decode cX10_gain 41 = .ok (.invokevirtual 203, 3) := gX10_gain_12.2.2.2.2.2.2.2.2.2.2.2
theorem gX10_gain_24 : (decode cX10_gain 44 = .ok (.ifCond .ge 10, 3)) ∧ (decode cX10_gain 47 = .ok (.aload_n 0, 1)) ∧ (decode cX10_gain 48 = .ok (.bipush (-5), 2)) ∧ (decode cX10_gain 50 = .ok (.invokevirtual 308, 3)) ∧ (decode cX10_gain 53 = .ok (.lreturn, 1)) ∧ (decode cX10_gain 54 = .ok (.iload_n 3, 1)) ∧ (decode cX10_gain 55 = .ok (.iconst 1, 1)) ∧ (decode cX10_gain 56 = .ok (.if_icmp .ge 10, 3)) ∧ (decode cX10_gain 59 = .ok (.aload_n 0, 1)) ∧ (decode cX10_gain 60 = .ok (.bipush (-4), 2)) ∧ (decode cX10_gain 62 = .ok (.invokevirtual 308, 3)) ∧ (decode cX10_gain 65 = .ok (.lreturn, 1)) := by decide +kernel
theorem dX10_gain_44 : decode cX10_gain 44 = .ok (.ifCond .ge 10, 3) := gX10_gain_24.1
theorem dX10_gain_47 : decode cX10_gain 47 = .ok (.aload_n 0, 1) := gX10_gain_24.2.1
theorem dX10_gain_48 : decode cX10_gain 48 = .ok (.bipush (-5), 2) := gX10_gain_24.2.2.1
theorem dX10_gain_50 : decode cX10_gain 50 = .ok (.invokevirtual 308, 3) := gX10_gain_24.2.2.2.1
theorem dX10_gain_53 : decode cX10_gain 53 = .ok (.lreturn, 1) := gX10_gain_24.2.2.2.2.1
theorem dX10_gain_54 : decode cX10_gain 54 = .ok (.iload_n 3, 1) := gX10_gain_24.2.2.2.2.2.1
theorem dX10_gain_55 : decode cX10_gain 55 = .ok (.iconst 1, 1) := gX10_gain_24.2.2.2.2.2.2.1
theorem dX10_gain_56 : decode cX10_gain 56 = .ok (.if_icmp .ge 10, 3) := gX10_gain_24.2.2.2.2.2.2.2.1
theorem dX10_gain_59 : decode cX10_gain 59 = .ok (.aload_n 0, 1) := gX10_gain_24.2.2.2.2.2.2.2.2.1
theorem dX10_gain_60 : decode cX10_gain 60 = .ok (.bipush (-4), 2) := gX10_gain_24.2.2.2.2.2.2.2.2.2.1
theorem dX10_gain_62 : decode cX10_gain 62 = .ok (.invokevirtual 308, 3) := gX10_gain_24.2.2.2.2.2.2.2.2.2.2.1
theorem dX10_gain_65 : decode cX10_gain 65 = .ok (.lreturn, 1) := gX10_gain_24.2.2.2.2.2.2.2.2.2.2.2
theorem gX10_gain_36 : (decode cX10_gain 66 = .ok (.iload_n 3, 1)) ∧ (decode cX10_gain 67 = .ok (.ldc 165, 2)) ∧ (decode cX10_gain 69 = .ok (.if_icmp .le 10, 3)) ∧ (decode cX10_gain 72 = .ok (.aload_n 0, 1)) ∧ (decode cX10_gain 73 = .ok (.bipush (-6), 2)) ∧ (decode cX10_gain 75 = .ok (.invokevirtual 308, 3)) ∧ (decode cX10_gain 78 = .ok (.lreturn, 1)) ∧ (decode cX10_gain 79 = .ok (.aload_n 0, 1)) ∧ (decode cX10_gain 80 = .ok (.bipush 8, 2)) ∧ (decode cX10_gain 82 = .ok (.iload_n 2, 1)) ∧ (decode cX10_gain 83 = .ok (.imul, 1)) ∧ (decode cX10_gain 84 = .ok (.iload_n 1, 1)) := by decide +kernel
theorem dX10_gain_66 : decode cX10_gain 66 = .ok (.iload_n 3, 1) := gX10_gain_36.1
theorem dX10_gain_67 : decode cX10_gain 67 = .ok (.ldc 165, 2) := gX10_gain_36.2.1
theorem dX10_gain_69 : decode cX10_gain 69 = .ok (.if_icmp .le 10, 3) := gX10_gain_36.2.2.1
theorem dX10_gain_72 : decode cX10_gain 72 = .ok (.aload_n 0, 1) := gX10_gain_36.2.2.2.1
theorem dX10_gain_73 : decode cX10_gain 73 = .ok (.bipush (-6), 2) := gX10_gain_36.2.2.2.2.1
theorem dX10_gain_75 : decode cX10_gain 75 = .ok (.invokevirtual 308, 3) := gX10_gain_36.2.2.2.2.2.1
theorem dX10_gain_78 : decode cX10_gain 78 = .ok (.lreturn, 1) := gX10_gain_36.2.2.2.2.2.2.1
theorem dX10_gain_79 : decode cX10_gain 79 = .ok (.aload_n 0, 1) := gX10_gain_36.2.2.2.2.2.2.2.1
theorem dX10_gain_80 : decode cX10_gain 80 = .ok (.bipush 8, 2) := gX10_gain_36.2.2.2.2.2.2.2.2.1
theorem dX10_gain_82 : decode cX10_gain 82 = .ok (.iload_n 2, 1) := gX10_gain_36.2.2.2.2.2.2.2.2.2.1
theorem dX10_gain_83 : decode cX10_gain 83 = .ok (.imul, 1) := gX10_gain_36.2.2.2.2.2.2.2.2.2.2.1
theorem dX10_gain_84 : decode cX10_gain 84 = .ok (.iload_n 1, 1) := gX10_gain_36.2.2.2.2.2.2.2.2.2.2.2
theorem gX10_gain_48 : (decode cX10_gain 85 = .ok (.iadd, 1)) ∧ (decode cX10_gain 86 = .ok (.iconst 0, 1)) ∧ (decode cX10_gain 87 = .ok (.iconst (-1), 1)) ∧ (decode cX10_gain 88 = .ok (.invokevirtual 312, 3)) ∧ (decode cX10_gain 91 = .ok (.istore 5, 2)) ∧ (decode cX10_gain 93 = .ok (.aload_n 0, 1)) ∧ (decode cX10_gain 94 = .ok (.getfield 301, 3)) ∧ (decode cX10_gain 97 = .ok (.lstore 6, 2)) ∧ (decode cX10_gain 99 = .ok (.aload_n 0, 1)) ∧ (decode cX10_gain 100 = .ok (.getfield 305, 3)) ∧ (decode cX10_gain 103 = .ok (.lstore 8, 2)) ∧ (decode cX10_gain 105 = .ok (.iload 5, 2)) := by decide +kernel
theorem dX10_gain_85 : decode cX10_gain 85 = .ok (.iadd, 1) := gX10_gain_48.1
theorem dX10_gain_86 : decode cX10_gain 86 = .ok (.iconst 0, 1) := gX10_gain_48.2.1
theorem dX10_gain_87 : decode cX10_gain 87 = .ok (.iconst (-1), 1) := gX10_gain_48.2.2.1
theorem dX10_gain_88 : decode cX10_gain 88 = .ok (.invokevirtual 312, 3) := gX10_gain_48.2.2.2.1
theorem dX10_gain_91 : decode cX10_gain 91 = .ok (.istore 5, 2) := gX10_gain_48.2.2.2.2.1
theorem dX10_gain_93 : decode cX10_gain 93 = .ok (.aload_n 0, 1) := gX10_gain_48.2.2.2.2.2.1
theorem dX10_gain_94 : decode cX10_gain 94 = .ok (.getfield 301, 3) := gX10_gain_48.2.2.2.2.2.2.1
theorem dX10_gain_97 : decode cX10_gain 97 = .ok (.lstore 6, 2) := gX10_gain_48.2.2.2.2.2.2.2.1
theorem dX10_gain_99 : decode cX10_gain 99 = .ok (.aload_n 0, 1) := gX10_gain_48.2.2.2.2.2.2.2.2.1
theorem dX10_gain_100 : decode cX10_gain 100 = .ok (.getfield 305, 3) := gX10_gain_48.2.2.2.2.2.2.2.2.2.1
theorem dX10_gain_103 : decode cX10_gain 103 = .ok (.lstore 8, 2) := gX10_gain_48.2.2.2.2.2.2.2.2.2.2.1
theorem dX10_gain_105 : decode cX10_gain 105 = .ok (.iload 5, 2) := gX10_gain_48.2.2.2.2.2.2.2.2.2.2.2
theorem gX10_gain_60 : (decode cX10_gain 107 = .ok (.ifCond .eq 18, 3)) ∧ (decode cX10_gain 110 = .ok (.aload_n 0, 1)) ∧ (decode cX10_gain 111 = .ok (.bipush 8, 2)) ∧ (decode cX10_gain 113 = .ok (.iload_n 2, 1)) ∧ (decode cX10_gain 114 = .ok (.imul, 1)) ∧ (decode cX10_gain 115 = .ok (.iload_n 1, 1)) ∧ (decode cX10_gain 116 = .ok (.iadd, 1)) ∧ (decode cX10_gain 117 = .ok (.iload_n 3, 1)) ∧ (decode cX10_gain 118 = .ok (.iconst (-1), 1)) ∧ (decode cX10_gain 119 = .ok (.invokevirtual 312, 3)) ∧ (decode cX10_gain 122 = .ok (.ifCond .ne 10, 3)) ∧ (decode cX10_gain 125 = .ok (.aload_n 0, 1)) := by decide +kernel
theorem dX10_gain_107 : decode cX10_gain 107 = .ok (.ifCond .eq 18, 3) := gX10_gain_60.1
theorem dX10_gain_110 : decode cX10_gain 110 = .ok (.aload_n 0, 1) := gX10_gain_60.2.1
theorem dX10_gain_111 : decode cX10_gain 111 = .ok (.bipush 8, 2) := gX10_gain_60.2.2.1
theorem dX10_gain_113 : decode cX10_gain 113 = .ok (.iload_n 2, 1) := gX10_gain_60.2.2.2.1
theorem dX10_gain_114 : decode cX10_gain 114 = .ok (.imul, 1) := gX10_gain_60.2.2.2.2.1
theorem dX10_gain_115 : decode cX10_gain 115 = .ok (.iload_n 1, 1) := gX10_gain_60.2.2.2.2.2.1
theorem dX10_gain_116 : decode cX10_gain 116 = .ok (.iadd, 1) := gX10_gain_60.2.2.2.2.2.2.1
theorem dX10_gain_117 : decode cX10_gain 117 = .ok (.iload_n 3, 1) := gX10_gain_60.2.2.2.2.2.2.2.1
theorem dX10_gain_118 : decode cX10_gain 118 = .ok (.iconst (-1), 1) := gX10_gain_60.2.2.2.2.2.2.2.2.1
theorem dX10_gain_119 : decode cX10_gain 119 = .ok (.invokevirtual 312, 3) := gX10_gain_60.2.2.2.2.2.2.2.2.2.1
theorem dX10_gain_122 : decode cX10_gain 122 = .ok (.ifCond .ne 10, 3) := gX10_gain_60.2.2.2.2.2.2.2.2.2.2.1
theorem dX10_gain_125 : decode cX10_gain 125 = .ok (.aload_n 0, 1) := gX10_gain_60.2.2.2.2.2.2.2.2.2.2.2
theorem gX10_gain_72 : (decode cX10_gain 126 = .ok (.bipush (-7), 2)) ∧ (decode cX10_gain 128 = .ok (.invokevirtual 308, 3)) ∧ (decode cX10_gain 131 = .ok (.lreturn, 1)) ∧ (decode cX10_gain 132 = .ok (.aload_n 0, 1)) ∧ (decode cX10_gain 133 = .ok (.getfield 301, 3)) ∧ (decode cX10_gain 136 = .ok (.lload 8, 2)) ∧ (decode cX10_gain 138 = .ok (.lmul, 1)) ∧ (decode cX10_gain 139 = .ok (.lload 6, 2)) ∧ (decode cX10_gain 141 = .ok (.aload_n 0, 1)) ∧ (decode cX10_gain 142 = .ok (.getfield 305, 3)) ∧ (decode cX10_gain 145 = .ok (.lmul, 1)) ∧ (decode cX10_gain 146 = .ok (.lsub, 1)) := by decide +kernel
theorem dX10_gain_126 : decode cX10_gain 126 = .ok (.bipush (-7), 2) := gX10_gain_72.1
theorem dX10_gain_128 : decode cX10_gain 128 = .ok (.invokevirtual 308, 3) := gX10_gain_72.2.1
theorem dX10_gain_131 : decode cX10_gain 131 = .ok (.lreturn, 1) := gX10_gain_72.2.2.1
theorem dX10_gain_132 : decode cX10_gain 132 = .ok (.aload_n 0, 1) := gX10_gain_72.2.2.2.1
theorem dX10_gain_133 : decode cX10_gain 133 = .ok (.getfield 301, 3) := gX10_gain_72.2.2.2.2.1
theorem dX10_gain_136 : decode cX10_gain 136 = .ok (.lload 8, 2) := gX10_gain_72.2.2.2.2.2.1
theorem dX10_gain_138 : decode cX10_gain 138 = .ok (.lmul, 1) := gX10_gain_72.2.2.2.2.2.2.1
theorem dX10_gain_139 : decode cX10_gain 139 = .ok (.lload 6, 2) := gX10_gain_72.2.2.2.2.2.2.2.1
theorem dX10_gain_141 : decode cX10_gain 141 = .ok (.aload_n 0, 1) := gX10_gain_72.2.2.2.2.2.2.2.2.1
theorem dX10_gain_142 : decode cX10_gain 142 = .ok (.getfield 305, 3) := gX10_gain_72.2.2.2.2.2.2.2.2.2.1
theorem dX10_gain_145 : decode cX10_gain 145 = .ok (.lmul, 1) := gX10_gain_72.2.2.2.2.2.2.2.2.2.2.1
theorem dX10_gain_146 : decode cX10_gain 146 = .ok (.lsub, 1) := gX10_gain_72.2.2.2.2.2.2.2.2.2.2.2
theorem gX10_gain_84 : (decode cX10_gain 147 = .ok (.lstore 10, 2)) ∧ (decode cX10_gain 149 = .ok (.aload_n 0, 1)) ∧ (decode cX10_gain 150 = .ok (.getfield 305, 3)) ∧ (decode cX10_gain 153 = .ok (.lload 8, 2)) ∧ (decode cX10_gain 155 = .ok (.lmul, 1)) ∧ (decode cX10_gain 156 = .ok (.lstore 12, 2)) ∧ (decode cX10_gain 158 = .ok (.lload 10, 2)) ∧ (decode cX10_gain 160 = .ok (.lload 12, 2)) ∧ (decode cX10_gain 162 = .ok (.invokestatic 219, 3)) ∧ (decode cX10_gain 165 = .ok (.lstore 14, 2)) ∧ (decode cX10_gain 167 = .ok (.iload 4, 2)) ∧ (decode cX10_gain 169 = .ok (.ifCond .ne 11, 3)) := by decide +kernel
theorem dX10_gain_147 : decode cX10_gain 147 = .ok (.lstore 10, 2) := gX10_gain_84.1
theorem dX10_gain_149 : decode cX10_gain 149 = .ok (.aload_n 0, 1) := gX10_gain_84.2.1
theorem dX10_gain_150 : decode cX10_gain 150 = .ok (.getfield 305, 3) := gX10_gain_84.2.2.1
theorem dX10_gain_153 : decode cX10_gain 153 = .ok (.lload 8, 2) := gX10_gain_84.2.2.2.1
theorem dX10_gain_155 : decode cX10_gain 155 = .ok (.lmul, 1) := gX10_gain_84.2.2.2.2.1
theorem dX10_gain_156 : decode cX10_gain 156 = .ok (.lstore 12, 2) := gX10_gain_84.2.2.2.2.2.1
theorem dX10_gain_158 : decode cX10_gain 158 = .ok (.lload 10, 2) := gX10_gain_84.2.2.2.2.2.2.1
theorem dX10_gain_160 : decode cX10_gain 160 = .ok (.lload 12, 2) := gX10_gain_84.2.2.2.2.2.2.2.1
theorem dX10_gain_162 : decode cX10_gain 162 = .ok (.invokestatic 219, 3) := gX10_gain_84.2.2.2.2.2.2.2.2.1
theorem dX10_gain_165 : decode cX10_gain 165 = .ok (.lstore 14, 2) := gX10_gain_84.2.2.2.2.2.2.2.2.2.1
theorem dX10_gain_167 : decode cX10_gain 167 = .ok (.iload 4, 2) := gX10_gain_84.2.2.2.2.2.2.2.2.2.2.1
theorem dX10_gain_169 : decode cX10_gain 169 = .ok (.ifCond .ne 11, 3) := gX10_gain_84.2.2.2.2.2.2.2.2.2.2.2
theorem gX10_gain_96 : (decode cX10_gain 172 = .ok (.lload 10, 2)) ∧ (decode cX10_gain 174 = .ok (.lload 14, 2)) ∧ (decode cX10_gain 176 = .ok (.ldiv, 1)) ∧ (decode cX10_gain 177 = .ok (.goto 8, 3)) ∧ (decode cX10_gain 180 = .ok (.lload 12, 2)) ∧ (decode cX10_gain 182 = .ok (.lload 14, 2)) ∧ (decode cX10_gain 184 = .ok (.ldiv, 1)) ∧ (decode cX10_gain 185 = .ok (.lreturn, 1)) := by decide +kernel
theorem dX10_gain_172 : decode cX10_gain 172 = .ok (.lload 10, 2) := gX10_gain_96.1
theorem dX10_gain_174 : decode cX10_gain 174 = .ok (.lload 14, 2) := gX10_gain_96.2.1
theorem dX10_gain_176 : decode cX10_gain 176 = .ok (.ldiv, 1) := gX10_gain_96.2.2.1
theorem dX10_gain_177 : decode cX10_gain 177 = .ok (.goto 8, 3) := gX10_gain_96.2.2.2.1
theorem dX10_gain_180 : decode cX10_gain 180 = .ok (.lload 12, 2) := gX10_gain_96.2.2.2.2.1
theorem dX10_gain_182 : decode cX10_gain 182 = .ok (.lload 14, 2) := gX10_gain_96.2.2.2.2.2.1
theorem dX10_gain_184 : decode cX10_gain 184 = .ok (.ldiv, 1) := gX10_gain_96.2.2.2.2.2.2.1
theorem dX10_gain_185 : decode cX10_gain 185 = .ok (.lreturn, 1) := gX10_gain_96.2.2.2.2.2.2.2
theorem gX10_turned_0 : (decode cX10_turned 0 = .ok (.aload_n 0, 1)) ∧ (decode cX10_turned 1 = .ok (.iload_n 1, 1)) ∧ (decode cX10_turned 2 = .ok (.invokevirtual 170, 3)) ∧ (decode cX10_turned 5 = .ok (.ifCond .eq 22, 3)) ∧ (decode cX10_turned 8 = .ok (.iload_n 2, 1)) ∧ (decode cX10_turned 9 = .ok (.invokestatic 166, 3)) ∧ (decode cX10_turned 12 = .ok (.ifCond .eq 15, 3)) ∧ (decode cX10_turned 15 = .ok (.iload_n 3, 1)) ∧ (decode cX10_turned 16 = .ok (.invokestatic 166, 3)) ∧ (decode cX10_turned 19 = .ok (.ifCond .eq 8, 3)) ∧ (decode cX10_turned 22 = .ok (.iload_n 2, 1)) ∧ (decode cX10_turned 23 = .ok (.iload_n 3, 1)) := by decide +kernel
theorem dX10_turned_0 : decode cX10_turned 0 = .ok (.aload_n 0, 1) := gX10_turned_0.1
theorem dX10_turned_1 : decode cX10_turned 1 = .ok (.iload_n 1, 1) := gX10_turned_0.2.1
theorem dX10_turned_2 : decode cX10_turned 2 = .ok (.invokevirtual 170, 3) := gX10_turned_0.2.2.1
theorem dX10_turned_5 : decode cX10_turned 5 = .ok (.ifCond .eq 22, 3) := gX10_turned_0.2.2.2.1
theorem dX10_turned_8 : decode cX10_turned 8 = .ok (.iload_n 2, 1) := gX10_turned_0.2.2.2.2.1
theorem dX10_turned_9 : decode cX10_turned 9 = .ok (.invokestatic 166, 3) := gX10_turned_0.2.2.2.2.2.1
theorem dX10_turned_12 : decode cX10_turned 12 = .ok (.ifCond .eq 15, 3) := gX10_turned_0.2.2.2.2.2.2.1
theorem dX10_turned_15 : decode cX10_turned 15 = .ok (.iload_n 3, 1) := gX10_turned_0.2.2.2.2.2.2.2.1
theorem dX10_turned_16 : decode cX10_turned 16 = .ok (.invokestatic 166, 3) := gX10_turned_0.2.2.2.2.2.2.2.2.1
theorem dX10_turned_19 : decode cX10_turned 19 = .ok (.ifCond .eq 8, 3) := gX10_turned_0.2.2.2.2.2.2.2.2.2.1
theorem dX10_turned_22 : decode cX10_turned 22 = .ok (.iload_n 2, 1) := gX10_turned_0.2.2.2.2.2.2.2.2.2.2.1
theorem dX10_turned_23 : decode cX10_turned 23 = .ok (.iload_n 3, 1) := gX10_turned_0.2.2.2.2.2.2.2.2.2.2.2
theorem gX10_turned_12 : (decode cX10_turned 24 = .ok (.if_icmp .ne 9, 3)) ∧ (decode cX10_turned 27 = .ok (.aload_n 0, 1)) ∧ (decode cX10_turned 28 = .ok (.iconst (-1), 1)) ∧ (decode cX10_turned 29 = .ok (.invokevirtual 151, 3)) ∧ (decode cX10_turned 32 = .ok (.ireturn, 1)) ∧ (decode cX10_turned 33 = .ok (.bipush 8, 2)) ∧ (decode cX10_turned 35 = .ok (.iload_n 1, 1)) ∧ (decode cX10_turned 36 = .ok (.imul, 1)) ∧ (decode cX10_turned 37 = .ok (.iload_n 2, 1)) ∧ (decode cX10_turned 38 = .ok (.iadd, 1)) ∧ (decode cX10_turned 39 = .ok (.istore 4, 2)) ∧ (decode cX10_turned 41 = .ok (.bipush 8, 2)) := by decide +kernel
theorem dX10_turned_24 : decode cX10_turned 24 = .ok (.if_icmp .ne 9, 3) := gX10_turned_12.1
theorem dX10_turned_27 : decode cX10_turned 27 = .ok (.aload_n 0, 1) := gX10_turned_12.2.1
theorem dX10_turned_28 : decode cX10_turned 28 = .ok (.iconst (-1), 1) := gX10_turned_12.2.2.1
theorem dX10_turned_29 : decode cX10_turned 29 = .ok (.invokevirtual 151, 3) := gX10_turned_12.2.2.2.1
theorem dX10_turned_32 : decode cX10_turned 32 = .ok (.ireturn, 1) := gX10_turned_12.2.2.2.2.1
theorem dX10_turned_33 : decode cX10_turned 33 = .ok (.bipush 8, 2) := gX10_turned_12.2.2.2.2.2.1
theorem dX10_turned_35 : decode cX10_turned 35 = .ok (.iload_n 1, 1) := gX10_turned_12.2.2.2.2.2.2.1
theorem dX10_turned_36 : decode cX10_turned 36 = .ok (.imul, 1) := gX10_turned_12.2.2.2.2.2.2.2.1
theorem dX10_turned_37 : decode cX10_turned 37 = .ok (.iload_n 2, 1) := gX10_turned_12.2.2.2.2.2.2.2.2.1
theorem dX10_turned_38 : decode cX10_turned 38 = .ok (.iadd, 1) := gX10_turned_12.2.2.2.2.2.2.2.2.2.1
theorem dX10_turned_39 : decode cX10_turned 39 = .ok (.istore 4, 2) := gX10_turned_12.2.2.2.2.2.2.2.2.2.2.1
theorem dX10_turned_41 : decode cX10_turned 41 = .ok (.bipush 8, 2) := gX10_turned_12.2.2.2.2.2.2.2.2.2.2.2
theorem gX10_turned_24 : (decode cX10_turned 43 = .ok (.iload_n 1, 1)) ∧ (decode cX10_turned 44 = .ok (.imul, 1)) ∧ (decode cX10_turned 45 = .ok (.iload_n 3, 1)) ∧ (decode cX10_turned 46 = .ok (.iadd, 1)) ∧ (decode cX10_turned 47 = .ok (.istore 5, 2)) ∧ (decode cX10_turned 49 = .ok (.aload_n 0, 1)) ∧ (decode cX10_turned 50 = .ok (.iload 4, 2)) ∧ (decode cX10_turned 52 = .ok (.invokevirtual 197, 3)) ∧ (decode cX10_turned 55 = .ok (.ifCond .eq 12, 3)) ∧ (decode cX10_turned 58 = .ok (.aload_n 0, 1)) ∧ (decode cX10_turned 59 = .ok (.iload 5, 2)) ∧ (decode cX10_turned 61 = .ok (.invokevirtual 197, 3)) := by decide +kernel
theorem dX10_turned_43 : decode cX10_turned 43 = .ok (.iload_n 1, 1) := gX10_turned_24.1
theorem dX10_turned_44 : decode cX10_turned 44 = .ok (.imul, 1) := gX10_turned_24.2.1
theorem dX10_turned_45 : decode cX10_turned 45 = .ok (.iload_n 3, 1) := gX10_turned_24.2.2.1
theorem dX10_turned_46 : decode cX10_turned 46 = .ok (.iadd, 1) := gX10_turned_24.2.2.2.1
theorem dX10_turned_47 : decode cX10_turned 47 = .ok (.istore 5, 2) := gX10_turned_24.2.2.2.2.1
theorem dX10_turned_49 : decode cX10_turned 49 = .ok (.aload_n 0, 1) := gX10_turned_24.2.2.2.2.2.1
theorem dX10_turned_50 : decode cX10_turned 50 = .ok (.iload 4, 2) := gX10_turned_24.2.2.2.2.2.2.1
theorem dX10_turned_52 : decode cX10_turned 52 = .ok (.invokevirtual 197, 3) := gX10_turned_24.2.2.2.2.2.2.2.1
theorem dX10_turned_55 : decode cX10_turned 55 = .ok (.ifCond .eq 12, 3) := gX10_turned_24.2.2.2.2.2.2.2.2.1
theorem dX10_turned_58 : decode cX10_turned 58 = .ok (.aload_n 0, 1) := gX10_turned_24.2.2.2.2.2.2.2.2.2.1
theorem dX10_turned_59 : decode cX10_turned 59 = .ok (.iload 5, 2) := gX10_turned_24.2.2.2.2.2.2.2.2.2.2.1
theorem dX10_turned_61 : decode cX10_turned 61 = .ok (.invokevirtual 197, 3) := gX10_turned_24.2.2.2.2.2.2.2.2.2.2.2
theorem gX10_turned_36 : (decode cX10_turned 64 = .ok (.ifCond .ne 10, 3)) ∧ (decode cX10_turned 67 = .ok (.aload_n 0, 1)) ∧ (decode cX10_turned 68 = .ok (.bipush (-5), 2)) ∧ (decode cX10_turned 70 = .ok (.invokevirtual 151, 3)) ∧ (decode cX10_turned 73 = .ok (.ireturn, 1)) ∧ (decode cX10_turned 74 = .ok (.aload_n 0, 1)) ∧ (decode cX10_turned 75 = .ok (.iload 4, 2)) ∧ (decode cX10_turned 77 = .ok (.iconst 0, 1)) ∧ (decode cX10_turned 78 = .ok (.iconst (-1), 1)) ∧ (decode cX10_turned 79 = .ok (.invokevirtual 312, 3)) ∧ (decode cX10_turned 82 = .ok (.ifCond .eq 14, 3)) ∧ (decode cX10_turned 85 = .ok (.aload_n 0, 1)) := by decide +kernel
theorem dX10_turned_64 : decode cX10_turned 64 = .ok (.ifCond .ne 10, 3) := gX10_turned_36.1
theorem dX10_turned_67 : decode cX10_turned 67 = .ok (.aload_n 0, 1) := gX10_turned_36.2.1
theorem dX10_turned_68 : decode cX10_turned 68 = .ok (.bipush (-5), 2) := gX10_turned_36.2.2.1
theorem dX10_turned_70 : decode cX10_turned 70 = .ok (.invokevirtual 151, 3) := gX10_turned_36.2.2.2.1
theorem dX10_turned_73 : decode cX10_turned 73 = .ok (.ireturn, 1) := gX10_turned_36.2.2.2.2.1
theorem dX10_turned_74 : decode cX10_turned 74 = .ok (.aload_n 0, 1) := gX10_turned_36.2.2.2.2.2.1
theorem dX10_turned_75 : decode cX10_turned 75 = .ok (.iload 4, 2) := gX10_turned_36.2.2.2.2.2.2.1
theorem dX10_turned_77 : decode cX10_turned 77 = .ok (.iconst 0, 1) := gX10_turned_36.2.2.2.2.2.2.2.1
theorem dX10_turned_78 : decode cX10_turned 78 = .ok (.iconst (-1), 1) := gX10_turned_36.2.2.2.2.2.2.2.2.1
theorem dX10_turned_79 : decode cX10_turned 79 = .ok (.invokevirtual 312, 3) := gX10_turned_36.2.2.2.2.2.2.2.2.2.1
theorem dX10_turned_82 : decode cX10_turned 82 = .ok (.ifCond .eq 14, 3) := gX10_turned_36.2.2.2.2.2.2.2.2.2.2.1
theorem dX10_turned_85 : decode cX10_turned 85 = .ok (.aload_n 0, 1) := gX10_turned_36.2.2.2.2.2.2.2.2.2.2.2
theorem gX10_turned_48 : (decode cX10_turned 86 = .ok (.iload 5, 2)) ∧ (decode cX10_turned 88 = .ok (.iconst 0, 1)) ∧ (decode cX10_turned 89 = .ok (.iconst (-1), 1)) ∧ (decode cX10_turned 90 = .ok (.invokevirtual 312, 3)) ∧ (decode cX10_turned 93 = .ok (.ifCond .ne 10, 3)) ∧ (decode cX10_turned 96 = .ok (.aload_n 0, 1)) ∧ (decode cX10_turned 97 = .ok (.bipush (-7), 2)) ∧ (decode cX10_turned 99 = .ok (.invokevirtual 151, 3)) ∧ (decode cX10_turned 102 = .ok (.ireturn, 1)) ∧ (decode cX10_turned 103 = .ok (.aload_n 0, 1)) ∧ (decode cX10_turned 104 = .ok (.iload 4, 2)) ∧ (decode cX10_turned 106 = .ok (.iload 5, 2)) := by decide +kernel
theorem dX10_turned_86 : decode cX10_turned 86 = .ok (.iload 5, 2) := gX10_turned_48.1
theorem dX10_turned_88 : decode cX10_turned 88 = .ok (.iconst 0, 1) := gX10_turned_48.2.1
theorem dX10_turned_89 : decode cX10_turned 89 = .ok (.iconst (-1), 1) := gX10_turned_48.2.2.1
theorem dX10_turned_90 : decode cX10_turned 90 = .ok (.invokevirtual 312, 3) := gX10_turned_48.2.2.2.1
theorem dX10_turned_93 : decode cX10_turned 93 = .ok (.ifCond .ne 10, 3) := gX10_turned_48.2.2.2.2.1
theorem dX10_turned_96 : decode cX10_turned 96 = .ok (.aload_n 0, 1) := gX10_turned_48.2.2.2.2.2.1
theorem dX10_turned_97 : decode cX10_turned 97 = .ok (.bipush (-7), 2) := gX10_turned_48.2.2.2.2.2.2.1
theorem dX10_turned_99 : decode cX10_turned 99 = .ok (.invokevirtual 151, 3) := gX10_turned_48.2.2.2.2.2.2.2.1
theorem dX10_turned_102 : decode cX10_turned 102 = .ok (.ireturn, 1) := gX10_turned_48.2.2.2.2.2.2.2.2.1
theorem dX10_turned_103 : decode cX10_turned 103 = .ok (.aload_n 0, 1) := gX10_turned_48.2.2.2.2.2.2.2.2.2.1
theorem dX10_turned_104 : decode cX10_turned 104 = .ok (.iload 4, 2) := gX10_turned_48.2.2.2.2.2.2.2.2.2.2.1
theorem dX10_turned_106 : decode cX10_turned 106 = .ok (.iload 5, 2) := gX10_turned_48.2.2.2.2.2.2.2.2.2.2.2
theorem gX10_turned_60 : (decode cX10_turned 108 = .ok (.iconst (-1), 1)) ∧ (decode cX10_turned 109 = .ok (.invokevirtual 318, 3)) ∧ (decode cX10_turned 112 = .ok (.ifCond .ne 10, 3)) ∧ (decode cX10_turned 115 = .ok (.aload_n 0, 1)) ∧ (decode cX10_turned 116 = .ok (.bipush (-3), 2)) ∧ (decode cX10_turned 118 = .ok (.invokevirtual 151, 3)) ∧ (decode cX10_turned 121 = .ok (.ireturn, 1)) ∧ (decode cX10_turned 122 = .ok (.iconst 0, 1)) ∧ (decode cX10_turned 123 = .ok (.istore 6, 2)) ∧ (decode cX10_turned 125 = .ok (.iload 6, 2)) ∧ (decode cX10_turned 127 = .ok (.bipush 8, 2)) ∧ (decode cX10_turned 129 = .ok (.if_icmp .ge 87, 3)) := by decide +kernel
theorem dX10_turned_108 : decode cX10_turned 108 = .ok (.iconst (-1), 1) := gX10_turned_60.1
theorem dX10_turned_109 : decode cX10_turned 109 = .ok (.invokevirtual 318, 3) := gX10_turned_60.2.1
theorem dX10_turned_112 : decode cX10_turned 112 = .ok (.ifCond .ne 10, 3) := gX10_turned_60.2.2.1
theorem dX10_turned_115 : decode cX10_turned 115 = .ok (.aload_n 0, 1) := gX10_turned_60.2.2.2.1
theorem dX10_turned_116 : decode cX10_turned 116 = .ok (.bipush (-3), 2) := gX10_turned_60.2.2.2.2.1
theorem dX10_turned_118 : decode cX10_turned 118 = .ok (.invokevirtual 151, 3) := gX10_turned_60.2.2.2.2.2.1
theorem dX10_turned_121 : decode cX10_turned 121 = .ok (.ireturn, 1) := gX10_turned_60.2.2.2.2.2.2.1
theorem dX10_turned_122 : decode cX10_turned 122 = .ok (.iconst 0, 1) := gX10_turned_60.2.2.2.2.2.2.2.1
theorem dX10_turned_123 : decode cX10_turned 123 = .ok (.istore 6, 2) := gX10_turned_60.2.2.2.2.2.2.2.2.1
theorem dX10_turned_125 : decode cX10_turned 125 = .ok (.iload 6, 2) := gX10_turned_60.2.2.2.2.2.2.2.2.2.1
theorem dX10_turned_127 : decode cX10_turned 127 = .ok (.bipush 8, 2) := gX10_turned_60.2.2.2.2.2.2.2.2.2.2.1
theorem dX10_turned_129 : decode cX10_turned 129 = .ok (.if_icmp .ge 87, 3) := gX10_turned_60.2.2.2.2.2.2.2.2.2.2.2
theorem gX10_turned_72 : (decode cX10_turned 132 = .ok (.iload 6, 2)) ∧ (decode cX10_turned 134 = .ok (.iload_n 2, 1)) ∧ (decode cX10_turned 135 = .ok (.if_icmp .eq 27, 3)) ∧ (decode cX10_turned 138 = .ok (.iload 6, 2)) ∧ (decode cX10_turned 140 = .ok (.iload_n 3, 1)) ∧ (decode cX10_turned 141 = .ok (.if_icmp .eq 21, 3)) ∧ (decode cX10_turned 144 = .ok (.aload_n 0, 1)) ∧ (decode cX10_turned 145 = .ok (.bipush 8, 2)) ∧ (decode cX10_turned 147 = .ok (.iload_n 1, 1)) ∧ (decode cX10_turned 148 = .ok (.imul, 1)) ∧ (decode cX10_turned 149 = .ok (.iload 6, 2)) ∧ (decode cX10_turned 151 = .ok (.iadd, 1)) := by decide +kernel
theorem dX10_turned_132 : decode cX10_turned 132 = .ok (.iload 6, 2) := gX10_turned_72.1
theorem dX10_turned_134 : decode cX10_turned 134 = .ok (.iload_n 2, 1) := gX10_turned_72.2.1
theorem dX10_turned_135 : decode cX10_turned 135 = .ok (.if_icmp .eq 27, 3) := gX10_turned_72.2.2.1
theorem dX10_turned_138 : decode cX10_turned 138 = .ok (.iload 6, 2) := gX10_turned_72.2.2.2.1
theorem dX10_turned_140 : decode cX10_turned 140 = .ok (.iload_n 3, 1) := gX10_turned_72.2.2.2.2.1
theorem dX10_turned_141 : decode cX10_turned 141 = .ok (.if_icmp .eq 21, 3) := gX10_turned_72.2.2.2.2.2.1
theorem dX10_turned_144 : decode cX10_turned 144 = .ok (.aload_n 0, 1) := gX10_turned_72.2.2.2.2.2.2.1
theorem dX10_turned_145 : decode cX10_turned 145 = .ok (.bipush 8, 2) := gX10_turned_72.2.2.2.2.2.2.2.1
theorem dX10_turned_147 : decode cX10_turned 147 = .ok (.iload_n 1, 1) := gX10_turned_72.2.2.2.2.2.2.2.2.1
theorem dX10_turned_148 : decode cX10_turned 148 = .ok (.imul, 1) := gX10_turned_72.2.2.2.2.2.2.2.2.2.1
theorem dX10_turned_149 : decode cX10_turned 149 = .ok (.iload 6, 2) := gX10_turned_72.2.2.2.2.2.2.2.2.2.2.1
theorem dX10_turned_151 : decode cX10_turned 151 = .ok (.iadd, 1) := gX10_turned_72.2.2.2.2.2.2.2.2.2.2.2
theorem gX10_turned_84 : (decode cX10_turned 152 = .ok (.invokevirtual 197, 3)) ∧ (decode cX10_turned 155 = .ok (.ifCond .eq 7, 3)) ∧ (decode cX10_turned 158 = .ok (.iconst 1, 1)) ∧ (decode cX10_turned 159 = .ok (.goto 4, 3)) ∧ (decode cX10_turned 162 = .ok (.iconst 0, 1)) ∧ (decode cX10_turned 163 = .ok (.istore 7, 2)) ∧ (decode cX10_turned 165 = .ok (.iload 7, 2)) ∧ (decode cX10_turned 167 = .ok (.ifCond .eq 43, 3)) ∧ (decode cX10_turned 170 = .ok (.aload_n 0, 1)) ∧ (decode cX10_turned 171 = .ok (.iload 4, 2)) ∧ (decode cX10_turned 173 = .ok (.iconst 0, 1)) ∧ (decode cX10_turned 174 = .ok (.iload 6, 2)) := by decide +kernel
theorem dX10_turned_152 : decode cX10_turned 152 = .ok (.invokevirtual 197, 3) := gX10_turned_84.1
theorem dX10_turned_155 : decode cX10_turned 155 = .ok (.ifCond .eq 7, 3) := gX10_turned_84.2.1
theorem dX10_turned_158 : decode cX10_turned 158 = .ok (.iconst 1, 1) := gX10_turned_84.2.2.1
theorem dX10_turned_159 : decode cX10_turned 159 = .ok (.goto 4, 3) := gX10_turned_84.2.2.2.1
theorem dX10_turned_162 : decode cX10_turned 162 = .ok (.iconst 0, 1) := gX10_turned_84.2.2.2.2.1
theorem dX10_turned_163 : decode cX10_turned 163 = .ok (.istore 7, 2) := gX10_turned_84.2.2.2.2.2.1
theorem dX10_turned_165 : decode cX10_turned 165 = .ok (.iload 7, 2) := gX10_turned_84.2.2.2.2.2.2.1
theorem dX10_turned_167 : decode cX10_turned 167 = .ok (.ifCond .eq 43, 3) := gX10_turned_84.2.2.2.2.2.2.2.1
theorem dX10_turned_170 : decode cX10_turned 170 = .ok (.aload_n 0, 1) := gX10_turned_84.2.2.2.2.2.2.2.2.1
theorem dX10_turned_171 : decode cX10_turned 171 = .ok (.iload 4, 2) := gX10_turned_84.2.2.2.2.2.2.2.2.2.1
theorem dX10_turned_173 : decode cX10_turned 173 = .ok (.iconst 0, 1) := gX10_turned_84.2.2.2.2.2.2.2.2.2.2.1
theorem dX10_turned_174 : decode cX10_turned 174 = .ok (.iload 6, 2) := gX10_turned_84.2.2.2.2.2.2.2.2.2.2.2
theorem gX10_turned_96 : (decode cX10_turned 176 = .ok (.invokevirtual 312, 3)) ∧ (decode cX10_turned 179 = .ok (.ifCond .eq 31, 3)) ∧ (decode cX10_turned 182 = .ok (.aload_n 0, 1)) ∧ (decode cX10_turned 183 = .ok (.iload 5, 2)) ∧ (decode cX10_turned 185 = .ok (.iconst 0, 1)) ∧ (decode cX10_turned 186 = .ok (.iload 6, 2)) ∧ (decode cX10_turned 188 = .ok (.invokevirtual 312, 3)) ∧ (decode cX10_turned 191 = .ok (.ifCond .eq 19, 3)) ∧ (decode cX10_turned 194 = .ok (.aload_n 0, 1)) ∧ (decode cX10_turned 195 = .ok (.iload 5, 2)) ∧ (decode cX10_turned 197 = .ok (.iload 4, 2)) ∧ (decode cX10_turned 199 = .ok (.iload 6, 2)) := by decide +kernel
theorem dX10_turned_176 : decode cX10_turned 176 = .ok (.invokevirtual 312, 3) := gX10_turned_96.1
theorem dX10_turned_179 : decode cX10_turned 179 = .ok (.ifCond .eq 31, 3) := gX10_turned_96.2.1
theorem dX10_turned_182 : decode cX10_turned 182 = .ok (.aload_n 0, 1) := gX10_turned_96.2.2.1
theorem dX10_turned_183 : decode cX10_turned 183 = .ok (.iload 5, 2) := gX10_turned_96.2.2.2.1
theorem dX10_turned_185 : decode cX10_turned 185 = .ok (.iconst 0, 1) := gX10_turned_96.2.2.2.2.1
theorem dX10_turned_186 : decode cX10_turned 186 = .ok (.iload 6, 2) := gX10_turned_96.2.2.2.2.2.1
theorem dX10_turned_188 : decode cX10_turned 188 = .ok (.invokevirtual 312, 3) := gX10_turned_96.2.2.2.2.2.2.1
theorem dX10_turned_191 : decode cX10_turned 191 = .ok (.ifCond .eq 19, 3) := gX10_turned_96.2.2.2.2.2.2.2.1
theorem dX10_turned_194 : decode cX10_turned 194 = .ok (.aload_n 0, 1) := gX10_turned_96.2.2.2.2.2.2.2.2.1
theorem dX10_turned_195 : decode cX10_turned 195 = .ok (.iload 5, 2) := gX10_turned_96.2.2.2.2.2.2.2.2.2.1
theorem dX10_turned_197 : decode cX10_turned 197 = .ok (.iload 4, 2) := gX10_turned_96.2.2.2.2.2.2.2.2.2.2.1
theorem dX10_turned_199 : decode cX10_turned 199 = .ok (.iload 6, 2) := gX10_turned_96.2.2.2.2.2.2.2.2.2.2.2
theorem gX10_turned_108 : (decode cX10_turned 201 = .ok (.invokevirtual 318, 3)) ∧ (decode cX10_turned 204 = .ok (.ifCond .eq 6, 3)) ∧ (decode cX10_turned 207 = .ok (.iload 6, 2)) ∧ (decode cX10_turned 209 = .ok (.ireturn, 1)) ∧ (decode cX10_turned 210 = .ok (.iinc 6 1, 3)) ∧ (decode cX10_turned 213 = .ok (.goto (-88), 3)) ∧ (decode cX10_turned 216 = .ok (.bipush (-9), 2)) ∧ (decode cX10_turned 218 = .ok (.ireturn, 1)) := by decide +kernel
theorem dX10_turned_201 : decode cX10_turned 201 = .ok (.invokevirtual 318, 3) := gX10_turned_108.1
theorem dX10_turned_204 : decode cX10_turned 204 = .ok (.ifCond .eq 6, 3) := gX10_turned_108.2.1
theorem dX10_turned_207 : decode cX10_turned 207 = .ok (.iload 6, 2) := gX10_turned_108.2.2.1
theorem dX10_turned_209 : decode cX10_turned 209 = .ok (.ireturn, 1) := gX10_turned_108.2.2.2.1
theorem dX10_turned_210 : decode cX10_turned 210 = .ok (.iinc 6 1, 3) := gX10_turned_108.2.2.2.2.1
theorem dX10_turned_213 : decode cX10_turned 213 = .ok (.goto (-88), 3) := gX10_turned_108.2.2.2.2.2.1
theorem dX10_turned_216 : decode cX10_turned 216 = .ok (.bipush (-9), 2) := gX10_turned_108.2.2.2.2.2.2.1
theorem dX10_turned_218 : decode cX10_turned 218 = .ok (.ireturn, 1) := gX10_turned_108.2.2.2.2.2.2.2
theorem gX10_isLow_0 : (decode cX10_isLow 0 = .ok (.lconst 0, 1)) ∧ (decode cX10_isLow 1 = .ok (.lstore_n 2, 1)) ∧ (decode cX10_isLow 2 = .ok (.iconst 0, 1)) ∧ (decode cX10_isLow 3 = .ok (.istore 4, 2)) ∧ (decode cX10_isLow 5 = .ok (.iconst 0, 1)) ∧ (decode cX10_isLow 6 = .ok (.istore 5, 2)) ∧ (decode cX10_isLow 8 = .ok (.iload 5, 2)) ∧ (decode cX10_isLow 10 = .ok (.bipush 8, 2)) ∧ (decode cX10_isLow 12 = .ok (.if_icmp .ge 49, 3)) ∧ (decode cX10_isLow 15 = .ok (.bipush 8, 2)) ∧ (decode cX10_isLow 17 = .ok (.iload_n 1, 1)) ∧ (decode cX10_isLow 18 = .ok (.bipush 8, 2)) := by decide +kernel
theorem dX10_isLow_0 : decode cX10_isLow 0 = .ok (.lconst 0, 1) := gX10_isLow_0.1
theorem dX10_isLow_1 : decode cX10_isLow 1 = .ok (.lstore_n 2, 1) := gX10_isLow_0.2.1
theorem dX10_isLow_2 : decode cX10_isLow 2 = .ok (.iconst 0, 1) := gX10_isLow_0.2.2.1
theorem dX10_isLow_3 : decode cX10_isLow 3 = .ok (.istore 4, 2) := gX10_isLow_0.2.2.2.1
theorem dX10_isLow_5 : decode cX10_isLow 5 = .ok (.iconst 0, 1) := gX10_isLow_0.2.2.2.2.1
theorem dX10_isLow_6 : decode cX10_isLow 6 = .ok (.istore 5, 2) := gX10_isLow_0.2.2.2.2.2.1
theorem dX10_isLow_8 : decode cX10_isLow 8 = .ok (.iload 5, 2) := gX10_isLow_0.2.2.2.2.2.2.1
theorem dX10_isLow_10 : decode cX10_isLow 10 = .ok (.bipush 8, 2) := gX10_isLow_0.2.2.2.2.2.2.2.1
theorem dX10_isLow_12 : decode cX10_isLow 12 = .ok (.if_icmp .ge 49, 3) := gX10_isLow_0.2.2.2.2.2.2.2.2.1
theorem dX10_isLow_15 : decode cX10_isLow 15 = .ok (.bipush 8, 2) := gX10_isLow_0.2.2.2.2.2.2.2.2.2.1
theorem dX10_isLow_17 : decode cX10_isLow 17 = .ok (.iload_n 1, 1) := gX10_isLow_0.2.2.2.2.2.2.2.2.2.2.1
theorem dX10_isLow_18 : decode cX10_isLow 18 = .ok (.bipush 8, 2) := gX10_isLow_0.2.2.2.2.2.2.2.2.2.2.2
theorem gX10_isLow_12 : (decode cX10_isLow 20 = .ok (.idiv, 1)) ∧ (decode cX10_isLow 21 = .ok (.imul, 1)) ∧ (decode cX10_isLow 22 = .ok (.iload 5, 2)) ∧ (decode cX10_isLow 24 = .ok (.iadd, 1)) ∧ (decode cX10_isLow 25 = .ok (.istore 6, 2)) ∧ (decode cX10_isLow 27 = .ok (.iload 6, 2)) ∧ (decode cX10_isLow 29 = .ok (.iload_n 1, 1)) ∧ (decode cX10_isLow 30 = .ok (.if_icmp .eq 25, 3)) ∧ (decode cX10_isLow 33 = .ok (.aload_n 0, 1)) ∧ (decode cX10_isLow 34 = .ok (.iload 6, 2)) ∧ (decode cX10_isLow 36 = .ok (.invokevirtual 197, 3)) ∧ (decode cX10_isLow 39 = .ok (.ifCond .eq 16, 3)) := by decide +kernel
theorem dX10_isLow_20 : decode cX10_isLow 20 = .ok (.idiv, 1) := gX10_isLow_12.1
theorem dX10_isLow_21 : decode cX10_isLow 21 = .ok (.imul, 1) := gX10_isLow_12.2.1
theorem dX10_isLow_22 : decode cX10_isLow 22 = .ok (.iload 5, 2) := gX10_isLow_12.2.2.1
theorem dX10_isLow_24 : decode cX10_isLow 24 = .ok (.iadd, 1) := gX10_isLow_12.2.2.2.1
theorem dX10_isLow_25 : decode cX10_isLow 25 = .ok (.istore 6, 2) := gX10_isLow_12.2.2.2.2.1
theorem dX10_isLow_27 : decode cX10_isLow 27 = .ok (.iload 6, 2) := gX10_isLow_12.2.2.2.2.2.1
theorem dX10_isLow_29 : decode cX10_isLow 29 = .ok (.iload_n 1, 1) := gX10_isLow_12.2.2.2.2.2.2.1
theorem dX10_isLow_30 : decode cX10_isLow 30 = .ok (.if_icmp .eq 25, 3) := gX10_isLow_12.2.2.2.2.2.2.2.1
theorem dX10_isLow_33 : decode cX10_isLow 33 = .ok (.aload_n 0, 1) := gX10_isLow_12.2.2.2.2.2.2.2.2.1
theorem dX10_isLow_34 : decode cX10_isLow 34 = .ok (.iload 6, 2) := gX10_isLow_12.2.2.2.2.2.2.2.2.2.1
theorem dX10_isLow_36 : decode cX10_isLow 36 = .ok (.invokevirtual 197, 3) := gX10_isLow_12.2.2.2.2.2.2.2.2.2.2.1
theorem dX10_isLow_39 : decode cX10_isLow 39 = .ok (.ifCond .eq 16, 3) := gX10_isLow_12.2.2.2.2.2.2.2.2.2.2.2
theorem gX10_isLow_24 : (decode cX10_isLow 42 = .ok (.lload_n 2, 1)) ∧ (decode cX10_isLow 43 = .ok (.aload_n 0, 1)) ∧ (decode cX10_isLow 44 = .ok (.iload 6, 2)) ∧ (decode cX10_isLow 46 = .ok (.invokevirtual 191, 3)) ∧ (decode cX10_isLow 49 = .ok (.i2l, 1)) ∧ (decode cX10_isLow 50 = .ok (.ladd, 1)) ∧ (decode cX10_isLow 51 = .ok (.lstore_n 2, 1)) ∧ (decode cX10_isLow 52 = .ok (.iinc 4 1, 3)) ∧ (decode cX10_isLow 55 = .ok (.iinc 5 1, 3)) ∧ (decode cX10_isLow 58 = .ok (.goto (-50), 3)) ∧ (decode cX10_isLow 61 = .ok (.iload 4, 2)) ∧ (decode cX10_isLow 63 = .ok (.ifCond .le 34, 3)) := by decide +kernel
theorem dX10_isLow_42 : decode cX10_isLow 42 = .ok (.lload_n 2, 1) := gX10_isLow_24.1
theorem dX10_isLow_43 : decode cX10_isLow 43 = .ok (.aload_n 0, 1) := gX10_isLow_24.2.1
theorem dX10_isLow_44 : decode cX10_isLow 44 = .ok (.iload 6, 2) := gX10_isLow_24.2.2.1
theorem dX10_isLow_46 : decode cX10_isLow 46 = .ok (.invokevirtual 191, 3) := gX10_isLow_24.2.2.2.1
theorem dX10_isLow_49 : decode cX10_isLow 49 = .ok (.i2l, 1) := gX10_isLow_24.2.2.2.2.1
theorem dX10_isLow_50 : decode cX10_isLow 50 = .ok (.ladd, 1) := gX10_isLow_24.2.2.2.2.2.1
theorem dX10_isLow_51 : decode cX10_isLow 51 = .ok (.lstore_n 2, 1) := gX10_isLow_24.2.2.2.2.2.2.1
theorem dX10_isLow_52 : decode cX10_isLow 52 = .ok (.iinc 4 1, 3) := gX10_isLow_24.2.2.2.2.2.2.2.1
theorem dX10_isLow_55 : decode cX10_isLow 55 = .ok (.iinc 5 1, 3) := gX10_isLow_24.2.2.2.2.2.2.2.2.1
theorem dX10_isLow_58 : decode cX10_isLow 58 = .ok (.goto (-50), 3) := gX10_isLow_24.2.2.2.2.2.2.2.2.2.1
theorem dX10_isLow_61 : decode cX10_isLow 61 = .ok (.iload 4, 2) := gX10_isLow_24.2.2.2.2.2.2.2.2.2.2.1
theorem dX10_isLow_63 : decode cX10_isLow 63 = .ok (.ifCond .le 34, 3) := gX10_isLow_24.2.2.2.2.2.2.2.2.2.2.2
theorem gX10_isLow_36 : (decode cX10_isLow 66 = .ok (.ldc2_w 187, 3)) ∧ (decode cX10_isLow 69 = .ok (.aload_n 0, 1)) ∧ (decode cX10_isLow 70 = .ok (.iload_n 1, 1)) ∧ (decode cX10_isLow 71 = .ok (.invokevirtual 191, 3)) ∧ (decode cX10_isLow 74 = .ok (.i2l, 1)) ∧ (decode cX10_isLow 75 = .ok (.lmul, 1)) ∧ (decode cX10_isLow 76 = .ok (.iload 4, 2)) ∧ (decode cX10_isLow 78 = .ok (.i2l, 1)) ∧ (decode cX10_isLow 79 = .ok (.lmul, 1)) ∧ (decode cX10_isLow 80 = .ok (.aload_n 0, 1)) ∧ (decode cX10_isLow 81 = .ok (.getfield 42, 3)) ∧ (decode cX10_isLow 84 = .ok (.iconst 2, 1)) := by decide +kernel
theorem dX10_isLow_66 : decode cX10_isLow 66 = .ok (.ldc2_w 187, 3) := gX10_isLow_36.1
theorem dX10_isLow_69 : decode cX10_isLow 69 = .ok (.aload_n 0, 1) := gX10_isLow_36.2.1
theorem dX10_isLow_70 : decode cX10_isLow 70 = .ok (.iload_n 1, 1) := gX10_isLow_36.2.2.1
theorem dX10_isLow_71 : decode cX10_isLow 71 = .ok (.invokevirtual 191, 3) := gX10_isLow_36.2.2.2.1
theorem dX10_isLow_74 : decode cX10_isLow 74 = .ok (.i2l, 1) := gX10_isLow_36.2.2.2.2.1
theorem dX10_isLow_75 : decode cX10_isLow 75 = .ok (.lmul, 1) := gX10_isLow_36.2.2.2.2.2.1
theorem dX10_isLow_76 : decode cX10_isLow 76 = .ok (.iload 4, 2) := gX10_isLow_36.2.2.2.2.2.2.1
theorem dX10_isLow_78 : decode cX10_isLow 78 = .ok (.i2l, 1) := gX10_isLow_36.2.2.2.2.2.2.2.1
theorem dX10_isLow_79 : decode cX10_isLow 79 = .ok (.lmul, 1) := gX10_isLow_36.2.2.2.2.2.2.2.2.1
theorem dX10_isLow_80 : decode cX10_isLow 80 = .ok (.aload_n 0, 1) := gX10_isLow_36.2.2.2.2.2.2.2.2.2.1
theorem dX10_isLow_81 : decode cX10_isLow 81 = .ok (.getfield 42, 3) := gX10_isLow_36.2.2.2.2.2.2.2.2.2.2.1
theorem dX10_isLow_84 : decode cX10_isLow 84 = .ok (.iconst 2, 1) := gX10_isLow_36.2.2.2.2.2.2.2.2.2.2.2
theorem gX10_isLow_48 : (decode cX10_isLow 85 = .ok (.iaload, 1)) ∧ (decode cX10_isLow 86 = .ok (.i2l, 1)) ∧ (decode cX10_isLow 87 = .ok (.lload_n 2, 1)) ∧ (decode cX10_isLow 88 = .ok (.lmul, 1)) ∧ (decode cX10_isLow 89 = .ok (.lcmp, 1)) ∧ (decode cX10_isLow 90 = .ok (.ifCond .ge 7, 3)) ∧ (decode cX10_isLow 93 = .ok (.iconst 1, 1)) ∧ (decode cX10_isLow 94 = .ok (.goto 4, 3)) ∧ (decode cX10_isLow 97 = .ok (.iconst 0, 1)) ∧ (decode cX10_isLow 98 = .ok (.ireturn, 1)) := by decide +kernel
theorem dX10_isLow_85 : decode cX10_isLow 85 = .ok (.iaload, 1) := gX10_isLow_48.1
theorem dX10_isLow_86 : decode cX10_isLow 86 = .ok (.i2l, 1) := gX10_isLow_48.2.1
theorem dX10_isLow_87 : decode cX10_isLow 87 = .ok (.lload_n 2, 1) := gX10_isLow_48.2.2.1
theorem dX10_isLow_88 : decode cX10_isLow 88 = .ok (.lmul, 1) := gX10_isLow_48.2.2.2.1
theorem dX10_isLow_89 : decode cX10_isLow 89 = .ok (.lcmp, 1) := gX10_isLow_48.2.2.2.2.1
theorem dX10_isLow_90 : decode cX10_isLow 90 = .ok (.ifCond .ge 7, 3) := gX10_isLow_48.2.2.2.2.2.1
theorem dX10_isLow_93 : decode cX10_isLow 93 = .ok (.iconst 1, 1) := gX10_isLow_48.2.2.2.2.2.2.1
theorem dX10_isLow_94 : decode cX10_isLow 94 = .ok (.goto 4, 3) := gX10_isLow_48.2.2.2.2.2.2.2.1
theorem dX10_isLow_97 : decode cX10_isLow 97 = .ok (.iconst 0, 1) := gX10_isLow_48.2.2.2.2.2.2.2.2.1
theorem dX10_isLow_98 : decode cX10_isLow 98 = .ok (.ireturn, 1) := gX10_isLow_48.2.2.2.2.2.2.2.2.2
theorem gX10_low_0 : (decode cX10_low 0 = .ok (.aload_n 0, 1)) ∧ (decode cX10_low 1 = .ok (.iload_n 1, 1)) ∧ (decode cX10_low 2 = .ok (.iload_n 2, 1)) ∧ (decode cX10_low 3 = .ok (.invokevirtual 203, 3)) ∧ (decode cX10_low 6 = .ok (.istore_n 3, 1)) ∧ (decode cX10_low 7 = .ok (.iload_n 3, 1)) ∧ (decode cX10_low 8 = .ok (.ifCond .ge 11, 3)) ∧ (decode cX10_low 11 = .ok (.aload_n 0, 1)) ∧ (decode cX10_low 12 = .ok (.iload_n 3, 1)) ∧ (decode cX10_low 13 = .ok (.invokevirtual 151, 3)) ∧ (decode cX10_low 16 = .ok (.goto 21, 3)) ∧ (decode cX10_low 19 = .ok (.aload_n 0, 1)) := by decide +kernel
theorem dX10_low_0 : decode cX10_low 0 = .ok (.aload_n 0, 1) := gX10_low_0.1
theorem dX10_low_1 : decode cX10_low 1 = .ok (.iload_n 1, 1) := gX10_low_0.2.1
theorem dX10_low_2 : decode cX10_low 2 = .ok (.iload_n 2, 1) := gX10_low_0.2.2.1
theorem dX10_low_3 : decode cX10_low 3 = .ok (.invokevirtual 203, 3) := gX10_low_0.2.2.2.1
theorem dX10_low_6 : decode cX10_low 6 = .ok (.istore_n 3, 1) := gX10_low_0.2.2.2.2.1
theorem dX10_low_7 : decode cX10_low 7 = .ok (.iload_n 3, 1) := gX10_low_0.2.2.2.2.2.1
theorem dX10_low_8 : decode cX10_low 8 = .ok (.ifCond .ge 11, 3) := gX10_low_0.2.2.2.2.2.2.1
theorem dX10_low_11 : decode cX10_low 11 = .ok (.aload_n 0, 1) := gX10_low_0.2.2.2.2.2.2.2.1
theorem dX10_low_12 : decode cX10_low 12 = .ok (.iload_n 3, 1) := gX10_low_0.2.2.2.2.2.2.2.2.1
theorem dX10_low_13 : decode cX10_low 13 = .ok (.invokevirtual 151, 3) := gX10_low_0.2.2.2.2.2.2.2.2.2.1
theorem dX10_low_16 : decode cX10_low 16 = .ok (.goto 21, 3) := gX10_low_0.2.2.2.2.2.2.2.2.2.2.1
theorem dX10_low_19 : decode cX10_low 19 = .ok (.aload_n 0, 1) := gX10_low_0.2.2.2.2.2.2.2.2.2.2.2
theorem gX10_low_12 : (decode cX10_low 20 = .ok (.bipush 8, 2)) ∧ (decode cX10_low 22 = .ok (.iload_n 2, 1)) ∧ (decode cX10_low 23 = .ok (.imul, 1)) ∧ (decode cX10_low 24 = .ok (.iload_n 1, 1)) ∧ (decode cX10_low 25 = .ok (.iadd, 1)) ∧ (decode cX10_low 26 = .ok (.invokevirtual 324, 3)) ∧ (decode cX10_low 29 = .ok (.ifCond .eq 7, 3)) ∧ (decode cX10_low 32 = .ok (.iconst 1, 1)) ∧ (decode cX10_low 33 = .ok (.goto 4, 3)) ∧ (decode cX10_low 36 = .ok (.iconst 0, 1)) ∧ (decode cX10_low 37 = .ok (.ireturn, 1)) := by decide +kernel
theorem dX10_low_20 : decode cX10_low 20 = .ok (.bipush 8, 2) := gX10_low_12.1
theorem dX10_low_22 : decode cX10_low 22 = .ok (.iload_n 2, 1) := gX10_low_12.2.1
theorem dX10_low_23 : decode cX10_low 23 = .ok (.imul, 1) := gX10_low_12.2.2.1
theorem dX10_low_24 : decode cX10_low 24 = .ok (.iload_n 1, 1) := gX10_low_12.2.2.2.1
theorem dX10_low_25 : decode cX10_low 25 = .ok (.iadd, 1) := gX10_low_12.2.2.2.2.1
theorem dX10_low_26 : decode cX10_low 26 = .ok (.invokevirtual 324, 3) := gX10_low_12.2.2.2.2.2.1
theorem dX10_low_29 : decode cX10_low 29 = .ok (.ifCond .eq 7, 3) := gX10_low_12.2.2.2.2.2.2.1
theorem dX10_low_32 : decode cX10_low 32 = .ok (.iconst 1, 1) := gX10_low_12.2.2.2.2.2.2.2.1
theorem dX10_low_33 : decode cX10_low 33 = .ok (.goto 4, 3) := gX10_low_12.2.2.2.2.2.2.2.2.1
theorem dX10_low_36 : decode cX10_low 36 = .ok (.iconst 0, 1) := gX10_low_12.2.2.2.2.2.2.2.2.2.1
theorem dX10_low_37 : decode cX10_low 37 = .ok (.ireturn, 1) := gX10_low_12.2.2.2.2.2.2.2.2.2.2
theorem gX10_ask_0 : (decode cX10_ask 0 = .ok (.aload_n 0, 1)) ∧ (decode cX10_ask 1 = .ok (.iload_n 1, 1)) ∧ (decode cX10_ask 2 = .ok (.iload_n 2, 1)) ∧ (decode cX10_ask 3 = .ok (.invokevirtual 203, 3)) ∧ (decode cX10_ask 6 = .ok (.istore 4, 2)) ∧ (decode cX10_ask 8 = .ok (.iload 4, 2)) ∧ (decode cX10_ask 10 = .ok (.ifCond .ge 10, 3)) ∧ (decode cX10_ask 13 = .ok (.aload_n 0, 1)) ∧ (decode cX10_ask 14 = .ok (.iload 4, 2)) ∧ (decode cX10_ask 16 = .ok (.invokevirtual 151, 3)) ∧ (decode cX10_ask 19 = .ok (.ireturn, 1)) ∧ (decode cX10_ask 20 = .ok (.bipush 8, 2)) := by decide +kernel
theorem dX10_ask_0 : decode cX10_ask 0 = .ok (.aload_n 0, 1) := gX10_ask_0.1
theorem dX10_ask_1 : decode cX10_ask 1 = .ok (.iload_n 1, 1) := gX10_ask_0.2.1
theorem dX10_ask_2 : decode cX10_ask 2 = .ok (.iload_n 2, 1) := gX10_ask_0.2.2.1
theorem dX10_ask_3 : decode cX10_ask 3 = .ok (.invokevirtual 203, 3) := gX10_ask_0.2.2.2.1
theorem dX10_ask_6 : decode cX10_ask 6 = .ok (.istore 4, 2) := gX10_ask_0.2.2.2.2.1
theorem dX10_ask_8 : decode cX10_ask 8 = .ok (.iload 4, 2) := gX10_ask_0.2.2.2.2.2.1
theorem dX10_ask_10 : decode cX10_ask 10 = .ok (.ifCond .ge 10, 3) := gX10_ask_0.2.2.2.2.2.2.1
theorem dX10_ask_13 : decode cX10_ask 13 = .ok (.aload_n 0, 1) := gX10_ask_0.2.2.2.2.2.2.2.1
theorem dX10_ask_14 : decode cX10_ask 14 = .ok (.iload 4, 2) := gX10_ask_0.2.2.2.2.2.2.2.2.1
theorem dX10_ask_16 : decode cX10_ask 16 = .ok (.invokevirtual 151, 3) := gX10_ask_0.2.2.2.2.2.2.2.2.2.1
theorem dX10_ask_19 : decode cX10_ask 19 = .ok (.ireturn, 1) := gX10_ask_0.2.2.2.2.2.2.2.2.2.2.1
theorem dX10_ask_20 : decode cX10_ask 20 = .ok (.bipush 8, 2) := gX10_ask_0.2.2.2.2.2.2.2.2.2.2.2
theorem gX10_ask_12 : (decode cX10_ask 22 = .ok (.iload_n 2, 1)) ∧ (decode cX10_ask 23 = .ok (.imul, 1)) ∧ (decode cX10_ask 24 = .ok (.iload_n 1, 1)) ∧ (decode cX10_ask 25 = .ok (.iadd, 1)) ∧ (decode cX10_ask 26 = .ok (.istore 5, 2)) ∧ (decode cX10_ask 28 = .ok (.aload_n 0, 1)) ∧ (decode cX10_ask 29 = .ok (.iload 5, 2)) ∧ (decode cX10_ask 31 = .ok (.invokevirtual 324, 3)) ∧ (decode cX10_ask 34 = .ok (.ifCond .eq 13, 3)) ∧ (decode cX10_ask 37 = .ok (.aload_n 0, 1)) ∧ (decode cX10_ask 38 = .ok (.getfield 39, 3)) ∧ (decode cX10_ask 41 = .ok (.iload 5, 2)) := by decide +kernel
theorem dX10_ask_22 : decode cX10_ask 22 = .ok (.iload_n 2, 1) := gX10_ask_12.1
theorem dX10_ask_23 : decode cX10_ask 23 = .ok (.imul, 1) := gX10_ask_12.2.1
theorem dX10_ask_24 : decode cX10_ask 24 = .ok (.iload_n 1, 1) := gX10_ask_12.2.2.1
theorem dX10_ask_25 : decode cX10_ask 25 = .ok (.iadd, 1) := gX10_ask_12.2.2.2.1
theorem dX10_ask_26 : decode cX10_ask 26 = .ok (.istore 5, 2) := gX10_ask_12.2.2.2.2.1
theorem dX10_ask_28 : decode cX10_ask 28 = .ok (.aload_n 0, 1) := gX10_ask_12.2.2.2.2.2.1
theorem dX10_ask_29 : decode cX10_ask 29 = .ok (.iload 5, 2) := gX10_ask_12.2.2.2.2.2.2.1
theorem dX10_ask_31 : decode cX10_ask 31 = .ok (.invokevirtual 324, 3) := gX10_ask_12.2.2.2.2.2.2.2.1
theorem dX10_ask_34 : decode cX10_ask 34 = .ok (.ifCond .eq 13, 3) := gX10_ask_12.2.2.2.2.2.2.2.2.1
theorem dX10_ask_37 : decode cX10_ask 37 = .ok (.aload_n 0, 1) := gX10_ask_12.2.2.2.2.2.2.2.2.2.1
theorem dX10_ask_38 : decode cX10_ask 38 = .ok (.getfield 39, 3) := gX10_ask_12.2.2.2.2.2.2.2.2.2.2.1
theorem dX10_ask_41 : decode cX10_ask 41 = .ok (.iload 5, 2) := gX10_ask_12.2.2.2.2.2.2.2.2.2.2.2
theorem gX10_ask_24 : (decode cX10_ask 43 = .ok (.iaload, 1)) ∧ (decode cX10_ask 44 = .ok (.ifCond .lt 10, 3)) ∧ (decode cX10_ask 47 = .ok (.aload_n 0, 1)) ∧ (decode cX10_ask 48 = .ok (.bipush (-3), 2)) ∧ (decode cX10_ask 50 = .ok (.invokevirtual 151, 3)) ∧ (decode cX10_ask 53 = .ok (.ireturn, 1)) ∧ (decode cX10_ask 54 = .ok (.iload_n 3, 1)) ∧ (decode cX10_ask 55 = .ok (.aload_n 0, 1)) ∧ (decode cX10_ask 56 = .ok (.getfield 148, 3)) ∧ (decode cX10_ask 59 = .ok (.if_icmp .gt 10, 3)) ∧ (decode cX10_ask 62 = .ok (.aload_n 0, 1)) ∧ (decode cX10_ask 63 = .ok (.bipush (-4), 2)) := by decide +kernel
theorem dX10_ask_43 : decode cX10_ask 43 = .ok (.iaload, 1) := gX10_ask_24.1
theorem dX10_ask_44 : decode cX10_ask 44 = .ok (.ifCond .lt 10, 3) := gX10_ask_24.2.1
theorem dX10_ask_47 : decode cX10_ask 47 = .ok (.aload_n 0, 1) := gX10_ask_24.2.2.1
theorem dX10_ask_48 : decode cX10_ask 48 = .ok (.bipush (-3), 2) := gX10_ask_24.2.2.2.1
theorem dX10_ask_50 : decode cX10_ask 50 = .ok (.invokevirtual 151, 3) := gX10_ask_24.2.2.2.2.1
theorem dX10_ask_53 : decode cX10_ask 53 = .ok (.ireturn, 1) := gX10_ask_24.2.2.2.2.2.1
theorem dX10_ask_54 : decode cX10_ask 54 = .ok (.iload_n 3, 1) := gX10_ask_24.2.2.2.2.2.2.1
theorem dX10_ask_55 : decode cX10_ask 55 = .ok (.aload_n 0, 1) := gX10_ask_24.2.2.2.2.2.2.2.1
theorem dX10_ask_56 : decode cX10_ask 56 = .ok (.getfield 148, 3) := gX10_ask_24.2.2.2.2.2.2.2.2.1
theorem dX10_ask_59 : decode cX10_ask 59 = .ok (.if_icmp .gt 10, 3) := gX10_ask_24.2.2.2.2.2.2.2.2.2.1
theorem dX10_ask_62 : decode cX10_ask 62 = .ok (.aload_n 0, 1) := gX10_ask_24.2.2.2.2.2.2.2.2.2.2.1
theorem dX10_ask_63 : decode cX10_ask 63 = .ok (.bipush (-4), 2) := gX10_ask_24.2.2.2.2.2.2.2.2.2.2.2
theorem gX10_ask_36 : (decode cX10_ask 65 = .ok (.invokevirtual 151, 3)) ∧ (decode cX10_ask 68 = .ok (.ireturn, 1)) ∧ (decode cX10_ask 69 = .ok (.iload_n 3, 1)) ∧ (decode cX10_ask 70 = .ok (.ldc 155, 2)) ∧ (decode cX10_ask 72 = .ok (.if_icmp .le 10, 3)) ∧ (decode cX10_ask 75 = .ok (.aload_n 0, 1)) ∧ (decode cX10_ask 76 = .ok (.bipush (-6), 2)) ∧ (decode cX10_ask 78 = .ok (.invokevirtual 151, 3)) ∧ (decode cX10_ask 81 = .ok (.ireturn, 1)) ∧ (decode cX10_ask 82 = .ok (.aload_n 0, 1)) ∧ (decode cX10_ask 83 = .ok (.getfield 39, 3)) ∧ (decode cX10_ask 86 = .ok (.iload 5, 2)) := by decide +kernel
theorem dX10_ask_65 : decode cX10_ask 65 = .ok (.invokevirtual 151, 3) := gX10_ask_36.1
theorem dX10_ask_68 : decode cX10_ask 68 = .ok (.ireturn, 1) := gX10_ask_36.2.1
theorem dX10_ask_69 : decode cX10_ask 69 = .ok (.iload_n 3, 1) := gX10_ask_36.2.2.1
theorem dX10_ask_70 : decode cX10_ask 70 = .ok (.ldc 155, 2) := gX10_ask_36.2.2.2.1
theorem dX10_ask_72 : decode cX10_ask 72 = .ok (.if_icmp .le 10, 3) := gX10_ask_36.2.2.2.2.1
theorem dX10_ask_75 : decode cX10_ask 75 = .ok (.aload_n 0, 1) := gX10_ask_36.2.2.2.2.2.1
theorem dX10_ask_76 : decode cX10_ask 76 = .ok (.bipush (-6), 2) := gX10_ask_36.2.2.2.2.2.2.1
theorem dX10_ask_78 : decode cX10_ask 78 = .ok (.invokevirtual 151, 3) := gX10_ask_36.2.2.2.2.2.2.2.1
theorem dX10_ask_81 : decode cX10_ask 81 = .ok (.ireturn, 1) := gX10_ask_36.2.2.2.2.2.2.2.2.1
theorem dX10_ask_82 : decode cX10_ask 82 = .ok (.aload_n 0, 1) := gX10_ask_36.2.2.2.2.2.2.2.2.2.1
theorem dX10_ask_83 : decode cX10_ask 83 = .ok (.getfield 39, 3) := gX10_ask_36.2.2.2.2.2.2.2.2.2.2.1
theorem dX10_ask_86 : decode cX10_ask 86 = .ok (.iload 5, 2) := gX10_ask_36.2.2.2.2.2.2.2.2.2.2.2
theorem gX10_ask_48 : (decode cX10_ask 88 = .ok (.iload_n 3, 1)) ∧ (decode cX10_ask 89 = .ok (.iastore, 1)) ∧ (decode cX10_ask 90 = .ok (.aload_n 0, 1)) ∧ (decode cX10_ask 91 = .ok (.iconst 0, 1)) ∧ (decode cX10_ask 92 = .ok (.putfield 156, 3)) ∧ (decode cX10_ask 95 = .ok (.iconst 1, 1)) ∧ (decode cX10_ask 96 = .ok (.ireturn, 1)) := by decide +kernel
theorem dX10_ask_88 : decode cX10_ask 88 = .ok (.iload_n 3, 1) := gX10_ask_48.1
theorem dX10_ask_89 : decode cX10_ask 89 = .ok (.iastore, 1) := gX10_ask_48.2.1
theorem dX10_ask_90 : decode cX10_ask 90 = .ok (.aload_n 0, 1) := gX10_ask_48.2.2.1
theorem dX10_ask_91 : decode cX10_ask 91 = .ok (.iconst 0, 1) := gX10_ask_48.2.2.2.1
theorem dX10_ask_92 : decode cX10_ask 92 = .ok (.putfield 156, 3) := gX10_ask_48.2.2.2.2.1
theorem dX10_ask_95 : decode cX10_ask 95 = .ok (.iconst 1, 1) := gX10_ask_48.2.2.2.2.2.1
theorem dX10_ask_96 : decode cX10_ask 96 = .ok (.ireturn, 1) := gX10_ask_48.2.2.2.2.2.2
theorem gX10_answer_0 : (decode cX10_answer 0 = .ok (.aload_n 0, 1)) ∧ (decode cX10_answer 1 = .ok (.iload_n 1, 1)) ∧ (decode cX10_answer 2 = .ok (.iload_n 2, 1)) ∧ (decode cX10_answer 3 = .ok (.invokevirtual 203, 3)) ∧ (decode cX10_answer 6 = .ok (.istore_n 3, 1)) ∧ (decode cX10_answer 7 = .ok (.iload_n 3, 1)) ∧ (decode cX10_answer 8 = .ok (.ifCond .ge 9, 3)) ∧ (decode cX10_answer 11 = .ok (.aload_n 0, 1)) ∧ (decode cX10_answer 12 = .ok (.iload_n 3, 1)) ∧ (decode cX10_answer 13 = .ok (.invokevirtual 151, 3)) ∧ (decode cX10_answer 16 = .ok (.ireturn, 1)) ∧ (decode cX10_answer 17 = .ok (.bipush 8, 2)) := by decide +kernel
theorem dX10_answer_0 : decode cX10_answer 0 = .ok (.aload_n 0, 1) := gX10_answer_0.1
theorem dX10_answer_1 : decode cX10_answer 1 = .ok (.iload_n 1, 1) := gX10_answer_0.2.1
theorem dX10_answer_2 : decode cX10_answer 2 = .ok (.iload_n 2, 1) := gX10_answer_0.2.2.1
theorem dX10_answer_3 : decode cX10_answer 3 = .ok (.invokevirtual 203, 3) := gX10_answer_0.2.2.2.1
theorem dX10_answer_6 : decode cX10_answer 6 = .ok (.istore_n 3, 1) := gX10_answer_0.2.2.2.2.1
theorem dX10_answer_7 : decode cX10_answer 7 = .ok (.iload_n 3, 1) := gX10_answer_0.2.2.2.2.2.1
theorem dX10_answer_8 : decode cX10_answer 8 = .ok (.ifCond .ge 9, 3) := gX10_answer_0.2.2.2.2.2.2.1
theorem dX10_answer_11 : decode cX10_answer 11 = .ok (.aload_n 0, 1) := gX10_answer_0.2.2.2.2.2.2.2.1
theorem dX10_answer_12 : decode cX10_answer 12 = .ok (.iload_n 3, 1) := gX10_answer_0.2.2.2.2.2.2.2.2.1
theorem dX10_answer_13 : decode cX10_answer 13 = .ok (.invokevirtual 151, 3) := gX10_answer_0.2.2.2.2.2.2.2.2.2.1
theorem dX10_answer_16 : decode cX10_answer 16 = .ok (.ireturn, 1) := gX10_answer_0.2.2.2.2.2.2.2.2.2.2.1
theorem dX10_answer_17 : decode cX10_answer 17 = .ok (.bipush 8, 2) := gX10_answer_0.2.2.2.2.2.2.2.2.2.2.2
theorem gX10_answer_12 : (decode cX10_answer 19 = .ok (.iload_n 2, 1)) ∧ (decode cX10_answer 20 = .ok (.imul, 1)) ∧ (decode cX10_answer 21 = .ok (.iload_n 1, 1)) ∧ (decode cX10_answer 22 = .ok (.iadd, 1)) ∧ (decode cX10_answer 23 = .ok (.istore 4, 2)) ∧ (decode cX10_answer 25 = .ok (.aload_n 0, 1)) ∧ (decode cX10_answer 26 = .ok (.getfield 39, 3)) ∧ (decode cX10_answer 29 = .ok (.iload 4, 2)) ∧ (decode cX10_answer 31 = .ok (.iaload, 1)) ∧ (decode cX10_answer 32 = .ok (.ifCond .ge 10, 3)) ∧ (decode cX10_answer 35 = .ok (.aload_n 0, 1)) ∧ (decode cX10_answer 36 = .ok (.bipush (-3), 2)) := by decide +kernel
theorem dX10_answer_19 : decode cX10_answer 19 = .ok (.iload_n 2, 1) := gX10_answer_12.1
theorem dX10_answer_20 : decode cX10_answer 20 = .ok (.imul, 1) := gX10_answer_12.2.1
theorem dX10_answer_21 : decode cX10_answer 21 = .ok (.iload_n 1, 1) := gX10_answer_12.2.2.1
theorem dX10_answer_22 : decode cX10_answer 22 = .ok (.iadd, 1) := gX10_answer_12.2.2.2.1
theorem dX10_answer_23 : decode cX10_answer 23 = .ok (.istore 4, 2) := gX10_answer_12.2.2.2.2.1
theorem dX10_answer_25 : decode cX10_answer 25 = .ok (.aload_n 0, 1) := gX10_answer_12.2.2.2.2.2.1
theorem dX10_answer_26 : decode cX10_answer 26 = .ok (.getfield 39, 3) := gX10_answer_12.2.2.2.2.2.2.1
theorem dX10_answer_29 : decode cX10_answer 29 = .ok (.iload 4, 2) := gX10_answer_12.2.2.2.2.2.2.2.1
theorem dX10_answer_31 : decode cX10_answer 31 = .ok (.iaload, 1) := gX10_answer_12.2.2.2.2.2.2.2.2.1
theorem dX10_answer_32 : decode cX10_answer 32 = .ok (.ifCond .ge 10, 3) := gX10_answer_12.2.2.2.2.2.2.2.2.2.1
theorem dX10_answer_35 : decode cX10_answer 35 = .ok (.aload_n 0, 1) := gX10_answer_12.2.2.2.2.2.2.2.2.2.2.1
theorem dX10_answer_36 : decode cX10_answer 36 = .ok (.bipush (-3), 2) := gX10_answer_12.2.2.2.2.2.2.2.2.2.2.2
theorem gX10_answer_24 : (decode cX10_answer 38 = .ok (.invokevirtual 151, 3)) ∧ (decode cX10_answer 41 = .ok (.ireturn, 1)) ∧ (decode cX10_answer 42 = .ok (.aload_n 0, 1)) ∧ (decode cX10_answer 43 = .ok (.getfield 39, 3)) ∧ (decode cX10_answer 46 = .ok (.iload 4, 2)) ∧ (decode cX10_answer 48 = .ok (.iconst (-1), 1)) ∧ (decode cX10_answer 49 = .ok (.iastore, 1)) ∧ (decode cX10_answer 50 = .ok (.iconst 1, 1)) ∧ (decode cX10_answer 51 = .ok (.ireturn, 1)) := by decide +kernel
theorem dX10_answer_38 : decode cX10_answer 38 = .ok (.invokevirtual 151, 3) := gX10_answer_24.1
theorem dX10_answer_41 : decode cX10_answer 41 = .ok (.ireturn, 1) := gX10_answer_24.2.1
theorem dX10_answer_42 : decode cX10_answer 42 = .ok (.aload_n 0, 1) := gX10_answer_24.2.2.1
theorem dX10_answer_43 : decode cX10_answer 43 = .ok (.getfield 39, 3) := gX10_answer_24.2.2.2.1
theorem dX10_answer_46 : decode cX10_answer 46 = .ok (.iload 4, 2) := gX10_answer_24.2.2.2.2.1
theorem dX10_answer_48 : decode cX10_answer 48 = .ok (.iconst (-1), 1) := gX10_answer_24.2.2.2.2.2.1
theorem dX10_answer_49 : decode cX10_answer 49 = .ok (.iastore, 1) := gX10_answer_24.2.2.2.2.2.2.1
theorem dX10_answer_50 : decode cX10_answer 50 = .ok (.iconst 1, 1) := gX10_answer_24.2.2.2.2.2.2.2.1
theorem dX10_answer_51 : decode cX10_answer 51 = .ok (.ireturn, 1) := gX10_answer_24.2.2.2.2.2.2.2.2
theorem gX10_out_0 : (decode cX10_out 0 = .ok (.iload_n 1, 1)) ∧ (decode cX10_out 1 = .ok (.invokestatic 166, 3)) ∧ (decode cX10_out 4 = .ok (.ifCond .eq 11, 3)) ∧ (decode cX10_out 7 = .ok (.aload_n 0, 1)) ∧ (decode cX10_out 8 = .ok (.iload_n 2, 1)) ∧ (decode cX10_out 9 = .ok (.invokevirtual 170, 3)) ∧ (decode cX10_out 12 = .ok (.ifCond .ne 9, 3)) ∧ (decode cX10_out 15 = .ok (.aload_n 0, 1)) ∧ (decode cX10_out 16 = .ok (.iconst (-1), 1)) ∧ (decode cX10_out 17 = .ok (.invokevirtual 151, 3)) ∧ (decode cX10_out 20 = .ok (.ireturn, 1)) ∧ (decode cX10_out 21 = .ok (.bipush 8, 2)) := by decide +kernel
theorem dX10_out_0 : decode cX10_out 0 = .ok (.iload_n 1, 1) := gX10_out_0.1
theorem dX10_out_1 : decode cX10_out 1 = .ok (.invokestatic 166, 3) := gX10_out_0.2.1
theorem dX10_out_4 : decode cX10_out 4 = .ok (.ifCond .eq 11, 3) := gX10_out_0.2.2.1
theorem dX10_out_7 : decode cX10_out 7 = .ok (.aload_n 0, 1) := gX10_out_0.2.2.2.1
theorem dX10_out_8 : decode cX10_out 8 = .ok (.iload_n 2, 1) := gX10_out_0.2.2.2.2.1
theorem dX10_out_9 : decode cX10_out 9 = .ok (.invokevirtual 170, 3) := gX10_out_0.2.2.2.2.2.1
theorem dX10_out_12 : decode cX10_out 12 = .ok (.ifCond .ne 9, 3) := gX10_out_0.2.2.2.2.2.2.1
theorem dX10_out_15 : decode cX10_out 15 = .ok (.aload_n 0, 1) := gX10_out_0.2.2.2.2.2.2.2.1
theorem dX10_out_16 : decode cX10_out 16 = .ok (.iconst (-1), 1) := gX10_out_0.2.2.2.2.2.2.2.2.1
theorem dX10_out_17 : decode cX10_out 17 = .ok (.invokevirtual 151, 3) := gX10_out_0.2.2.2.2.2.2.2.2.2.1
theorem dX10_out_20 : decode cX10_out 20 = .ok (.ireturn, 1) := gX10_out_0.2.2.2.2.2.2.2.2.2.2.1
theorem dX10_out_21 : decode cX10_out 21 = .ok (.bipush 8, 2) := gX10_out_0.2.2.2.2.2.2.2.2.2.2.2
theorem gX10_out_12 : (decode cX10_out 23 = .ok (.iload_n 2, 1)) ∧ (decode cX10_out 24 = .ok (.imul, 1)) ∧ (decode cX10_out 25 = .ok (.iload_n 1, 1)) ∧ (decode cX10_out 26 = .ok (.iadd, 1)) ∧ (decode cX10_out 27 = .ok (.istore 4, 2)) ∧ (decode cX10_out 29 = .ok (.aload_n 0, 1)) ∧ (decode cX10_out 30 = .ok (.getfield 36, 3)) ∧ (decode cX10_out 33 = .ok (.iload 4, 2)) ∧ (decode cX10_out 35 = .ok (.baload, 1)) ∧ (decode cX10_out 36 = .ok (.ifCond .ne 12, 3)) ∧ (decode cX10_out 39 = .ok (.aload_n 0, 1)) ∧ (decode cX10_out 40 = .ok (.iload 4, 2)) := by decide +kernel
theorem dX10_out_23 : decode cX10_out 23 = .ok (.iload_n 2, 1) := gX10_out_12.1
theorem dX10_out_24 : decode cX10_out 24 = .ok (.imul, 1) := gX10_out_12.2.1
theorem dX10_out_25 : decode cX10_out 25 = .ok (.iload_n 1, 1) := gX10_out_12.2.2.1
theorem dX10_out_26 : decode cX10_out 26 = .ok (.iadd, 1) := gX10_out_12.2.2.2.1
theorem dX10_out_27 : decode cX10_out 27 = .ok (.istore 4, 2) := gX10_out_12.2.2.2.2.1
theorem dX10_out_29 : decode cX10_out 29 = .ok (.aload_n 0, 1) := gX10_out_12.2.2.2.2.2.1
theorem dX10_out_30 : decode cX10_out 30 = .ok (.getfield 36, 3) := gX10_out_12.2.2.2.2.2.2.1
theorem dX10_out_33 : decode cX10_out 33 = .ok (.iload 4, 2) := gX10_out_12.2.2.2.2.2.2.2.1
theorem dX10_out_35 : decode cX10_out 35 = .ok (.baload, 1) := gX10_out_12.2.2.2.2.2.2.2.2.1
theorem dX10_out_36 : decode cX10_out 36 = .ok (.ifCond .ne 12, 3) := gX10_out_12.2.2.2.2.2.2.2.2.2.1
theorem dX10_out_39 : decode cX10_out 39 = .ok (.aload_n 0, 1) := gX10_out_12.2.2.2.2.2.2.2.2.2.2.1
theorem dX10_out_40 : decode cX10_out 40 = .ok (.iload 4, 2) := gX10_out_12.2.2.2.2.2.2.2.2.2.2.2
theorem gX10_out_24 : (decode cX10_out 42 = .ok (.invokevirtual 194, 3)) ∧ (decode cX10_out 45 = .ok (.ifCond .eq 7, 3)) ∧ (decode cX10_out 48 = .ok (.iconst 1, 1)) ∧ (decode cX10_out 49 = .ok (.goto 4, 3)) ∧ (decode cX10_out 52 = .ok (.iconst 0, 1)) ∧ (decode cX10_out 53 = .ok (.istore 5, 2)) ∧ (decode cX10_out 55 = .ok (.aload_n 0, 1)) ∧ (decode cX10_out 56 = .ok (.getfield 39, 3)) ∧ (decode cX10_out 59 = .ok (.iload 4, 2)) ∧ (decode cX10_out 61 = .ok (.iload_n 3, 1)) ∧ (decode cX10_out 62 = .ok (.ifCond .ne 16, 3)) ∧ (decode cX10_out 65 = .ok (.aload_n 0, 1)) := by decide +kernel
theorem dX10_out_42 : decode cX10_out 42 = .ok (.invokevirtual 194, 3) := gX10_out_24.1
theorem dX10_out_45 : decode cX10_out 45 = .ok (.ifCond .eq 7, 3) := gX10_out_24.2.1
theorem dX10_out_48 : decode cX10_out 48 = .ok (.iconst 1, 1) := gX10_out_24.2.2.1
theorem dX10_out_49 : decode cX10_out 49 = .ok (.goto 4, 3) := gX10_out_24.2.2.2.1
theorem dX10_out_52 : decode cX10_out 52 = .ok (.iconst 0, 1) := gX10_out_24.2.2.2.2.1
theorem dX10_out_53 : decode cX10_out 53 = .ok (.istore 5, 2) := gX10_out_24.2.2.2.2.2.1
theorem dX10_out_55 : decode cX10_out 55 = .ok (.aload_n 0, 1) := gX10_out_24.2.2.2.2.2.2.1
theorem dX10_out_56 : decode cX10_out 56 = .ok (.getfield 39, 3) := gX10_out_24.2.2.2.2.2.2.2.1
theorem dX10_out_59 : decode cX10_out 59 = .ok (.iload 4, 2) := gX10_out_24.2.2.2.2.2.2.2.2.1
theorem dX10_out_61 : decode cX10_out 61 = .ok (.iload_n 3, 1) := gX10_out_24.2.2.2.2.2.2.2.2.2.1
theorem dX10_out_62 : decode cX10_out 62 = .ok (.ifCond .ne 16, 3) := gX10_out_24.2.2.2.2.2.2.2.2.2.2.1
theorem dX10_out_65 : decode cX10_out 65 = .ok (.aload_n 0, 1) := gX10_out_24.2.2.2.2.2.2.2.2.2.2.2
theorem gX10_out_36 : (decode cX10_out 66 = .ok (.iload 4, 2)) ∧ (decode cX10_out 68 = .ok (.invokevirtual 194, 3)) ∧ (decode cX10_out 71 = .ok (.ifCond .eq 7, 3)) ∧ (decode cX10_out 74 = .ok (.iconst (-1), 1)) ∧ (decode cX10_out 75 = .ok (.goto 10, 3)) ∧ (decode cX10_out 78 = .ok (.aload_n 0, 1)) ∧ (decode cX10_out 79 = .ok (.getfield 39, 3)) ∧ (decode cX10_out 82 = .ok (.iload 4, 2)) ∧ (decode cX10_out 84 = .ok (.iaload, 1)) ∧ (decode cX10_out 85 = .ok (.iastore, 1)) ∧ (decode cX10_out 86 = .ok (.aload_n 0, 1)) ∧ (decode cX10_out 87 = .ok (.getfield 36, 3)) := by decide +kernel
theorem dX10_out_66 : decode cX10_out 66 = .ok (.iload 4, 2) := gX10_out_36.1
theorem dX10_out_68 : decode cX10_out 68 = .ok (.invokevirtual 194, 3) := gX10_out_36.2.1
theorem dX10_out_71 : decode cX10_out 71 = .ok (.ifCond .eq 7, 3) := gX10_out_36.2.2.1
theorem dX10_out_74 : decode cX10_out 74 = .ok (.iconst (-1), 1) := gX10_out_36.2.2.2.1
theorem dX10_out_75 : decode cX10_out 75 = .ok (.goto 10, 3) := gX10_out_36.2.2.2.2.1
theorem dX10_out_78 : decode cX10_out 78 = .ok (.aload_n 0, 1) := gX10_out_36.2.2.2.2.2.1
theorem dX10_out_79 : decode cX10_out 79 = .ok (.getfield 39, 3) := gX10_out_36.2.2.2.2.2.2.1
theorem dX10_out_82 : decode cX10_out 82 = .ok (.iload 4, 2) := gX10_out_36.2.2.2.2.2.2.2.1
theorem dX10_out_84 : decode cX10_out 84 = .ok (.iaload, 1) := gX10_out_36.2.2.2.2.2.2.2.2.1
theorem dX10_out_85 : decode cX10_out 85 = .ok (.iastore, 1) := gX10_out_36.2.2.2.2.2.2.2.2.2.1
theorem dX10_out_86 : decode cX10_out 86 = .ok (.aload_n 0, 1) := gX10_out_36.2.2.2.2.2.2.2.2.2.2.1
theorem dX10_out_87 : decode cX10_out 87 = .ok (.getfield 36, 3) := gX10_out_36.2.2.2.2.2.2.2.2.2.2.2
theorem gX10_out_48 : (decode cX10_out 90 = .ok (.iload 4, 2)) ∧ (decode cX10_out 92 = .ok (.iload_n 3, 1)) ∧ (decode cX10_out 93 = .ok (.bastore, 1)) ∧ (decode cX10_out 94 = .ok (.aload_n 0, 1)) ∧ (decode cX10_out 95 = .ok (.iconst 0, 1)) ∧ (decode cX10_out 96 = .ok (.putfield 156, 3)) ∧ (decode cX10_out 99 = .ok (.iload 5, 2)) ∧ (decode cX10_out 101 = .ok (.iload_n 3, 1)) ∧ (decode cX10_out 102 = .ok (.if_icmp .ne 7, 3)) ∧ (decode cX10_out 105 = .ok (.iconst 0, 1)) ∧ (decode cX10_out 106 = .ok (.goto 4, 3)) ∧ (decode cX10_out 109 = .ok (.iconst 1, 1)) := by decide +kernel
theorem dX10_out_90 : decode cX10_out 90 = .ok (.iload 4, 2) := gX10_out_48.1
theorem dX10_out_92 : decode cX10_out 92 = .ok (.iload_n 3, 1) := gX10_out_48.2.1
theorem dX10_out_93 : decode cX10_out 93 = .ok (.bastore, 1) := gX10_out_48.2.2.1
theorem dX10_out_94 : decode cX10_out 94 = .ok (.aload_n 0, 1) := gX10_out_48.2.2.2.1
theorem dX10_out_95 : decode cX10_out 95 = .ok (.iconst 0, 1) := gX10_out_48.2.2.2.2.1
theorem dX10_out_96 : decode cX10_out 96 = .ok (.putfield 156, 3) := gX10_out_48.2.2.2.2.2.1
theorem dX10_out_99 : decode cX10_out 99 = .ok (.iload 5, 2) := gX10_out_48.2.2.2.2.2.2.1
theorem dX10_out_101 : decode cX10_out 101 = .ok (.iload_n 3, 1) := gX10_out_48.2.2.2.2.2.2.2.1
theorem dX10_out_102 : decode cX10_out 102 = .ok (.if_icmp .ne 7, 3) := gX10_out_48.2.2.2.2.2.2.2.2.1
theorem dX10_out_105 : decode cX10_out 105 = .ok (.iconst 0, 1) := gX10_out_48.2.2.2.2.2.2.2.2.2.1
theorem dX10_out_106 : decode cX10_out 106 = .ok (.goto 4, 3) := gX10_out_48.2.2.2.2.2.2.2.2.2.2.1
theorem dX10_out_109 : decode cX10_out 109 = .ok (.iconst 1, 1) := gX10_out_48.2.2.2.2.2.2.2.2.2.2.2
theorem gX10_out_60 : (decode cX10_out 110 = .ok (.ireturn, 1)) := by decide +kernel
theorem dX10_out_110 : decode cX10_out 110 = .ok (.ireturn, 1) := gX10_out_60
theorem gX10_most_0 : (decode cX10_most 0 = .ok (.iload_n 1, 1)) ∧ (decode cX10_most 1 = .ok (.invokestatic 166, 3)) ∧ (decode cX10_most 4 = .ok (.ifCond .ne 9, 3)) ∧ (decode cX10_most 7 = .ok (.aload_n 0, 1)) ∧ (decode cX10_most 8 = .ok (.iconst (-1), 1)) ∧ (decode cX10_most 9 = .ok (.invokevirtual 151, 3)) ∧ (decode cX10_most 12 = .ok (.ireturn, 1)) ∧ (decode cX10_most 13 = .ok (.iload_n 2, 1)) ∧ (decode cX10_most 14 = .ok (.ifCond .ge 10, 3)) ∧ (decode cX10_most 17 = .ok (.aload_n 0, 1)) ∧ (decode cX10_most 18 = .ok (.bipush (-4), 2)) ∧ (decode cX10_most 20 = .ok (.invokevirtual 151, 3)) := by decide +kernel
theorem dX10_most_0 : decode cX10_most 0 = .ok (.iload_n 1, 1) := gX10_most_0.1
theorem dX10_most_1 : decode cX10_most 1 = .ok (.invokestatic 166, 3) := gX10_most_0.2.1
theorem dX10_most_4 : decode cX10_most 4 = .ok (.ifCond .ne 9, 3) := gX10_most_0.2.2.1
theorem dX10_most_7 : decode cX10_most 7 = .ok (.aload_n 0, 1) := gX10_most_0.2.2.2.1
theorem dX10_most_8 : decode cX10_most 8 = .ok (.iconst (-1), 1) := gX10_most_0.2.2.2.2.1
theorem dX10_most_9 : decode cX10_most 9 = .ok (.invokevirtual 151, 3) := gX10_most_0.2.2.2.2.2.1
theorem dX10_most_12 : decode cX10_most 12 = .ok (.ireturn, 1) := gX10_most_0.2.2.2.2.2.2.1
theorem dX10_most_13 : decode cX10_most 13 = .ok (.iload_n 2, 1) := gX10_most_0.2.2.2.2.2.2.2.1
theorem dX10_most_14 : decode cX10_most 14 = .ok (.ifCond .ge 10, 3) := gX10_most_0.2.2.2.2.2.2.2.2.1
theorem dX10_most_17 : decode cX10_most 17 = .ok (.aload_n 0, 1) := gX10_most_0.2.2.2.2.2.2.2.2.2.1
theorem dX10_most_18 : decode cX10_most 18 = .ok (.bipush (-4), 2) := gX10_most_0.2.2.2.2.2.2.2.2.2.2.1
theorem dX10_most_20 : decode cX10_most 20 = .ok (.invokevirtual 151, 3) := gX10_most_0.2.2.2.2.2.2.2.2.2.2.2
theorem gX10_most_12 : (decode cX10_most 23 = .ok (.ireturn, 1)) ∧ (decode cX10_most 24 = .ok (.iload_n 2, 1)) ∧ (decode cX10_most 25 = .ok (.bipush 6, 2)) ∧ (decode cX10_most 27 = .ok (.if_icmp .le 10, 3)) ∧ (decode cX10_most 30 = .ok (.aload_n 0, 1)) ∧ (decode cX10_most 31 = .ok (.bipush (-6), 2)) ∧ (decode cX10_most 33 = .ok (.invokevirtual 151, 3)) ∧ (decode cX10_most 36 = .ok (.ireturn, 1)) ∧ (decode cX10_most 37 = .ok (.aload_n 0, 1)) ∧ (decode cX10_most 38 = .ok (.getfield 79, 3)) ∧ (decode cX10_most 41 = .ok (.iload_n 1, 1)) ∧ (decode cX10_most 42 = .ok (.iaload, 1)) := by decide +kernel
theorem dX10_most_23 : decode cX10_most 23 = .ok (.ireturn, 1) := gX10_most_12.1
theorem dX10_most_24 : decode cX10_most 24 = .ok (.iload_n 2, 1) := gX10_most_12.2.1
theorem dX10_most_25 : decode cX10_most 25 = .ok (.bipush 6, 2) := gX10_most_12.2.2.1
theorem dX10_most_27 : decode cX10_most 27 = .ok (.if_icmp .le 10, 3) := gX10_most_12.2.2.2.1
theorem dX10_most_30 : decode cX10_most 30 = .ok (.aload_n 0, 1) := gX10_most_12.2.2.2.2.1
theorem dX10_most_31 : decode cX10_most 31 = .ok (.bipush (-6), 2) := gX10_most_12.2.2.2.2.2.1
theorem dX10_most_33 : decode cX10_most 33 = .ok (.invokevirtual 151, 3) := gX10_most_12.2.2.2.2.2.2.1
theorem dX10_most_36 : decode cX10_most 36 = .ok (.ireturn, 1) := gX10_most_12.2.2.2.2.2.2.2.1
theorem dX10_most_37 : decode cX10_most 37 = .ok (.aload_n 0, 1) := gX10_most_12.2.2.2.2.2.2.2.2.1
theorem dX10_most_38 : decode cX10_most 38 = .ok (.getfield 79, 3) := gX10_most_12.2.2.2.2.2.2.2.2.2.1
theorem dX10_most_41 : decode cX10_most 41 = .ok (.iload_n 1, 1) := gX10_most_12.2.2.2.2.2.2.2.2.2.2.1
theorem dX10_most_42 : decode cX10_most 42 = .ok (.iaload, 1) := gX10_most_12.2.2.2.2.2.2.2.2.2.2.2
theorem gX10_most_24 : (decode cX10_most 43 = .ok (.istore_n 3, 1)) ∧ (decode cX10_most 44 = .ok (.aload_n 0, 1)) ∧ (decode cX10_most 45 = .ok (.getfield 79, 3)) ∧ (decode cX10_most 48 = .ok (.iload_n 1, 1)) ∧ (decode cX10_most 49 = .ok (.iload_n 2, 1)) ∧ (decode cX10_most 50 = .ok (.iastore, 1)) ∧ (decode cX10_most 51 = .ok (.aload_n 0, 1)) ∧ (decode cX10_most 52 = .ok (.iconst 0, 1)) ∧ (decode cX10_most 53 = .ok (.putfield 156, 3)) ∧ (decode cX10_most 56 = .ok (.iload_n 3, 1)) ∧ (decode cX10_most 57 = .ok (.ireturn, 1)) := by decide +kernel
theorem dX10_most_43 : decode cX10_most 43 = .ok (.istore_n 3, 1) := gX10_most_24.1
theorem dX10_most_44 : decode cX10_most 44 = .ok (.aload_n 0, 1) := gX10_most_24.2.1
theorem dX10_most_45 : decode cX10_most 45 = .ok (.getfield 79, 3) := gX10_most_24.2.2.1
theorem dX10_most_48 : decode cX10_most 48 = .ok (.iload_n 1, 1) := gX10_most_24.2.2.2.1
theorem dX10_most_49 : decode cX10_most 49 = .ok (.iload_n 2, 1) := gX10_most_24.2.2.2.2.1
theorem dX10_most_50 : decode cX10_most 50 = .ok (.iastore, 1) := gX10_most_24.2.2.2.2.2.1
theorem dX10_most_51 : decode cX10_most 51 = .ok (.aload_n 0, 1) := gX10_most_24.2.2.2.2.2.2.1
theorem dX10_most_52 : decode cX10_most 52 = .ok (.iconst 0, 1) := gX10_most_24.2.2.2.2.2.2.2.1
theorem dX10_most_53 : decode cX10_most 53 = .ok (.putfield 156, 3) := gX10_most_24.2.2.2.2.2.2.2.2.1
theorem dX10_most_56 : decode cX10_most 56 = .ok (.iload_n 3, 1) := gX10_most_24.2.2.2.2.2.2.2.2.2.1
theorem dX10_most_57 : decode cX10_most 57 = .ok (.ireturn, 1) := gX10_most_24.2.2.2.2.2.2.2.2.2.2
theorem gX10_rebate_0 : (decode cX10_rebate 0 = .ok (.iload_n 1, 1)) ∧ (decode cX10_rebate 1 = .ok (.invokestatic 166, 3)) ∧ (decode cX10_rebate 4 = .ok (.ifCond .ne 9, 3)) ∧ (decode cX10_rebate 7 = .ok (.aload_n 0, 1)) ∧ (decode cX10_rebate 8 = .ok (.iconst (-1), 1)) ∧ (decode cX10_rebate 9 = .ok (.invokevirtual 151, 3)) ∧ (decode cX10_rebate 12 = .ok (.ireturn, 1)) ∧ (decode cX10_rebate 13 = .ok (.iload_n 2, 1)) ∧ (decode cX10_rebate 14 = .ok (.iconst 1, 1)) ∧ (decode cX10_rebate 15 = .ok (.if_icmp .lt 7, 3)) ∧ (decode cX10_rebate 18 = .ok (.iload_n 3, 1)) ∧ (decode cX10_rebate 19 = .ok (.ifCond .ge 10, 3)) := by decide +kernel
theorem dX10_rebate_0 : decode cX10_rebate 0 = .ok (.iload_n 1, 1) := gX10_rebate_0.1
theorem dX10_rebate_1 : decode cX10_rebate 1 = .ok (.invokestatic 166, 3) := gX10_rebate_0.2.1
theorem dX10_rebate_4 : decode cX10_rebate 4 = .ok (.ifCond .ne 9, 3) := gX10_rebate_0.2.2.1
theorem dX10_rebate_7 : decode cX10_rebate 7 = .ok (.aload_n 0, 1) := gX10_rebate_0.2.2.2.1
theorem dX10_rebate_8 : decode cX10_rebate 8 = .ok (.iconst (-1), 1) := gX10_rebate_0.2.2.2.2.1
theorem dX10_rebate_9 : decode cX10_rebate 9 = .ok (.invokevirtual 151, 3) := gX10_rebate_0.2.2.2.2.2.1
theorem dX10_rebate_12 : decode cX10_rebate 12 = .ok (.ireturn, 1) := gX10_rebate_0.2.2.2.2.2.2.1
theorem dX10_rebate_13 : decode cX10_rebate 13 = .ok (.iload_n 2, 1) := gX10_rebate_0.2.2.2.2.2.2.2.1
theorem dX10_rebate_14 : decode cX10_rebate 14 = .ok (.iconst 1, 1) := gX10_rebate_0.2.2.2.2.2.2.2.2.1
theorem dX10_rebate_15 : decode cX10_rebate 15 = .ok (.if_icmp .lt 7, 3) := gX10_rebate_0.2.2.2.2.2.2.2.2.2.1
theorem dX10_rebate_18 : decode cX10_rebate 18 = .ok (.iload_n 3, 1) := gX10_rebate_0.2.2.2.2.2.2.2.2.2.2.1
theorem dX10_rebate_19 : decode cX10_rebate 19 = .ok (.ifCond .ge 10, 3) := gX10_rebate_0.2.2.2.2.2.2.2.2.2.2.2
theorem gX10_rebate_12 : (decode cX10_rebate 22 = .ok (.aload_n 0, 1)) ∧ (decode cX10_rebate 23 = .ok (.bipush (-4), 2)) ∧ (decode cX10_rebate 25 = .ok (.invokevirtual 151, 3)) ∧ (decode cX10_rebate 28 = .ok (.ireturn, 1)) ∧ (decode cX10_rebate 29 = .ok (.iload_n 2, 1)) ∧ (decode cX10_rebate 30 = .ok (.bipush 6, 2)) ∧ (decode cX10_rebate 32 = .ok (.if_icmp .gt 9, 3)) ∧ (decode cX10_rebate 35 = .ok (.iload_n 3, 1)) ∧ (decode cX10_rebate 36 = .ok (.bipush 50, 2)) ∧ (decode cX10_rebate 38 = .ok (.if_icmp .le 10, 3)) ∧ (decode cX10_rebate 41 = .ok (.aload_n 0, 1)) ∧ (decode cX10_rebate 42 = .ok (.bipush (-6), 2)) := by decide +kernel
theorem dX10_rebate_22 : decode cX10_rebate 22 = .ok (.aload_n 0, 1) := gX10_rebate_12.1
theorem dX10_rebate_23 : decode cX10_rebate 23 = .ok (.bipush (-4), 2) := gX10_rebate_12.2.1
theorem dX10_rebate_25 : decode cX10_rebate 25 = .ok (.invokevirtual 151, 3) := gX10_rebate_12.2.2.1
theorem dX10_rebate_28 : decode cX10_rebate 28 = .ok (.ireturn, 1) := gX10_rebate_12.2.2.2.1
theorem dX10_rebate_29 : decode cX10_rebate 29 = .ok (.iload_n 2, 1) := gX10_rebate_12.2.2.2.2.1
theorem dX10_rebate_30 : decode cX10_rebate 30 = .ok (.bipush 6, 2) := gX10_rebate_12.2.2.2.2.2.1
theorem dX10_rebate_32 : decode cX10_rebate 32 = .ok (.if_icmp .gt 9, 3) := gX10_rebate_12.2.2.2.2.2.2.1
theorem dX10_rebate_35 : decode cX10_rebate 35 = .ok (.iload_n 3, 1) := gX10_rebate_12.2.2.2.2.2.2.2.1
theorem dX10_rebate_36 : decode cX10_rebate 36 = .ok (.bipush 50, 2) := gX10_rebate_12.2.2.2.2.2.2.2.2.1
theorem dX10_rebate_38 : decode cX10_rebate 38 = .ok (.if_icmp .le 10, 3) := gX10_rebate_12.2.2.2.2.2.2.2.2.2.1
theorem dX10_rebate_41 : decode cX10_rebate 41 = .ok (.aload_n 0, 1) := gX10_rebate_12.2.2.2.2.2.2.2.2.2.2.1
theorem dX10_rebate_42 : decode cX10_rebate 42 = .ok (.bipush (-6), 2) := gX10_rebate_12.2.2.2.2.2.2.2.2.2.2.2
theorem gX10_rebate_24 : (decode cX10_rebate 44 = .ok (.invokevirtual 151, 3)) ∧ (decode cX10_rebate 47 = .ok (.ireturn, 1)) ∧ (decode cX10_rebate 48 = .ok (.aload_n 0, 1)) ∧ (decode cX10_rebate 49 = .ok (.getfield 82, 3)) ∧ (decode cX10_rebate 52 = .ok (.bipush 7, 2)) ∧ (decode cX10_rebate 54 = .ok (.iload_n 1, 1)) ∧ (decode cX10_rebate 55 = .ok (.imul, 1)) ∧ (decode cX10_rebate 56 = .ok (.iload_n 2, 1)) ∧ (decode cX10_rebate 57 = .ok (.iadd, 1)) ∧ (decode cX10_rebate 58 = .ok (.iaload, 1)) ∧ (decode cX10_rebate 59 = .ok (.istore 4, 2)) ∧ (decode cX10_rebate 61 = .ok (.aload_n 0, 1)) := by decide +kernel
theorem dX10_rebate_44 : decode cX10_rebate 44 = .ok (.invokevirtual 151, 3) := gX10_rebate_24.1
theorem dX10_rebate_47 : decode cX10_rebate 47 = .ok (.ireturn, 1) := gX10_rebate_24.2.1
theorem dX10_rebate_48 : decode cX10_rebate 48 = .ok (.aload_n 0, 1) := gX10_rebate_24.2.2.1
theorem dX10_rebate_49 : decode cX10_rebate 49 = .ok (.getfield 82, 3) := gX10_rebate_24.2.2.2.1
theorem dX10_rebate_52 : decode cX10_rebate 52 = .ok (.bipush 7, 2) := gX10_rebate_24.2.2.2.2.1
theorem dX10_rebate_54 : decode cX10_rebate 54 = .ok (.iload_n 1, 1) := gX10_rebate_24.2.2.2.2.2.1
theorem dX10_rebate_55 : decode cX10_rebate 55 = .ok (.imul, 1) := gX10_rebate_24.2.2.2.2.2.2.1
theorem dX10_rebate_56 : decode cX10_rebate 56 = .ok (.iload_n 2, 1) := gX10_rebate_24.2.2.2.2.2.2.2.1
theorem dX10_rebate_57 : decode cX10_rebate 57 = .ok (.iadd, 1) := gX10_rebate_24.2.2.2.2.2.2.2.2.1
theorem dX10_rebate_58 : decode cX10_rebate 58 = .ok (.iaload, 1) := gX10_rebate_24.2.2.2.2.2.2.2.2.2.1
theorem dX10_rebate_59 : decode cX10_rebate 59 = .ok (.istore 4, 2) := gX10_rebate_24.2.2.2.2.2.2.2.2.2.2.1
theorem dX10_rebate_61 : decode cX10_rebate 61 = .ok (.aload_n 0, 1) := gX10_rebate_24.2.2.2.2.2.2.2.2.2.2.2
theorem gX10_rebate_36 : (decode cX10_rebate 62 = .ok (.getfield 82, 3)) ∧ (decode cX10_rebate 65 = .ok (.bipush 7, 2)) ∧ (decode cX10_rebate 67 = .ok (.iload_n 1, 1)) ∧ (decode cX10_rebate 68 = .ok (.imul, 1)) ∧ (decode cX10_rebate 69 = .ok (.iload_n 2, 1)) ∧ (decode cX10_rebate 70 = .ok (.iadd, 1)) ∧ (decode cX10_rebate 71 = .ok (.iload_n 3, 1)) ∧ (decode cX10_rebate 72 = .ok (.iastore, 1)) ∧ (decode cX10_rebate 73 = .ok (.aload_n 0, 1)) ∧ (decode cX10_rebate 74 = .ok (.iconst 0, 1)) ∧ (decode cX10_rebate 75 = .ok (.putfield 156, 3)) ∧ (decode cX10_rebate 78 = .ok (.iload 4, 2)) := by decide +kernel
theorem dX10_rebate_62 : decode cX10_rebate 62 = .ok (.getfield 82, 3) := gX10_rebate_36.1
theorem dX10_rebate_65 : decode cX10_rebate 65 = .ok (.bipush 7, 2) := gX10_rebate_36.2.1
theorem dX10_rebate_67 : decode cX10_rebate 67 = .ok (.iload_n 1, 1) := gX10_rebate_36.2.2.1
theorem dX10_rebate_68 : decode cX10_rebate 68 = .ok (.imul, 1) := gX10_rebate_36.2.2.2.1
theorem dX10_rebate_69 : decode cX10_rebate 69 = .ok (.iload_n 2, 1) := gX10_rebate_36.2.2.2.2.1
theorem dX10_rebate_70 : decode cX10_rebate 70 = .ok (.iadd, 1) := gX10_rebate_36.2.2.2.2.2.1
theorem dX10_rebate_71 : decode cX10_rebate 71 = .ok (.iload_n 3, 1) := gX10_rebate_36.2.2.2.2.2.2.1
theorem dX10_rebate_72 : decode cX10_rebate 72 = .ok (.iastore, 1) := gX10_rebate_36.2.2.2.2.2.2.2.1
theorem dX10_rebate_73 : decode cX10_rebate 73 = .ok (.aload_n 0, 1) := gX10_rebate_36.2.2.2.2.2.2.2.2.1
theorem dX10_rebate_74 : decode cX10_rebate 74 = .ok (.iconst 0, 1) := gX10_rebate_36.2.2.2.2.2.2.2.2.2.1
theorem dX10_rebate_75 : decode cX10_rebate 75 = .ok (.putfield 156, 3) := gX10_rebate_36.2.2.2.2.2.2.2.2.2.2.1
theorem dX10_rebate_78 : decode cX10_rebate 78 = .ok (.iload 4, 2) := gX10_rebate_36.2.2.2.2.2.2.2.2.2.2.2
theorem gX10_rebate_48 : (decode cX10_rebate 80 = .ok (.ireturn, 1)) := by decide +kernel
theorem dX10_rebate_80 : decode cX10_rebate 80 = .ok (.ireturn, 1) := gX10_rebate_48
theorem gX10_valueOf_0 : (decode cX10_valueOf 0 = .ok (.aload_n 0, 1)) ∧ (decode cX10_valueOf 1 = .ok (.getfield 100, 3)) ∧ (decode cX10_valueOf 4 = .ok (.iload_n 1, 1)) ∧ (decode cX10_valueOf 5 = .ok (.iaload, 1)) ∧ (decode cX10_valueOf 6 = .ok (.i2l, 1)) ∧ (decode cX10_valueOf 7 = .ok (.bipush 100, 2)) ∧ (decode cX10_valueOf 9 = .ok (.aload_n 0, 1)) ∧ (decode cX10_valueOf 10 = .ok (.getfield 82, 3)) ∧ (decode cX10_valueOf 13 = .ok (.bipush 7, 2)) ∧ (decode cX10_valueOf 15 = .ok (.iload_n 1, 1)) ∧ (decode cX10_valueOf 16 = .ok (.imul, 1)) ∧ (decode cX10_valueOf 17 = .ok (.aload_n 0, 1)) := by decide +kernel
theorem dX10_valueOf_0 : decode cX10_valueOf 0 = .ok (.aload_n 0, 1) := gX10_valueOf_0.1
theorem dX10_valueOf_1 : decode cX10_valueOf 1 = .ok (.getfield 100, 3) := gX10_valueOf_0.2.1
theorem dX10_valueOf_4 : decode cX10_valueOf 4 = .ok (.iload_n 1, 1) := gX10_valueOf_0.2.2.1
theorem dX10_valueOf_5 : decode cX10_valueOf 5 = .ok (.iaload, 1) := gX10_valueOf_0.2.2.2.1
theorem dX10_valueOf_6 : decode cX10_valueOf 6 = .ok (.i2l, 1) := gX10_valueOf_0.2.2.2.2.1
theorem dX10_valueOf_7 : decode cX10_valueOf 7 = .ok (.bipush 100, 2) := gX10_valueOf_0.2.2.2.2.2.1
theorem dX10_valueOf_9 : decode cX10_valueOf 9 = .ok (.aload_n 0, 1) := gX10_valueOf_0.2.2.2.2.2.2.1
theorem dX10_valueOf_10 : decode cX10_valueOf 10 = .ok (.getfield 82, 3) := gX10_valueOf_0.2.2.2.2.2.2.2.1
theorem dX10_valueOf_13 : decode cX10_valueOf 13 = .ok (.bipush 7, 2) := gX10_valueOf_0.2.2.2.2.2.2.2.2.1
theorem dX10_valueOf_15 : decode cX10_valueOf 15 = .ok (.iload_n 1, 1) := gX10_valueOf_0.2.2.2.2.2.2.2.2.2.1
theorem dX10_valueOf_16 : decode cX10_valueOf 16 = .ok (.imul, 1) := gX10_valueOf_0.2.2.2.2.2.2.2.2.2.2.1
theorem dX10_valueOf_17 : decode cX10_valueOf 17 = .ok (.aload_n 0, 1) := gX10_valueOf_0.2.2.2.2.2.2.2.2.2.2.2
theorem gX10_valueOf_12 : (decode cX10_valueOf 18 = .ok (.getfield 97, 3)) ∧ (decode cX10_valueOf 21 = .ok (.iload_n 1, 1)) ∧ (decode cX10_valueOf 22 = .ok (.iaload, 1)) ∧ (decode cX10_valueOf 23 = .ok (.iadd, 1)) ∧ (decode cX10_valueOf 24 = .ok (.iaload, 1)) ∧ (decode cX10_valueOf 25 = .ok (.isub, 1)) ∧ (decode cX10_valueOf 26 = .ok (.i2l, 1)) ∧ (decode cX10_valueOf 27 = .ok (.lmul, 1)) ∧ (decode cX10_valueOf 28 = .ok (.ldc2_w 327, 3)) ∧ (decode cX10_valueOf 31 = .ok (.ladd, 1)) ∧ (decode cX10_valueOf 32 = .ok (.ldc2_w 187, 3)) ∧ (decode cX10_valueOf 35 = .ok (.ldiv, 1)) := by decide +kernel
theorem dX10_valueOf_18 : decode cX10_valueOf 18 = .ok (.getfield 97, 3) := gX10_valueOf_12.1
theorem dX10_valueOf_21 : decode cX10_valueOf 21 = .ok (.iload_n 1, 1) := gX10_valueOf_12.2.1
theorem dX10_valueOf_22 : decode cX10_valueOf 22 = .ok (.iaload, 1) := gX10_valueOf_12.2.2.1
theorem dX10_valueOf_23 : decode cX10_valueOf 23 = .ok (.iadd, 1) := gX10_valueOf_12.2.2.2.1
theorem dX10_valueOf_24 : decode cX10_valueOf 24 = .ok (.iaload, 1) := gX10_valueOf_12.2.2.2.2.1
theorem dX10_valueOf_25 : decode cX10_valueOf 25 = .ok (.isub, 1) := gX10_valueOf_12.2.2.2.2.2.1
theorem dX10_valueOf_26 : decode cX10_valueOf 26 = .ok (.i2l, 1) := gX10_valueOf_12.2.2.2.2.2.2.1
theorem dX10_valueOf_27 : decode cX10_valueOf 27 = .ok (.lmul, 1) := gX10_valueOf_12.2.2.2.2.2.2.2.1
theorem dX10_valueOf_28 : decode cX10_valueOf 28 = .ok (.ldc2_w 327, 3) := gX10_valueOf_12.2.2.2.2.2.2.2.2.1
theorem dX10_valueOf_31 : decode cX10_valueOf 31 = .ok (.ladd, 1) := gX10_valueOf_12.2.2.2.2.2.2.2.2.2.1
theorem dX10_valueOf_32 : decode cX10_valueOf 32 = .ok (.ldc2_w 187, 3) := gX10_valueOf_12.2.2.2.2.2.2.2.2.2.2.1
theorem dX10_valueOf_35 : decode cX10_valueOf 35 = .ok (.ldiv, 1) := gX10_valueOf_12.2.2.2.2.2.2.2.2.2.2.2
theorem gX10_valueOf_24 : (decode cX10_valueOf 36 = .ok (.l2i, 1)) ∧ (decode cX10_valueOf 37 = .ok (.ireturn, 1)) := by decide +kernel
theorem dX10_valueOf_36 : decode cX10_valueOf 36 = .ok (.l2i, 1) := gX10_valueOf_24.1
theorem dX10_valueOf_37 : decode cX10_valueOf 37 = .ok (.ireturn, 1) := gX10_valueOf_24.2
theorem gX10_tryPicks_0 : (decode cX10_tryPicks 0 = .ok (.iconst 0, 1)) ∧ (decode cX10_tryPicks 1 = .ok (.istore_n 1, 1)) ∧ (decode cX10_tryPicks 2 = .ok (.iconst 0, 1)) ∧ (decode cX10_tryPicks 3 = .ok (.istore_n 2, 1)) ∧ (decode cX10_tryPicks 4 = .ok (.iconst 0, 1)) ∧ (decode cX10_tryPicks 5 = .ok (.istore_n 3, 1)) ∧ (decode cX10_tryPicks 6 = .ok (.iload_n 3, 1)) ∧ (decode cX10_tryPicks 7 = .ok (.bipush 8, 2)) ∧ (decode cX10_tryPicks 9 = .ok (.if_icmp .ge 23, 3)) ∧ (decode cX10_tryPicks 12 = .ok (.aload_n 0, 1)) ∧ (decode cX10_tryPicks 13 = .ok (.getfield 97, 3)) ∧ (decode cX10_tryPicks 16 = .ok (.iload_n 3, 1)) := by decide +kernel
theorem dX10_tryPicks_0 : decode cX10_tryPicks 0 = .ok (.iconst 0, 1) := gX10_tryPicks_0.1
theorem dX10_tryPicks_1 : decode cX10_tryPicks 1 = .ok (.istore_n 1, 1) := gX10_tryPicks_0.2.1
theorem dX10_tryPicks_2 : decode cX10_tryPicks 2 = .ok (.iconst 0, 1) := gX10_tryPicks_0.2.2.1
theorem dX10_tryPicks_3 : decode cX10_tryPicks 3 = .ok (.istore_n 2, 1) := gX10_tryPicks_0.2.2.2.1
theorem dX10_tryPicks_4 : decode cX10_tryPicks 4 = .ok (.iconst 0, 1) := gX10_tryPicks_0.2.2.2.2.1
theorem dX10_tryPicks_5 : decode cX10_tryPicks 5 = .ok (.istore_n 3, 1) := gX10_tryPicks_0.2.2.2.2.2.1
theorem dX10_tryPicks_6 : decode cX10_tryPicks 6 = .ok (.iload_n 3, 1) := gX10_tryPicks_0.2.2.2.2.2.2.1
theorem dX10_tryPicks_7 : decode cX10_tryPicks 7 = .ok (.bipush 8, 2) := gX10_tryPicks_0.2.2.2.2.2.2.2.1
theorem dX10_tryPicks_9 : decode cX10_tryPicks 9 = .ok (.if_icmp .ge 23, 3) := gX10_tryPicks_0.2.2.2.2.2.2.2.2.1
theorem dX10_tryPicks_12 : decode cX10_tryPicks 12 = .ok (.aload_n 0, 1) := gX10_tryPicks_0.2.2.2.2.2.2.2.2.2.1
theorem dX10_tryPicks_13 : decode cX10_tryPicks 13 = .ok (.getfield 97, 3) := gX10_tryPicks_0.2.2.2.2.2.2.2.2.2.2.1
theorem dX10_tryPicks_16 : decode cX10_tryPicks 16 = .ok (.iload_n 3, 1) := gX10_tryPicks_0.2.2.2.2.2.2.2.2.2.2.2
theorem gX10_tryPicks_12 : (decode cX10_tryPicks 17 = .ok (.iconst 0, 1)) ∧ (decode cX10_tryPicks 18 = .ok (.iastore, 1)) ∧ (decode cX10_tryPicks 19 = .ok (.aload_n 0, 1)) ∧ (decode cX10_tryPicks 20 = .ok (.getfield 100, 3)) ∧ (decode cX10_tryPicks 23 = .ok (.iload_n 3, 1)) ∧ (decode cX10_tryPicks 24 = .ok (.iconst 0, 1)) ∧ (decode cX10_tryPicks 25 = .ok (.iastore, 1)) ∧ (decode cX10_tryPicks 26 = .ok (.iinc 3 1, 3)) ∧ (decode cX10_tryPicks 29 = .ok (.goto (-23), 3)) ∧ (decode cX10_tryPicks 32 = .ok (.iconst 0, 1)) ∧ (decode cX10_tryPicks 33 = .ok (.istore_n 3, 1)) ∧ (decode cX10_tryPicks 34 = .ok (.iload_n 3, 1)) := by decide +kernel
theorem dX10_tryPicks_17 : decode cX10_tryPicks 17 = .ok (.iconst 0, 1) := gX10_tryPicks_12.1
theorem dX10_tryPicks_18 : decode cX10_tryPicks 18 = .ok (.iastore, 1) := gX10_tryPicks_12.2.1
theorem dX10_tryPicks_19 : decode cX10_tryPicks 19 = .ok (.aload_n 0, 1) := gX10_tryPicks_12.2.2.1
theorem dX10_tryPicks_20 : decode cX10_tryPicks 20 = .ok (.getfield 100, 3) := gX10_tryPicks_12.2.2.2.1
theorem dX10_tryPicks_23 : decode cX10_tryPicks 23 = .ok (.iload_n 3, 1) := gX10_tryPicks_12.2.2.2.2.1
theorem dX10_tryPicks_24 : decode cX10_tryPicks 24 = .ok (.iconst 0, 1) := gX10_tryPicks_12.2.2.2.2.2.1
theorem dX10_tryPicks_25 : decode cX10_tryPicks 25 = .ok (.iastore, 1) := gX10_tryPicks_12.2.2.2.2.2.2.1
theorem dX10_tryPicks_26 : decode cX10_tryPicks 26 = .ok (.iinc 3 1, 3) := gX10_tryPicks_12.2.2.2.2.2.2.2.1
theorem dX10_tryPicks_29 : decode cX10_tryPicks 29 = .ok (.goto (-23), 3) := gX10_tryPicks_12.2.2.2.2.2.2.2.2.1
theorem dX10_tryPicks_32 : decode cX10_tryPicks 32 = .ok (.iconst 0, 1) := gX10_tryPicks_12.2.2.2.2.2.2.2.2.2.1
theorem dX10_tryPicks_33 : decode cX10_tryPicks 33 = .ok (.istore_n 3, 1) := gX10_tryPicks_12.2.2.2.2.2.2.2.2.2.2.1
theorem dX10_tryPicks_34 : decode cX10_tryPicks 34 = .ok (.iload_n 3, 1) := gX10_tryPicks_12.2.2.2.2.2.2.2.2.2.2.2
theorem gX10_tryPicks_24 : (decode cX10_tryPicks 35 = .ok (.aload_n 0, 1)) ∧ (decode cX10_tryPicks 36 = .ok (.getfield 17, 3)) ∧ (decode cX10_tryPicks 39 = .ok (.if_icmp .ge 86, 3)) ∧ (decode cX10_tryPicks 42 = .ok (.aload_n 0, 1)) ∧ (decode cX10_tryPicks 43 = .ok (.getfield 94, 3)) ∧ (decode cX10_tryPicks 46 = .ok (.iload_n 3, 1)) ∧ (decode cX10_tryPicks 47 = .ok (.iaload, 1)) ∧ (decode cX10_tryPicks 48 = .ok (.aload_n 0, 1)) ∧ (decode cX10_tryPicks 49 = .ok (.getfield 91, 3)) ∧ (decode cX10_tryPicks 52 = .ok (.iload_n 3, 1)) ∧ (decode cX10_tryPicks 53 = .ok (.iaload, 1)) ∧ (decode cX10_tryPicks 54 = .ok (.if_icmp .ge 65, 3)) := by decide +kernel
theorem dX10_tryPicks_35 : decode cX10_tryPicks 35 = .ok (.aload_n 0, 1) := gX10_tryPicks_24.1
theorem dX10_tryPicks_36 : decode cX10_tryPicks 36 = .ok (.getfield 17, 3) := gX10_tryPicks_24.2.1
theorem dX10_tryPicks_39 : decode cX10_tryPicks 39 = .ok (.if_icmp .ge 86, 3) := gX10_tryPicks_24.2.2.1
theorem dX10_tryPicks_42 : decode cX10_tryPicks 42 = .ok (.aload_n 0, 1) := gX10_tryPicks_24.2.2.2.1
theorem dX10_tryPicks_43 : decode cX10_tryPicks 43 = .ok (.getfield 94, 3) := gX10_tryPicks_24.2.2.2.2.1
theorem dX10_tryPicks_46 : decode cX10_tryPicks 46 = .ok (.iload_n 3, 1) := gX10_tryPicks_24.2.2.2.2.2.1
theorem dX10_tryPicks_47 : decode cX10_tryPicks 47 = .ok (.iaload, 1) := gX10_tryPicks_24.2.2.2.2.2.2.1
theorem dX10_tryPicks_48 : decode cX10_tryPicks 48 = .ok (.aload_n 0, 1) := gX10_tryPicks_24.2.2.2.2.2.2.2.1
theorem dX10_tryPicks_49 : decode cX10_tryPicks 49 = .ok (.getfield 91, 3) := gX10_tryPicks_24.2.2.2.2.2.2.2.2.1
theorem dX10_tryPicks_52 : decode cX10_tryPicks 52 = .ok (.iload_n 3, 1) := gX10_tryPicks_24.2.2.2.2.2.2.2.2.2.1
theorem dX10_tryPicks_53 : decode cX10_tryPicks 53 = .ok (.iaload, 1) := gX10_tryPicks_24.2.2.2.2.2.2.2.2.2.2.1
theorem dX10_tryPicks_54 : decode cX10_tryPicks 54 = .ok (.if_icmp .ge 65, 3) := gX10_tryPicks_24.2.2.2.2.2.2.2.2.2.2.2
theorem gX10_tryPicks_36 : (decode cX10_tryPicks 57 = .ok (.aload_n 0, 1)) ∧ (decode cX10_tryPicks 58 = .ok (.getfield 88, 3)) ∧ (decode cX10_tryPicks 61 = .ok (.bipush 8, 2)) ∧ (decode cX10_tryPicks 63 = .ok (.iload_n 3, 1)) ∧ (decode cX10_tryPicks 64 = .ok (.imul, 1)) ∧ (decode cX10_tryPicks 65 = .ok (.aload_n 0, 1)) ∧ (decode cX10_tryPicks 66 = .ok (.getfield 94, 3)) ∧ (decode cX10_tryPicks 69 = .ok (.iload_n 3, 1)) ∧ (decode cX10_tryPicks 70 = .ok (.iaload, 1)) ∧ (decode cX10_tryPicks 71 = .ok (.iadd, 1)) ∧ (decode cX10_tryPicks 72 = .ok (.iaload, 1)) ∧ (decode cX10_tryPicks 73 = .ok (.istore 4, 2)) := by decide +kernel
theorem dX10_tryPicks_57 : decode cX10_tryPicks 57 = .ok (.aload_n 0, 1) := gX10_tryPicks_36.1
theorem dX10_tryPicks_58 : decode cX10_tryPicks 58 = .ok (.getfield 88, 3) := gX10_tryPicks_36.2.1
theorem dX10_tryPicks_61 : decode cX10_tryPicks 61 = .ok (.bipush 8, 2) := gX10_tryPicks_36.2.2.1
theorem dX10_tryPicks_63 : decode cX10_tryPicks 63 = .ok (.iload_n 3, 1) := gX10_tryPicks_36.2.2.2.1
theorem dX10_tryPicks_64 : decode cX10_tryPicks 64 = .ok (.imul, 1) := gX10_tryPicks_36.2.2.2.2.1
theorem dX10_tryPicks_65 : decode cX10_tryPicks 65 = .ok (.aload_n 0, 1) := gX10_tryPicks_36.2.2.2.2.2.1
theorem dX10_tryPicks_66 : decode cX10_tryPicks 66 = .ok (.getfield 94, 3) := gX10_tryPicks_36.2.2.2.2.2.2.1
theorem dX10_tryPicks_69 : decode cX10_tryPicks 69 = .ok (.iload_n 3, 1) := gX10_tryPicks_36.2.2.2.2.2.2.2.1
theorem dX10_tryPicks_70 : decode cX10_tryPicks 70 = .ok (.iaload, 1) := gX10_tryPicks_36.2.2.2.2.2.2.2.2.1
theorem dX10_tryPicks_71 : decode cX10_tryPicks 71 = .ok (.iadd, 1) := gX10_tryPicks_36.2.2.2.2.2.2.2.2.2.1
theorem dX10_tryPicks_72 : decode cX10_tryPicks 72 = .ok (.iaload, 1) := gX10_tryPicks_36.2.2.2.2.2.2.2.2.2.2.1
theorem dX10_tryPicks_73 : decode cX10_tryPicks 73 = .ok (.istore 4, 2) := gX10_tryPicks_36.2.2.2.2.2.2.2.2.2.2.2
theorem gX10_tryPicks_48 : (decode cX10_tryPicks 75 = .ok (.aload_n 0, 1)) ∧ (decode cX10_tryPicks 76 = .ok (.getfield 97, 3)) ∧ (decode cX10_tryPicks 79 = .ok (.iload 4, 2)) ∧ (decode cX10_tryPicks 81 = .ok (.dup2, 1)) ∧ (decode cX10_tryPicks 82 = .ok (.iaload, 1)) ∧ (decode cX10_tryPicks 83 = .ok (.iconst 1, 1)) ∧ (decode cX10_tryPicks 84 = .ok (.iadd, 1)) ∧ (decode cX10_tryPicks 85 = .ok (.iastore, 1)) ∧ (decode cX10_tryPicks 86 = .ok (.aload_n 0, 1)) ∧ (decode cX10_tryPicks 87 = .ok (.getfield 100, 3)) ∧ (decode cX10_tryPicks 90 = .ok (.iload 4, 2)) ∧ (decode cX10_tryPicks 92 = .ok (.dup2, 1)) := by decide +kernel
theorem dX10_tryPicks_75 : decode cX10_tryPicks 75 = .ok (.aload_n 0, 1) := gX10_tryPicks_48.1
theorem dX10_tryPicks_76 : decode cX10_tryPicks 76 = .ok (.getfield 97, 3) := gX10_tryPicks_48.2.1
theorem dX10_tryPicks_79 : decode cX10_tryPicks 79 = .ok (.iload 4, 2) := gX10_tryPicks_48.2.2.1
theorem dX10_tryPicks_81 : decode cX10_tryPicks 81 = .ok (.dup2, 1) := gX10_tryPicks_48.2.2.2.1
theorem dX10_tryPicks_82 : decode cX10_tryPicks 82 = .ok (.iaload, 1) := gX10_tryPicks_48.2.2.2.2.1
theorem dX10_tryPicks_83 : decode cX10_tryPicks 83 = .ok (.iconst 1, 1) := gX10_tryPicks_48.2.2.2.2.2.1
theorem dX10_tryPicks_84 : decode cX10_tryPicks 84 = .ok (.iadd, 1) := gX10_tryPicks_48.2.2.2.2.2.2.1
theorem dX10_tryPicks_85 : decode cX10_tryPicks 85 = .ok (.iastore, 1) := gX10_tryPicks_48.2.2.2.2.2.2.2.1
theorem dX10_tryPicks_86 : decode cX10_tryPicks 86 = .ok (.aload_n 0, 1) := gX10_tryPicks_48.2.2.2.2.2.2.2.2.1
theorem dX10_tryPicks_87 : decode cX10_tryPicks 87 = .ok (.getfield 100, 3) := gX10_tryPicks_48.2.2.2.2.2.2.2.2.2.1
theorem dX10_tryPicks_90 : decode cX10_tryPicks 90 = .ok (.iload 4, 2) := gX10_tryPicks_48.2.2.2.2.2.2.2.2.2.2.1
theorem dX10_tryPicks_92 : decode cX10_tryPicks 92 = .ok (.dup2, 1) := gX10_tryPicks_48.2.2.2.2.2.2.2.2.2.2.2
theorem gX10_tryPicks_60 : (decode cX10_tryPicks 93 = .ok (.iaload, 1)) ∧ (decode cX10_tryPicks 94 = .ok (.aload_n 0, 1)) ∧ (decode cX10_tryPicks 95 = .ok (.bipush 8, 2)) ∧ (decode cX10_tryPicks 97 = .ok (.iload_n 3, 1)) ∧ (decode cX10_tryPicks 98 = .ok (.imul, 1)) ∧ (decode cX10_tryPicks 99 = .ok (.iload 4, 2)) ∧ (decode cX10_tryPicks 101 = .ok (.iadd, 1)) ∧ (decode cX10_tryPicks 102 = .ok (.invokevirtual 191, 3)) ∧ (decode cX10_tryPicks 105 = .ok (.iadd, 1)) ∧ (decode cX10_tryPicks 106 = .ok (.iastore, 1)) ∧ (decode cX10_tryPicks 107 = .ok (.iload_n 2, 1)) ∧ (decode cX10_tryPicks 108 = .ok (.aload_n 0, 1)) := by decide +kernel
theorem dX10_tryPicks_93 : decode cX10_tryPicks 93 = .ok (.iaload, 1) := gX10_tryPicks_60.1
theorem dX10_tryPicks_94 : decode cX10_tryPicks 94 = .ok (.aload_n 0, 1) := gX10_tryPicks_60.2.1
theorem dX10_tryPicks_95 : decode cX10_tryPicks 95 = .ok (.bipush 8, 2) := gX10_tryPicks_60.2.2.1
theorem dX10_tryPicks_97 : decode cX10_tryPicks 97 = .ok (.iload_n 3, 1) := gX10_tryPicks_60.2.2.2.1
theorem dX10_tryPicks_98 : decode cX10_tryPicks 98 = .ok (.imul, 1) := gX10_tryPicks_60.2.2.2.2.1
theorem dX10_tryPicks_99 : decode cX10_tryPicks 99 = .ok (.iload 4, 2) := gX10_tryPicks_60.2.2.2.2.2.1
theorem dX10_tryPicks_101 : decode cX10_tryPicks 101 = .ok (.iadd, 1) := gX10_tryPicks_60.2.2.2.2.2.2.1
theorem dX10_tryPicks_102 : decode cX10_tryPicks 102 = .ok (.invokevirtual 191, 3) := gX10_tryPicks_60.2.2.2.2.2.2.2.1
theorem dX10_tryPicks_105 : decode cX10_tryPicks 105 = .ok (.iadd, 1) := gX10_tryPicks_60.2.2.2.2.2.2.2.2.1
theorem dX10_tryPicks_106 : decode cX10_tryPicks 106 = .ok (.iastore, 1) := gX10_tryPicks_60.2.2.2.2.2.2.2.2.2.1
theorem dX10_tryPicks_107 : decode cX10_tryPicks 107 = .ok (.iload_n 2, 1) := gX10_tryPicks_60.2.2.2.2.2.2.2.2.2.2.1
theorem dX10_tryPicks_108 : decode cX10_tryPicks 108 = .ok (.aload_n 0, 1) := gX10_tryPicks_60.2.2.2.2.2.2.2.2.2.2.2
theorem gX10_tryPicks_72 : (decode cX10_tryPicks 109 = .ok (.getfield 94, 3)) ∧ (decode cX10_tryPicks 112 = .ok (.iload_n 3, 1)) ∧ (decode cX10_tryPicks 113 = .ok (.iaload, 1)) ∧ (decode cX10_tryPicks 114 = .ok (.iadd, 1)) ∧ (decode cX10_tryPicks 115 = .ok (.istore_n 2, 1)) ∧ (decode cX10_tryPicks 116 = .ok (.iinc 1 1, 3)) ∧ (decode cX10_tryPicks 119 = .ok (.iinc 3 1, 3)) ∧ (decode cX10_tryPicks 122 = .ok (.goto (-88), 3)) ∧ (decode cX10_tryPicks 125 = .ok (.iconst 0, 1)) ∧ (decode cX10_tryPicks 126 = .ok (.istore_n 3, 1)) ∧ (decode cX10_tryPicks 127 = .ok (.iconst 0, 1)) ∧ (decode cX10_tryPicks 128 = .ok (.istore 4, 2)) := by decide +kernel
theorem dX10_tryPicks_109 : decode cX10_tryPicks 109 = .ok (.getfield 94, 3) := gX10_tryPicks_72.1
theorem dX10_tryPicks_112 : decode cX10_tryPicks 112 = .ok (.iload_n 3, 1) := gX10_tryPicks_72.2.1
theorem dX10_tryPicks_113 : decode cX10_tryPicks 113 = .ok (.iaload, 1) := gX10_tryPicks_72.2.2.1
theorem dX10_tryPicks_114 : decode cX10_tryPicks 114 = .ok (.iadd, 1) := gX10_tryPicks_72.2.2.2.1
theorem dX10_tryPicks_115 : decode cX10_tryPicks 115 = .ok (.istore_n 2, 1) := gX10_tryPicks_72.2.2.2.2.1
theorem dX10_tryPicks_116 : decode cX10_tryPicks 116 = .ok (.iinc 1 1, 3) := gX10_tryPicks_72.2.2.2.2.2.1
theorem dX10_tryPicks_119 : decode cX10_tryPicks 119 = .ok (.iinc 3 1, 3) := gX10_tryPicks_72.2.2.2.2.2.2.1
theorem dX10_tryPicks_122 : decode cX10_tryPicks 122 = .ok (.goto (-88), 3) := gX10_tryPicks_72.2.2.2.2.2.2.2.1
theorem dX10_tryPicks_125 : decode cX10_tryPicks 125 = .ok (.iconst 0, 1) := gX10_tryPicks_72.2.2.2.2.2.2.2.2.1
theorem dX10_tryPicks_126 : decode cX10_tryPicks 126 = .ok (.istore_n 3, 1) := gX10_tryPicks_72.2.2.2.2.2.2.2.2.2.1
theorem dX10_tryPicks_127 : decode cX10_tryPicks 127 = .ok (.iconst 0, 1) := gX10_tryPicks_72.2.2.2.2.2.2.2.2.2.2.1
theorem dX10_tryPicks_128 : decode cX10_tryPicks 128 = .ok (.istore 4, 2) := gX10_tryPicks_72.2.2.2.2.2.2.2.2.2.2.2
theorem gX10_tryPicks_84 : (decode cX10_tryPicks 130 = .ok (.iload 4, 2)) ∧ (decode cX10_tryPicks 132 = .ok (.bipush 8, 2)) ∧ (decode cX10_tryPicks 134 = .ok (.if_icmp .ge 50, 3)) ∧ (decode cX10_tryPicks 137 = .ok (.aload_n 0, 1)) ∧ (decode cX10_tryPicks 138 = .ok (.getfield 97, 3)) ∧ (decode cX10_tryPicks 141 = .ok (.iload 4, 2)) ∧ (decode cX10_tryPicks 143 = .ok (.iaload, 1)) ∧ (decode cX10_tryPicks 144 = .ok (.aload_n 0, 1)) ∧ (decode cX10_tryPicks 145 = .ok (.getfield 79, 3)) ∧ (decode cX10_tryPicks 148 = .ok (.iload 4, 2)) ∧ (decode cX10_tryPicks 150 = .ok (.iaload, 1)) ∧ (decode cX10_tryPicks 151 = .ok (.if_icmp .le 4, 3)) := by decide +kernel
theorem dX10_tryPicks_130 : decode cX10_tryPicks 130 = .ok (.iload 4, 2) := gX10_tryPicks_84.1
theorem dX10_tryPicks_132 : decode cX10_tryPicks 132 = .ok (.bipush 8, 2) := gX10_tryPicks_84.2.1
theorem dX10_tryPicks_134 : decode cX10_tryPicks 134 = .ok (.if_icmp .ge 50, 3) := gX10_tryPicks_84.2.2.1
theorem dX10_tryPicks_137 : decode cX10_tryPicks 137 = .ok (.aload_n 0, 1) := gX10_tryPicks_84.2.2.2.1
theorem dX10_tryPicks_138 : decode cX10_tryPicks 138 = .ok (.getfield 97, 3) := gX10_tryPicks_84.2.2.2.2.1
theorem dX10_tryPicks_141 : decode cX10_tryPicks 141 = .ok (.iload 4, 2) := gX10_tryPicks_84.2.2.2.2.2.1
theorem dX10_tryPicks_143 : decode cX10_tryPicks 143 = .ok (.iaload, 1) := gX10_tryPicks_84.2.2.2.2.2.2.1
theorem dX10_tryPicks_144 : decode cX10_tryPicks 144 = .ok (.aload_n 0, 1) := gX10_tryPicks_84.2.2.2.2.2.2.2.1
theorem dX10_tryPicks_145 : decode cX10_tryPicks 145 = .ok (.getfield 79, 3) := gX10_tryPicks_84.2.2.2.2.2.2.2.2.1
theorem dX10_tryPicks_148 : decode cX10_tryPicks 148 = .ok (.iload 4, 2) := gX10_tryPicks_84.2.2.2.2.2.2.2.2.2.1
theorem dX10_tryPicks_150 : decode cX10_tryPicks 150 = .ok (.iaload, 1) := gX10_tryPicks_84.2.2.2.2.2.2.2.2.2.2.1
theorem dX10_tryPicks_151 : decode cX10_tryPicks 151 = .ok (.if_icmp .le 4, 3) := gX10_tryPicks_84.2.2.2.2.2.2.2.2.2.2.2
theorem gX10_tryPicks_96 : (decode cX10_tryPicks 154 = .ok (.return_, 1)) ∧ (decode cX10_tryPicks 155 = .ok (.iload_n 3, 1)) ∧ (decode cX10_tryPicks 156 = .ok (.aload_n 0, 1)) ∧ (decode cX10_tryPicks 157 = .ok (.getfield 97, 3)) ∧ (decode cX10_tryPicks 160 = .ok (.iload 4, 2)) ∧ (decode cX10_tryPicks 162 = .ok (.iaload, 1)) ∧ (decode cX10_tryPicks 163 = .ok (.ifCond .le 12, 3)) ∧ (decode cX10_tryPicks 166 = .ok (.aload_n 0, 1)) ∧ (decode cX10_tryPicks 167 = .ok (.iload 4, 2)) ∧ (decode cX10_tryPicks 169 = .ok (.invokevirtual 329, 3)) ∧ (decode cX10_tryPicks 172 = .ok (.goto 4, 3)) ∧ (decode cX10_tryPicks 175 = .ok (.iconst 0, 1)) := by decide +kernel
theorem dX10_tryPicks_154 : decode cX10_tryPicks 154 = .ok (.return_, 1) := gX10_tryPicks_96.1
theorem dX10_tryPicks_155 : decode cX10_tryPicks 155 = .ok (.iload_n 3, 1) := gX10_tryPicks_96.2.1
theorem dX10_tryPicks_156 : decode cX10_tryPicks 156 = .ok (.aload_n 0, 1) := gX10_tryPicks_96.2.2.1
theorem dX10_tryPicks_157 : decode cX10_tryPicks 157 = .ok (.getfield 97, 3) := gX10_tryPicks_96.2.2.2.1
theorem dX10_tryPicks_160 : decode cX10_tryPicks 160 = .ok (.iload 4, 2) := gX10_tryPicks_96.2.2.2.2.1
theorem dX10_tryPicks_162 : decode cX10_tryPicks 162 = .ok (.iaload, 1) := gX10_tryPicks_96.2.2.2.2.2.1
theorem dX10_tryPicks_163 : decode cX10_tryPicks 163 = .ok (.ifCond .le 12, 3) := gX10_tryPicks_96.2.2.2.2.2.2.1
theorem dX10_tryPicks_166 : decode cX10_tryPicks 166 = .ok (.aload_n 0, 1) := gX10_tryPicks_96.2.2.2.2.2.2.2.1
theorem dX10_tryPicks_167 : decode cX10_tryPicks 167 = .ok (.iload 4, 2) := gX10_tryPicks_96.2.2.2.2.2.2.2.2.1
theorem dX10_tryPicks_169 : decode cX10_tryPicks 169 = .ok (.invokevirtual 329, 3) := gX10_tryPicks_96.2.2.2.2.2.2.2.2.2.1
theorem dX10_tryPicks_172 : decode cX10_tryPicks 172 = .ok (.goto 4, 3) := gX10_tryPicks_96.2.2.2.2.2.2.2.2.2.2.1
theorem dX10_tryPicks_175 : decode cX10_tryPicks 175 = .ok (.iconst 0, 1) := gX10_tryPicks_96.2.2.2.2.2.2.2.2.2.2.2
theorem gX10_tryPicks_108 : (decode cX10_tryPicks 176 = .ok (.iadd, 1)) ∧ (decode cX10_tryPicks 177 = .ok (.istore_n 3, 1)) ∧ (decode cX10_tryPicks 178 = .ok (.iinc 4 1, 3)) ∧ (decode cX10_tryPicks 181 = .ok (.goto (-51), 3)) ∧ (decode cX10_tryPicks 184 = .ok (.iload_n 1, 1)) ∧ (decode cX10_tryPicks 185 = .ok (.aload_n 0, 1)) ∧ (decode cX10_tryPicks 186 = .ok (.getfield 332, 3)) ∧ (decode cX10_tryPicks 189 = .ok (.if_icmp .eq 19, 3)) ∧ (decode cX10_tryPicks 192 = .ok (.iload_n 1, 1)) ∧ (decode cX10_tryPicks 193 = .ok (.aload_n 0, 1)) ∧ (decode cX10_tryPicks 194 = .ok (.getfield 332, 3)) ∧ (decode cX10_tryPicks 197 = .ok (.if_icmp .le 7, 3)) := by decide +kernel
theorem dX10_tryPicks_176 : decode cX10_tryPicks 176 = .ok (.iadd, 1) := gX10_tryPicks_108.1
theorem dX10_tryPicks_177 : decode cX10_tryPicks 177 = .ok (.istore_n 3, 1) := gX10_tryPicks_108.2.1
theorem dX10_tryPicks_178 : decode cX10_tryPicks 178 = .ok (.iinc 4 1, 3) := gX10_tryPicks_108.2.2.1
theorem dX10_tryPicks_181 : decode cX10_tryPicks 181 = .ok (.goto (-51), 3) := gX10_tryPicks_108.2.2.2.1
theorem dX10_tryPicks_184 : decode cX10_tryPicks 184 = .ok (.iload_n 1, 1) := gX10_tryPicks_108.2.2.2.2.1
theorem dX10_tryPicks_185 : decode cX10_tryPicks 185 = .ok (.aload_n 0, 1) := gX10_tryPicks_108.2.2.2.2.2.1
theorem dX10_tryPicks_186 : decode cX10_tryPicks 186 = .ok (.getfield 332, 3) := gX10_tryPicks_108.2.2.2.2.2.2.1
theorem dX10_tryPicks_189 : decode cX10_tryPicks 189 = .ok (.if_icmp .eq 19, 3) := gX10_tryPicks_108.2.2.2.2.2.2.2.1
theorem dX10_tryPicks_192 : decode cX10_tryPicks 192 = .ok (.iload_n 1, 1) := gX10_tryPicks_108.2.2.2.2.2.2.2.2.1
theorem dX10_tryPicks_193 : decode cX10_tryPicks 193 = .ok (.aload_n 0, 1) := gX10_tryPicks_108.2.2.2.2.2.2.2.2.2.1
theorem dX10_tryPicks_194 : decode cX10_tryPicks 194 = .ok (.getfield 332, 3) := gX10_tryPicks_108.2.2.2.2.2.2.2.2.2.2.1
theorem dX10_tryPicks_197 : decode cX10_tryPicks 197 = .ok (.if_icmp .le 7, 3) := gX10_tryPicks_108.2.2.2.2.2.2.2.2.2.2.2
theorem gX10_tryPicks_120 : (decode cX10_tryPicks 200 = .ok (.iconst 1, 1)) ∧ (decode cX10_tryPicks 201 = .ok (.goto 59, 3)) ∧ (decode cX10_tryPicks 204 = .ok (.iconst 0, 1)) ∧ (decode cX10_tryPicks 205 = .ok (.goto 55, 3)) ∧ (decode cX10_tryPicks 208 = .ok (.iload_n 3, 1)) ∧ (decode cX10_tryPicks 209 = .ok (.aload_n 0, 1)) ∧ (decode cX10_tryPicks 210 = .ok (.getfield 335, 3)) ∧ (decode cX10_tryPicks 213 = .ok (.if_icmp .eq 19, 3)) ∧ (decode cX10_tryPicks 216 = .ok (.iload_n 3, 1)) ∧ (decode cX10_tryPicks 217 = .ok (.aload_n 0, 1)) ∧ (decode cX10_tryPicks 218 = .ok (.getfield 335, 3)) ∧ (decode cX10_tryPicks 221 = .ok (.if_icmp .ge 7, 3)) := by decide +kernel
theorem dX10_tryPicks_200 : decode cX10_tryPicks 200 = .ok (.iconst 1, 1) := gX10_tryPicks_120.1
theorem dX10_tryPicks_201 : decode cX10_tryPicks 201 = .ok (.goto 59, 3) := gX10_tryPicks_120.2.1
theorem dX10_tryPicks_204 : decode cX10_tryPicks 204 = .ok (.iconst 0, 1) := gX10_tryPicks_120.2.2.1
theorem dX10_tryPicks_205 : decode cX10_tryPicks 205 = .ok (.goto 55, 3) := gX10_tryPicks_120.2.2.2.1
theorem dX10_tryPicks_208 : decode cX10_tryPicks 208 = .ok (.iload_n 3, 1) := gX10_tryPicks_120.2.2.2.2.1
theorem dX10_tryPicks_209 : decode cX10_tryPicks 209 = .ok (.aload_n 0, 1) := gX10_tryPicks_120.2.2.2.2.2.1
theorem dX10_tryPicks_210 : decode cX10_tryPicks 210 = .ok (.getfield 335, 3) := gX10_tryPicks_120.2.2.2.2.2.2.1
theorem dX10_tryPicks_213 : decode cX10_tryPicks 213 = .ok (.if_icmp .eq 19, 3) := gX10_tryPicks_120.2.2.2.2.2.2.2.1
theorem dX10_tryPicks_216 : decode cX10_tryPicks 216 = .ok (.iload_n 3, 1) := gX10_tryPicks_120.2.2.2.2.2.2.2.2.1
theorem dX10_tryPicks_217 : decode cX10_tryPicks 217 = .ok (.aload_n 0, 1) := gX10_tryPicks_120.2.2.2.2.2.2.2.2.2.1
theorem dX10_tryPicks_218 : decode cX10_tryPicks 218 = .ok (.getfield 335, 3) := gX10_tryPicks_120.2.2.2.2.2.2.2.2.2.2.1
theorem dX10_tryPicks_221 : decode cX10_tryPicks 221 = .ok (.if_icmp .ge 7, 3) := gX10_tryPicks_120.2.2.2.2.2.2.2.2.2.2.2
theorem gX10_tryPicks_132 : (decode cX10_tryPicks 224 = .ok (.iconst 1, 1)) ∧ (decode cX10_tryPicks 225 = .ok (.goto 35, 3)) ∧ (decode cX10_tryPicks 228 = .ok (.iconst 0, 1)) ∧ (decode cX10_tryPicks 229 = .ok (.goto 31, 3)) ∧ (decode cX10_tryPicks 232 = .ok (.iload_n 2, 1)) ∧ (decode cX10_tryPicks 233 = .ok (.aload_n 0, 1)) ∧ (decode cX10_tryPicks 234 = .ok (.getfield 338, 3)) ∧ (decode cX10_tryPicks 237 = .ok (.if_icmp .eq 19, 3)) ∧ (decode cX10_tryPicks 240 = .ok (.iload_n 2, 1)) ∧ (decode cX10_tryPicks 241 = .ok (.aload_n 0, 1)) ∧ (decode cX10_tryPicks 242 = .ok (.getfield 338, 3)) ∧ (decode cX10_tryPicks 245 = .ok (.if_icmp .ge 7, 3)) := by decide +kernel
theorem dX10_tryPicks_224 : decode cX10_tryPicks 224 = .ok (.iconst 1, 1) := gX10_tryPicks_132.1
theorem dX10_tryPicks_225 : decode cX10_tryPicks 225 = .ok (.goto 35, 3) := gX10_tryPicks_132.2.1
theorem dX10_tryPicks_228 : decode cX10_tryPicks 228 = .ok (.iconst 0, 1) := gX10_tryPicks_132.2.2.1
theorem dX10_tryPicks_229 : decode cX10_tryPicks 229 = .ok (.goto 31, 3) := gX10_tryPicks_132.2.2.2.1
theorem dX10_tryPicks_232 : decode cX10_tryPicks 232 = .ok (.iload_n 2, 1) := gX10_tryPicks_132.2.2.2.2.1
theorem dX10_tryPicks_233 : decode cX10_tryPicks 233 = .ok (.aload_n 0, 1) := gX10_tryPicks_132.2.2.2.2.2.1
theorem dX10_tryPicks_234 : decode cX10_tryPicks 234 = .ok (.getfield 338, 3) := gX10_tryPicks_132.2.2.2.2.2.2.1
theorem dX10_tryPicks_237 : decode cX10_tryPicks 237 = .ok (.if_icmp .eq 19, 3) := gX10_tryPicks_132.2.2.2.2.2.2.2.1
theorem dX10_tryPicks_240 : decode cX10_tryPicks 240 = .ok (.iload_n 2, 1) := gX10_tryPicks_132.2.2.2.2.2.2.2.2.1
theorem dX10_tryPicks_241 : decode cX10_tryPicks 241 = .ok (.aload_n 0, 1) := gX10_tryPicks_132.2.2.2.2.2.2.2.2.2.1
theorem dX10_tryPicks_242 : decode cX10_tryPicks 242 = .ok (.getfield 338, 3) := gX10_tryPicks_132.2.2.2.2.2.2.2.2.2.2.1
theorem dX10_tryPicks_245 : decode cX10_tryPicks 245 = .ok (.if_icmp .ge 7, 3) := gX10_tryPicks_132.2.2.2.2.2.2.2.2.2.2.2
theorem gX10_tryPicks_144 : (decode cX10_tryPicks 248 = .ok (.iconst 1, 1)) ∧ (decode cX10_tryPicks 249 = .ok (.goto 11, 3)) ∧ (decode cX10_tryPicks 252 = .ok (.iconst 0, 1)) ∧ (decode cX10_tryPicks 253 = .ok (.goto 7, 3)) ∧ (decode cX10_tryPicks 256 = .ok (.aload_n 0, 1)) ∧ (decode cX10_tryPicks 257 = .ok (.invokevirtual 341, 3)) ∧ (decode cX10_tryPicks 260 = .ok (.istore 4, 2)) ∧ (decode cX10_tryPicks 262 = .ok (.iload 4, 2)) ∧ (decode cX10_tryPicks 264 = .ok (.ifCond .eq 83, 3)) ∧ (decode cX10_tryPicks 267 = .ok (.aload_n 0, 1)) ∧ (decode cX10_tryPicks 268 = .ok (.iload_n 1, 1)) ∧ (decode cX10_tryPicks 269 = .ok (.putfield 332, 3)) := by decide +kernel
theorem dX10_tryPicks_248 : decode cX10_tryPicks 248 = .ok (.iconst 1, 1) := gX10_tryPicks_144.1
theorem dX10_tryPicks_249 : decode cX10_tryPicks 249 = .ok (.goto 11, 3) := gX10_tryPicks_144.2.1
theorem dX10_tryPicks_252 : decode cX10_tryPicks 252 = .ok (.iconst 0, 1) := gX10_tryPicks_144.2.2.1
theorem dX10_tryPicks_253 : decode cX10_tryPicks 253 = .ok (.goto 7, 3) := gX10_tryPicks_144.2.2.2.1
theorem dX10_tryPicks_256 : decode cX10_tryPicks 256 = .ok (.aload_n 0, 1) := gX10_tryPicks_144.2.2.2.2.1
theorem dX10_tryPicks_257 : decode cX10_tryPicks 257 = .ok (.invokevirtual 341, 3) := gX10_tryPicks_144.2.2.2.2.2.1
theorem dX10_tryPicks_260 : decode cX10_tryPicks 260 = .ok (.istore 4, 2) := gX10_tryPicks_144.2.2.2.2.2.2.1
theorem dX10_tryPicks_262 : decode cX10_tryPicks 262 = .ok (.iload 4, 2) := gX10_tryPicks_144.2.2.2.2.2.2.2.1
theorem dX10_tryPicks_264 : decode cX10_tryPicks 264 = .ok (.ifCond .eq 83, 3) := gX10_tryPicks_144.2.2.2.2.2.2.2.2.1
theorem dX10_tryPicks_267 : decode cX10_tryPicks 267 = .ok (.aload_n 0, 1) := gX10_tryPicks_144.2.2.2.2.2.2.2.2.2.1
theorem dX10_tryPicks_268 : decode cX10_tryPicks 268 = .ok (.iload_n 1, 1) := gX10_tryPicks_144.2.2.2.2.2.2.2.2.2.2.1
theorem dX10_tryPicks_269 : decode cX10_tryPicks 269 = .ok (.putfield 332, 3) := gX10_tryPicks_144.2.2.2.2.2.2.2.2.2.2.2
theorem gX10_tryPicks_156 : (decode cX10_tryPicks 272 = .ok (.aload_n 0, 1)) ∧ (decode cX10_tryPicks 273 = .ok (.iload_n 3, 1)) ∧ (decode cX10_tryPicks 274 = .ok (.putfield 335, 3)) ∧ (decode cX10_tryPicks 277 = .ok (.aload_n 0, 1)) ∧ (decode cX10_tryPicks 278 = .ok (.iload_n 2, 1)) ∧ (decode cX10_tryPicks 279 = .ok (.putfield 338, 3)) ∧ (decode cX10_tryPicks 282 = .ok (.iconst 0, 1)) ∧ (decode cX10_tryPicks 283 = .ok (.istore 5, 2)) ∧ (decode cX10_tryPicks 285 = .ok (.iload 5, 2)) ∧ (decode cX10_tryPicks 287 = .ok (.aload_n 0, 1)) ∧ (decode cX10_tryPicks 288 = .ok (.getfield 17, 3)) ∧ (decode cX10_tryPicks 291 = .ok (.if_icmp .ge 56, 3)) := by decide +kernel
theorem dX10_tryPicks_272 : decode cX10_tryPicks 272 = .ok (.aload_n 0, 1) := gX10_tryPicks_156.1
theorem dX10_tryPicks_273 : decode cX10_tryPicks 273 = .ok (.iload_n 3, 1) := gX10_tryPicks_156.2.1
theorem dX10_tryPicks_274 : decode cX10_tryPicks 274 = .ok (.putfield 335, 3) := gX10_tryPicks_156.2.2.1
theorem dX10_tryPicks_277 : decode cX10_tryPicks 277 = .ok (.aload_n 0, 1) := gX10_tryPicks_156.2.2.2.1
theorem dX10_tryPicks_278 : decode cX10_tryPicks 278 = .ok (.iload_n 2, 1) := gX10_tryPicks_156.2.2.2.2.1
theorem dX10_tryPicks_279 : decode cX10_tryPicks 279 = .ok (.putfield 338, 3) := gX10_tryPicks_156.2.2.2.2.2.1
theorem dX10_tryPicks_282 : decode cX10_tryPicks 282 = .ok (.iconst 0, 1) := gX10_tryPicks_156.2.2.2.2.2.2.1
theorem dX10_tryPicks_283 : decode cX10_tryPicks 283 = .ok (.istore 5, 2) := gX10_tryPicks_156.2.2.2.2.2.2.2.1
theorem dX10_tryPicks_285 : decode cX10_tryPicks 285 = .ok (.iload 5, 2) := gX10_tryPicks_156.2.2.2.2.2.2.2.2.1
theorem dX10_tryPicks_287 : decode cX10_tryPicks 287 = .ok (.aload_n 0, 1) := gX10_tryPicks_156.2.2.2.2.2.2.2.2.2.1
theorem dX10_tryPicks_288 : decode cX10_tryPicks 288 = .ok (.getfield 17, 3) := gX10_tryPicks_156.2.2.2.2.2.2.2.2.2.2.1
theorem dX10_tryPicks_291 : decode cX10_tryPicks 291 = .ok (.if_icmp .ge 56, 3) := gX10_tryPicks_156.2.2.2.2.2.2.2.2.2.2.2
theorem gX10_tryPicks_168 : (decode cX10_tryPicks 294 = .ok (.aload_n 0, 1)) ∧ (decode cX10_tryPicks 295 = .ok (.getfield 85, 3)) ∧ (decode cX10_tryPicks 298 = .ok (.iload 5, 2)) ∧ (decode cX10_tryPicks 300 = .ok (.aload_n 0, 1)) ∧ (decode cX10_tryPicks 301 = .ok (.getfield 94, 3)) ∧ (decode cX10_tryPicks 304 = .ok (.iload 5, 2)) ∧ (decode cX10_tryPicks 306 = .ok (.iaload, 1)) ∧ (decode cX10_tryPicks 307 = .ok (.aload_n 0, 1)) ∧ (decode cX10_tryPicks 308 = .ok (.getfield 91, 3)) ∧ (decode cX10_tryPicks 311 = .ok (.iload 5, 2)) ∧ (decode cX10_tryPicks 313 = .ok (.iaload, 1)) ∧ (decode cX10_tryPicks 314 = .ok (.if_icmp .ge 24, 3)) := by decide +kernel
theorem dX10_tryPicks_294 : decode cX10_tryPicks 294 = .ok (.aload_n 0, 1) := gX10_tryPicks_168.1
theorem dX10_tryPicks_295 : decode cX10_tryPicks 295 = .ok (.getfield 85, 3) := gX10_tryPicks_168.2.1
theorem dX10_tryPicks_298 : decode cX10_tryPicks 298 = .ok (.iload 5, 2) := gX10_tryPicks_168.2.2.1
theorem dX10_tryPicks_300 : decode cX10_tryPicks 300 = .ok (.aload_n 0, 1) := gX10_tryPicks_168.2.2.2.1
theorem dX10_tryPicks_301 : decode cX10_tryPicks 301 = .ok (.getfield 94, 3) := gX10_tryPicks_168.2.2.2.2.1
theorem dX10_tryPicks_304 : decode cX10_tryPicks 304 = .ok (.iload 5, 2) := gX10_tryPicks_168.2.2.2.2.2.1
theorem dX10_tryPicks_306 : decode cX10_tryPicks 306 = .ok (.iaload, 1) := gX10_tryPicks_168.2.2.2.2.2.2.1
theorem dX10_tryPicks_307 : decode cX10_tryPicks 307 = .ok (.aload_n 0, 1) := gX10_tryPicks_168.2.2.2.2.2.2.2.1
theorem dX10_tryPicks_308 : decode cX10_tryPicks 308 = .ok (.getfield 91, 3) := gX10_tryPicks_168.2.2.2.2.2.2.2.2.1
theorem dX10_tryPicks_311 : decode cX10_tryPicks 311 = .ok (.iload 5, 2) := gX10_tryPicks_168.2.2.2.2.2.2.2.2.2.1
theorem dX10_tryPicks_313 : decode cX10_tryPicks 313 = .ok (.iaload, 1) := gX10_tryPicks_168.2.2.2.2.2.2.2.2.2.2.1
theorem dX10_tryPicks_314 : decode cX10_tryPicks 314 = .ok (.if_icmp .ge 24, 3) := gX10_tryPicks_168.2.2.2.2.2.2.2.2.2.2.2
theorem gX10_tryPicks_180 : (decode cX10_tryPicks 317 = .ok (.aload_n 0, 1)) ∧ (decode cX10_tryPicks 318 = .ok (.getfield 88, 3)) ∧ (decode cX10_tryPicks 321 = .ok (.bipush 8, 2)) ∧ (decode cX10_tryPicks 323 = .ok (.iload 5, 2)) ∧ (decode cX10_tryPicks 325 = .ok (.imul, 1)) ∧ (decode cX10_tryPicks 326 = .ok (.aload_n 0, 1)) ∧ (decode cX10_tryPicks 327 = .ok (.getfield 94, 3)) ∧ (decode cX10_tryPicks 330 = .ok (.iload 5, 2)) ∧ (decode cX10_tryPicks 332 = .ok (.iaload, 1)) ∧ (decode cX10_tryPicks 333 = .ok (.iadd, 1)) ∧ (decode cX10_tryPicks 334 = .ok (.iaload, 1)) ∧ (decode cX10_tryPicks 335 = .ok (.goto 5, 3)) := by decide +kernel
theorem dX10_tryPicks_317 : decode cX10_tryPicks 317 = .ok (.aload_n 0, 1) := gX10_tryPicks_180.1
theorem dX10_tryPicks_318 : decode cX10_tryPicks 318 = .ok (.getfield 88, 3) := gX10_tryPicks_180.2.1
theorem dX10_tryPicks_321 : decode cX10_tryPicks 321 = .ok (.bipush 8, 2) := gX10_tryPicks_180.2.2.1
theorem dX10_tryPicks_323 : decode cX10_tryPicks 323 = .ok (.iload 5, 2) := gX10_tryPicks_180.2.2.2.1
theorem dX10_tryPicks_325 : decode cX10_tryPicks 325 = .ok (.imul, 1) := gX10_tryPicks_180.2.2.2.2.1
theorem dX10_tryPicks_326 : decode cX10_tryPicks 326 = .ok (.aload_n 0, 1) := gX10_tryPicks_180.2.2.2.2.2.1
theorem dX10_tryPicks_327 : decode cX10_tryPicks 327 = .ok (.getfield 94, 3) := gX10_tryPicks_180.2.2.2.2.2.2.1
theorem dX10_tryPicks_330 : decode cX10_tryPicks 330 = .ok (.iload 5, 2) := gX10_tryPicks_180.2.2.2.2.2.2.2.1
theorem dX10_tryPicks_332 : decode cX10_tryPicks 332 = .ok (.iaload, 1) := gX10_tryPicks_180.2.2.2.2.2.2.2.2.1
theorem dX10_tryPicks_333 : decode cX10_tryPicks 333 = .ok (.iadd, 1) := gX10_tryPicks_180.2.2.2.2.2.2.2.2.2.1
theorem dX10_tryPicks_334 : decode cX10_tryPicks 334 = .ok (.iaload, 1) := gX10_tryPicks_180.2.2.2.2.2.2.2.2.2.2.1
theorem dX10_tryPicks_335 : decode cX10_tryPicks 335 = .ok (.goto 5, 3) := gX10_tryPicks_180.2.2.2.2.2.2.2.2.2.2.2
theorem gX10_tryPicks_192 : (decode cX10_tryPicks 338 = .ok (.bipush (-9), 2)) ∧ (decode cX10_tryPicks 340 = .ok (.iastore, 1)) ∧ (decode cX10_tryPicks 341 = .ok (.iinc 5 1, 3)) ∧ (decode cX10_tryPicks 344 = .ok (.goto (-59), 3)) ∧ (decode cX10_tryPicks 347 = .ok (.return_, 1)) := by decide +kernel
theorem dX10_tryPicks_338 : decode cX10_tryPicks 338 = .ok (.bipush (-9), 2) := gX10_tryPicks_192.1
theorem dX10_tryPicks_340 : decode cX10_tryPicks 340 = .ok (.iastore, 1) := gX10_tryPicks_192.2.1
theorem dX10_tryPicks_341 : decode cX10_tryPicks 341 = .ok (.iinc 5 1, 3) := gX10_tryPicks_192.2.2.1
theorem dX10_tryPicks_344 : decode cX10_tryPicks 344 = .ok (.goto (-59), 3) := gX10_tryPicks_192.2.2.2.1
theorem dX10_tryPicks_347 : decode cX10_tryPicks 347 = .ok (.return_, 1) := gX10_tryPicks_192.2.2.2.2
theorem gX10_isFirst_0 : (decode cX10_isFirst 0 = .ok (.iconst 0, 1)) ∧ (decode cX10_isFirst 1 = .ok (.istore_n 1, 1)) ∧ (decode cX10_isFirst 2 = .ok (.iload_n 1, 1)) ∧ (decode cX10_isFirst 3 = .ok (.aload_n 0, 1)) ∧ (decode cX10_isFirst 4 = .ok (.getfield 17, 3)) ∧ (decode cX10_isFirst 7 = .ok (.if_icmp .ge 83, 3)) ∧ (decode cX10_isFirst 10 = .ok (.aload_n 0, 1)) ∧ (decode cX10_isFirst 11 = .ok (.getfield 94, 3)) ∧ (decode cX10_isFirst 14 = .ok (.iload_n 1, 1)) ∧ (decode cX10_isFirst 15 = .ok (.iaload, 1)) ∧ (decode cX10_isFirst 16 = .ok (.aload_n 0, 1)) ∧ (decode cX10_isFirst 17 = .ok (.getfield 91, 3)) := by decide +kernel
theorem dX10_isFirst_0 : decode cX10_isFirst 0 = .ok (.iconst 0, 1) := gX10_isFirst_0.1
theorem dX10_isFirst_1 : decode cX10_isFirst 1 = .ok (.istore_n 1, 1) := gX10_isFirst_0.2.1
theorem dX10_isFirst_2 : decode cX10_isFirst 2 = .ok (.iload_n 1, 1) := gX10_isFirst_0.2.2.1
theorem dX10_isFirst_3 : decode cX10_isFirst 3 = .ok (.aload_n 0, 1) := gX10_isFirst_0.2.2.2.1
theorem dX10_isFirst_4 : decode cX10_isFirst 4 = .ok (.getfield 17, 3) := gX10_isFirst_0.2.2.2.2.1
theorem dX10_isFirst_7 : decode cX10_isFirst 7 = .ok (.if_icmp .ge 83, 3) := gX10_isFirst_0.2.2.2.2.2.1
theorem dX10_isFirst_10 : decode cX10_isFirst 10 = .ok (.aload_n 0, 1) := gX10_isFirst_0.2.2.2.2.2.2.1
theorem dX10_isFirst_11 : decode cX10_isFirst 11 = .ok (.getfield 94, 3) := gX10_isFirst_0.2.2.2.2.2.2.2.1
theorem dX10_isFirst_14 : decode cX10_isFirst 14 = .ok (.iload_n 1, 1) := gX10_isFirst_0.2.2.2.2.2.2.2.2.1
theorem dX10_isFirst_15 : decode cX10_isFirst 15 = .ok (.iaload, 1) := gX10_isFirst_0.2.2.2.2.2.2.2.2.2.1
theorem dX10_isFirst_16 : decode cX10_isFirst 16 = .ok (.aload_n 0, 1) := gX10_isFirst_0.2.2.2.2.2.2.2.2.2.2.1
theorem dX10_isFirst_17 : decode cX10_isFirst 17 = .ok (.getfield 91, 3) := gX10_isFirst_0.2.2.2.2.2.2.2.2.2.2.2
theorem gX10_isFirst_12 : (decode cX10_isFirst 20 = .ok (.iload_n 1, 1)) ∧ (decode cX10_isFirst 21 = .ok (.iaload, 1)) ∧ (decode cX10_isFirst 22 = .ok (.if_icmp .ge 22, 3)) ∧ (decode cX10_isFirst 25 = .ok (.aload_n 0, 1)) ∧ (decode cX10_isFirst 26 = .ok (.getfield 88, 3)) ∧ (decode cX10_isFirst 29 = .ok (.bipush 8, 2)) ∧ (decode cX10_isFirst 31 = .ok (.iload_n 1, 1)) ∧ (decode cX10_isFirst 32 = .ok (.imul, 1)) ∧ (decode cX10_isFirst 33 = .ok (.aload_n 0, 1)) ∧ (decode cX10_isFirst 34 = .ok (.getfield 94, 3)) ∧ (decode cX10_isFirst 37 = .ok (.iload_n 1, 1)) ∧ (decode cX10_isFirst 38 = .ok (.iaload, 1)) := by decide +kernel
theorem dX10_isFirst_20 : decode cX10_isFirst 20 = .ok (.iload_n 1, 1) := gX10_isFirst_12.1
theorem dX10_isFirst_21 : decode cX10_isFirst 21 = .ok (.iaload, 1) := gX10_isFirst_12.2.1
theorem dX10_isFirst_22 : decode cX10_isFirst 22 = .ok (.if_icmp .ge 22, 3) := gX10_isFirst_12.2.2.1
theorem dX10_isFirst_25 : decode cX10_isFirst 25 = .ok (.aload_n 0, 1) := gX10_isFirst_12.2.2.2.1
theorem dX10_isFirst_26 : decode cX10_isFirst 26 = .ok (.getfield 88, 3) := gX10_isFirst_12.2.2.2.2.1
theorem dX10_isFirst_29 : decode cX10_isFirst 29 = .ok (.bipush 8, 2) := gX10_isFirst_12.2.2.2.2.2.1
theorem dX10_isFirst_31 : decode cX10_isFirst 31 = .ok (.iload_n 1, 1) := gX10_isFirst_12.2.2.2.2.2.2.1
theorem dX10_isFirst_32 : decode cX10_isFirst 32 = .ok (.imul, 1) := gX10_isFirst_12.2.2.2.2.2.2.2.1
theorem dX10_isFirst_33 : decode cX10_isFirst 33 = .ok (.aload_n 0, 1) := gX10_isFirst_12.2.2.2.2.2.2.2.2.1
theorem dX10_isFirst_34 : decode cX10_isFirst 34 = .ok (.getfield 94, 3) := gX10_isFirst_12.2.2.2.2.2.2.2.2.2.1
theorem dX10_isFirst_37 : decode cX10_isFirst 37 = .ok (.iload_n 1, 1) := gX10_isFirst_12.2.2.2.2.2.2.2.2.2.2.1
theorem dX10_isFirst_38 : decode cX10_isFirst 38 = .ok (.iaload, 1) := gX10_isFirst_12.2.2.2.2.2.2.2.2.2.2.2
theorem gX10_isFirst_24 : (decode cX10_isFirst 39 = .ok (.iadd, 1)) ∧ (decode cX10_isFirst 40 = .ok (.iaload, 1)) ∧ (decode cX10_isFirst 41 = .ok (.goto 5, 3)) ∧ (decode cX10_isFirst 44 = .ok (.bipush 8, 2)) ∧ (decode cX10_isFirst 46 = .ok (.istore_n 2, 1)) ∧ (decode cX10_isFirst 47 = .ok (.aload_n 0, 1)) ∧ (decode cX10_isFirst 48 = .ok (.getfield 85, 3)) ∧ (decode cX10_isFirst 51 = .ok (.iload_n 1, 1)) ∧ (decode cX10_isFirst 52 = .ok (.iaload, 1)) ∧ (decode cX10_isFirst 53 = .ok (.ifCond .ge 8, 3)) ∧ (decode cX10_isFirst 56 = .ok (.bipush 8, 2)) ∧ (decode cX10_isFirst 58 = .ok (.goto 9, 3)) := by decide +kernel
theorem dX10_isFirst_39 : decode cX10_isFirst 39 = .ok (.iadd, 1) := gX10_isFirst_24.1
theorem dX10_isFirst_40 : decode cX10_isFirst 40 = .ok (.iaload, 1) := gX10_isFirst_24.2.1
theorem dX10_isFirst_41 : decode cX10_isFirst 41 = .ok (.goto 5, 3) := gX10_isFirst_24.2.2.1
theorem dX10_isFirst_44 : decode cX10_isFirst 44 = .ok (.bipush 8, 2) := gX10_isFirst_24.2.2.2.1
theorem dX10_isFirst_46 : decode cX10_isFirst 46 = .ok (.istore_n 2, 1) := gX10_isFirst_24.2.2.2.2.1
theorem dX10_isFirst_47 : decode cX10_isFirst 47 = .ok (.aload_n 0, 1) := gX10_isFirst_24.2.2.2.2.2.1
theorem dX10_isFirst_48 : decode cX10_isFirst 48 = .ok (.getfield 85, 3) := gX10_isFirst_24.2.2.2.2.2.2.1
theorem dX10_isFirst_51 : decode cX10_isFirst 51 = .ok (.iload_n 1, 1) := gX10_isFirst_24.2.2.2.2.2.2.2.1
theorem dX10_isFirst_52 : decode cX10_isFirst 52 = .ok (.iaload, 1) := gX10_isFirst_24.2.2.2.2.2.2.2.2.1
theorem dX10_isFirst_53 : decode cX10_isFirst 53 = .ok (.ifCond .ge 8, 3) := gX10_isFirst_24.2.2.2.2.2.2.2.2.2.1
theorem dX10_isFirst_56 : decode cX10_isFirst 56 = .ok (.bipush 8, 2) := gX10_isFirst_24.2.2.2.2.2.2.2.2.2.2.1
theorem dX10_isFirst_58 : decode cX10_isFirst 58 = .ok (.goto 9, 3) := gX10_isFirst_24.2.2.2.2.2.2.2.2.2.2.2
theorem gX10_isFirst_36 : (decode cX10_isFirst 61 = .ok (.aload_n 0, 1)) ∧ (decode cX10_isFirst 62 = .ok (.getfield 85, 3)) ∧ (decode cX10_isFirst 65 = .ok (.iload_n 1, 1)) ∧ (decode cX10_isFirst 66 = .ok (.iaload, 1)) ∧ (decode cX10_isFirst 67 = .ok (.istore_n 3, 1)) ∧ (decode cX10_isFirst 68 = .ok (.iload_n 2, 1)) ∧ (decode cX10_isFirst 69 = .ok (.iload_n 3, 1)) ∧ (decode cX10_isFirst 70 = .ok (.if_icmp .eq 14, 3)) ∧ (decode cX10_isFirst 73 = .ok (.iload_n 2, 1)) ∧ (decode cX10_isFirst 74 = .ok (.iload_n 3, 1)) ∧ (decode cX10_isFirst 75 = .ok (.if_icmp .ge 7, 3)) ∧ (decode cX10_isFirst 78 = .ok (.iconst 1, 1)) := by decide +kernel
theorem dX10_isFirst_61 : decode cX10_isFirst 61 = .ok (.aload_n 0, 1) := gX10_isFirst_36.1
theorem dX10_isFirst_62 : decode cX10_isFirst 62 = .ok (.getfield 85, 3) := gX10_isFirst_36.2.1
theorem dX10_isFirst_65 : decode cX10_isFirst 65 = .ok (.iload_n 1, 1) := gX10_isFirst_36.2.2.1
theorem dX10_isFirst_66 : decode cX10_isFirst 66 = .ok (.iaload, 1) := gX10_isFirst_36.2.2.2.1
theorem dX10_isFirst_67 : decode cX10_isFirst 67 = .ok (.istore_n 3, 1) := gX10_isFirst_36.2.2.2.2.1
theorem dX10_isFirst_68 : decode cX10_isFirst 68 = .ok (.iload_n 2, 1) := gX10_isFirst_36.2.2.2.2.2.1
theorem dX10_isFirst_69 : decode cX10_isFirst 69 = .ok (.iload_n 3, 1) := gX10_isFirst_36.2.2.2.2.2.2.1
theorem dX10_isFirst_70 : decode cX10_isFirst 70 = .ok (.if_icmp .eq 14, 3) := gX10_isFirst_36.2.2.2.2.2.2.2.1
theorem dX10_isFirst_73 : decode cX10_isFirst 73 = .ok (.iload_n 2, 1) := gX10_isFirst_36.2.2.2.2.2.2.2.2.1
theorem dX10_isFirst_74 : decode cX10_isFirst 74 = .ok (.iload_n 3, 1) := gX10_isFirst_36.2.2.2.2.2.2.2.2.2.1
theorem dX10_isFirst_75 : decode cX10_isFirst 75 = .ok (.if_icmp .ge 7, 3) := gX10_isFirst_36.2.2.2.2.2.2.2.2.2.2.1
theorem dX10_isFirst_78 : decode cX10_isFirst 78 = .ok (.iconst 1, 1) := gX10_isFirst_36.2.2.2.2.2.2.2.2.2.2.2
theorem gX10_isFirst_48 : (decode cX10_isFirst 79 = .ok (.goto 4, 3)) ∧ (decode cX10_isFirst 82 = .ok (.iconst 0, 1)) ∧ (decode cX10_isFirst 83 = .ok (.ireturn, 1)) ∧ (decode cX10_isFirst 84 = .ok (.iinc 1 1, 3)) ∧ (decode cX10_isFirst 87 = .ok (.goto (-85), 3)) ∧ (decode cX10_isFirst 90 = .ok (.iconst 0, 1)) ∧ (decode cX10_isFirst 91 = .ok (.ireturn, 1)) := by decide +kernel
theorem dX10_isFirst_79 : decode cX10_isFirst 79 = .ok (.goto 4, 3) := gX10_isFirst_48.1
theorem dX10_isFirst_82 : decode cX10_isFirst 82 = .ok (.iconst 0, 1) := gX10_isFirst_48.2.1
theorem dX10_isFirst_83 : decode cX10_isFirst 83 = .ok (.ireturn, 1) := gX10_isFirst_48.2.2.1
theorem dX10_isFirst_84 : decode cX10_isFirst 84 = .ok (.iinc 1 1, 3) := gX10_isFirst_48.2.2.2.1
theorem dX10_isFirst_87 : decode cX10_isFirst 87 = .ok (.goto (-85), 3) := gX10_isFirst_48.2.2.2.2.1
theorem dX10_isFirst_90 : decode cX10_isFirst 90 = .ok (.iconst 0, 1) := gX10_isFirst_48.2.2.2.2.2.1
theorem dX10_isFirst_91 : decode cX10_isFirst 91 = .ok (.ireturn, 1) := gX10_isFirst_48.2.2.2.2.2.2
theorem gX10_findWhole_0 : (decode cX10_findWhole 0 = .ok (.aload_n 0, 1)) ∧ (decode cX10_findWhole 1 = .ok (.getfield 156, 3)) ∧ (decode cX10_findWhole 4 = .ok (.ifCond .eq 4, 3)) ∧ (decode cX10_findWhole 7 = .ok (.return_, 1)) ∧ (decode cX10_findWhole 8 = .ok (.aload_n 0, 1)) ∧ (decode cX10_findWhole 9 = .ok (.iconst 1, 1)) ∧ (decode cX10_findWhole 10 = .ok (.putfield 156, 3)) ∧ (decode cX10_findWhole 13 = .ok (.iconst 0, 1)) ∧ (decode cX10_findWhole 14 = .ok (.istore_n 1, 1)) ∧ (decode cX10_findWhole 15 = .ok (.iload_n 1, 1)) ∧ (decode cX10_findWhole 16 = .ok (.aload_n 0, 1)) ∧ (decode cX10_findWhole 17 = .ok (.getfield 17, 3)) := by decide +kernel
theorem dX10_findWhole_0 : decode cX10_findWhole 0 = .ok (.aload_n 0, 1) := gX10_findWhole_0.1
theorem dX10_findWhole_1 : decode cX10_findWhole 1 = .ok (.getfield 156, 3) := gX10_findWhole_0.2.1
theorem dX10_findWhole_4 : decode cX10_findWhole 4 = .ok (.ifCond .eq 4, 3) := gX10_findWhole_0.2.2.1
theorem dX10_findWhole_7 : decode cX10_findWhole 7 = .ok (.return_, 1) := gX10_findWhole_0.2.2.2.1
theorem dX10_findWhole_8 : decode cX10_findWhole 8 = .ok (.aload_n 0, 1) := gX10_findWhole_0.2.2.2.2.1
theorem dX10_findWhole_9 : decode cX10_findWhole 9 = .ok (.iconst 1, 1) := gX10_findWhole_0.2.2.2.2.2.1
theorem dX10_findWhole_10 : decode cX10_findWhole 10 = .ok (.putfield 156, 3) := gX10_findWhole_0.2.2.2.2.2.2.1
theorem dX10_findWhole_13 : decode cX10_findWhole 13 = .ok (.iconst 0, 1) := gX10_findWhole_0.2.2.2.2.2.2.2.1
theorem dX10_findWhole_14 : decode cX10_findWhole 14 = .ok (.istore_n 1, 1) := gX10_findWhole_0.2.2.2.2.2.2.2.2.1
theorem dX10_findWhole_15 : decode cX10_findWhole 15 = .ok (.iload_n 1, 1) := gX10_findWhole_0.2.2.2.2.2.2.2.2.2.1
theorem dX10_findWhole_16 : decode cX10_findWhole 16 = .ok (.aload_n 0, 1) := gX10_findWhole_0.2.2.2.2.2.2.2.2.2.2.1
theorem dX10_findWhole_17 : decode cX10_findWhole 17 = .ok (.getfield 17, 3) := gX10_findWhole_0.2.2.2.2.2.2.2.2.2.2.2
theorem gX10_findWhole_12 : (decode cX10_findWhole 20 = .ok (.if_icmp .ge 64, 3)) ∧ (decode cX10_findWhole 23 = .ok (.aload_n 0, 1)) ∧ (decode cX10_findWhole 24 = .ok (.iload_n 1, 1)) ∧ (decode cX10_findWhole 25 = .ok (.invokevirtual 321, 3)) ∧ (decode cX10_findWhole 28 = .ok (.aload_n 0, 1)) ∧ (decode cX10_findWhole 29 = .ok (.getfield 91, 3)) ∧ (decode cX10_findWhole 32 = .ok (.iload_n 1, 1)) ∧ (decode cX10_findWhole 33 = .ok (.aload_n 0, 1)) ∧ (decode cX10_findWhole 34 = .ok (.getfield 315, 3)) ∧ (decode cX10_findWhole 37 = .ok (.iastore, 1)) ∧ (decode cX10_findWhole 38 = .ok (.iconst 0, 1)) ∧ (decode cX10_findWhole 39 = .ok (.istore_n 2, 1)) := by decide +kernel
theorem dX10_findWhole_20 : decode cX10_findWhole 20 = .ok (.if_icmp .ge 64, 3) := gX10_findWhole_12.1
theorem dX10_findWhole_23 : decode cX10_findWhole 23 = .ok (.aload_n 0, 1) := gX10_findWhole_12.2.1
theorem dX10_findWhole_24 : decode cX10_findWhole 24 = .ok (.iload_n 1, 1) := gX10_findWhole_12.2.2.1
theorem dX10_findWhole_25 : decode cX10_findWhole 25 = .ok (.invokevirtual 321, 3) := gX10_findWhole_12.2.2.2.1
theorem dX10_findWhole_28 : decode cX10_findWhole 28 = .ok (.aload_n 0, 1) := gX10_findWhole_12.2.2.2.2.1
theorem dX10_findWhole_29 : decode cX10_findWhole 29 = .ok (.getfield 91, 3) := gX10_findWhole_12.2.2.2.2.2.1
theorem dX10_findWhole_32 : decode cX10_findWhole 32 = .ok (.iload_n 1, 1) := gX10_findWhole_12.2.2.2.2.2.2.1
theorem dX10_findWhole_33 : decode cX10_findWhole 33 = .ok (.aload_n 0, 1) := gX10_findWhole_12.2.2.2.2.2.2.2.1
theorem dX10_findWhole_34 : decode cX10_findWhole 34 = .ok (.getfield 315, 3) := gX10_findWhole_12.2.2.2.2.2.2.2.2.1
theorem dX10_findWhole_37 : decode cX10_findWhole 37 = .ok (.iastore, 1) := gX10_findWhole_12.2.2.2.2.2.2.2.2.2.1
theorem dX10_findWhole_38 : decode cX10_findWhole 38 = .ok (.iconst 0, 1) := gX10_findWhole_12.2.2.2.2.2.2.2.2.2.2.1
theorem dX10_findWhole_39 : decode cX10_findWhole 39 = .ok (.istore_n 2, 1) := gX10_findWhole_12.2.2.2.2.2.2.2.2.2.2.2
theorem gX10_findWhole_24 : (decode cX10_findWhole 40 = .ok (.iload_n 2, 1)) ∧ (decode cX10_findWhole 41 = .ok (.aload_n 0, 1)) ∧ (decode cX10_findWhole 42 = .ok (.getfield 315, 3)) ∧ (decode cX10_findWhole 45 = .ok (.if_icmp .ge 26, 3)) ∧ (decode cX10_findWhole 48 = .ok (.aload_n 0, 1)) ∧ (decode cX10_findWhole 49 = .ok (.getfield 88, 3)) ∧ (decode cX10_findWhole 52 = .ok (.bipush 8, 2)) ∧ (decode cX10_findWhole 54 = .ok (.iload_n 1, 1)) ∧ (decode cX10_findWhole 55 = .ok (.imul, 1)) ∧ (decode cX10_findWhole 56 = .ok (.iload_n 2, 1)) ∧ (decode cX10_findWhole 57 = .ok (.iadd, 1)) ∧ (decode cX10_findWhole 58 = .ok (.aload_n 0, 1)) := by decide +kernel
theorem dX10_findWhole_40 : decode cX10_findWhole 40 = .ok (.iload_n 2, 1) := gX10_findWhole_24.1
theorem dX10_findWhole_41 : decode cX10_findWhole 41 = .ok (.aload_n 0, 1) := gX10_findWhole_24.2.1
theorem dX10_findWhole_42 : decode cX10_findWhole 42 = .ok (.getfield 315, 3) := gX10_findWhole_24.2.2.1
theorem dX10_findWhole_45 : decode cX10_findWhole 45 = .ok (.if_icmp .ge 26, 3) := gX10_findWhole_24.2.2.2.1
theorem dX10_findWhole_48 : decode cX10_findWhole 48 = .ok (.aload_n 0, 1) := gX10_findWhole_24.2.2.2.2.1
theorem dX10_findWhole_49 : decode cX10_findWhole 49 = .ok (.getfield 88, 3) := gX10_findWhole_24.2.2.2.2.2.1
theorem dX10_findWhole_52 : decode cX10_findWhole 52 = .ok (.bipush 8, 2) := gX10_findWhole_24.2.2.2.2.2.2.1
theorem dX10_findWhole_54 : decode cX10_findWhole 54 = .ok (.iload_n 1, 1) := gX10_findWhole_24.2.2.2.2.2.2.2.1
theorem dX10_findWhole_55 : decode cX10_findWhole 55 = .ok (.imul, 1) := gX10_findWhole_24.2.2.2.2.2.2.2.2.1
theorem dX10_findWhole_56 : decode cX10_findWhole 56 = .ok (.iload_n 2, 1) := gX10_findWhole_24.2.2.2.2.2.2.2.2.2.1
theorem dX10_findWhole_57 : decode cX10_findWhole 57 = .ok (.iadd, 1) := gX10_findWhole_24.2.2.2.2.2.2.2.2.2.2.1
theorem dX10_findWhole_58 : decode cX10_findWhole 58 = .ok (.aload_n 0, 1) := gX10_findWhole_24.2.2.2.2.2.2.2.2.2.2.2
theorem gX10_findWhole_36 : (decode cX10_findWhole 59 = .ok (.getfield 76, 3)) ∧ (decode cX10_findWhole 62 = .ok (.iload_n 2, 1)) ∧ (decode cX10_findWhole 63 = .ok (.iaload, 1)) ∧ (decode cX10_findWhole 64 = .ok (.iastore, 1)) ∧ (decode cX10_findWhole 65 = .ok (.iinc 2 1, 3)) ∧ (decode cX10_findWhole 68 = .ok (.goto (-28), 3)) ∧ (decode cX10_findWhole 71 = .ok (.aload_n 0, 1)) ∧ (decode cX10_findWhole 72 = .ok (.getfield 94, 3)) ∧ (decode cX10_findWhole 75 = .ok (.iload_n 1, 1)) ∧ (decode cX10_findWhole 76 = .ok (.iconst 0, 1)) ∧ (decode cX10_findWhole 77 = .ok (.iastore, 1)) ∧ (decode cX10_findWhole 78 = .ok (.iinc 1 1, 3)) := by decide +kernel
theorem dX10_findWhole_59 : decode cX10_findWhole 59 = .ok (.getfield 76, 3) := gX10_findWhole_36.1
theorem dX10_findWhole_62 : decode cX10_findWhole 62 = .ok (.iload_n 2, 1) := gX10_findWhole_36.2.1
theorem dX10_findWhole_63 : decode cX10_findWhole 63 = .ok (.iaload, 1) := gX10_findWhole_36.2.2.1
theorem dX10_findWhole_64 : decode cX10_findWhole 64 = .ok (.iastore, 1) := gX10_findWhole_36.2.2.2.1
theorem dX10_findWhole_65 : decode cX10_findWhole 65 = .ok (.iinc 2 1, 3) := gX10_findWhole_36.2.2.2.2.1
theorem dX10_findWhole_68 : decode cX10_findWhole 68 = .ok (.goto (-28), 3) := gX10_findWhole_36.2.2.2.2.2.1
theorem dX10_findWhole_71 : decode cX10_findWhole 71 = .ok (.aload_n 0, 1) := gX10_findWhole_36.2.2.2.2.2.2.1
theorem dX10_findWhole_72 : decode cX10_findWhole 72 = .ok (.getfield 94, 3) := gX10_findWhole_36.2.2.2.2.2.2.2.1
theorem dX10_findWhole_75 : decode cX10_findWhole 75 = .ok (.iload_n 1, 1) := gX10_findWhole_36.2.2.2.2.2.2.2.2.1
theorem dX10_findWhole_76 : decode cX10_findWhole 76 = .ok (.iconst 0, 1) := gX10_findWhole_36.2.2.2.2.2.2.2.2.2.1
theorem dX10_findWhole_77 : decode cX10_findWhole 77 = .ok (.iastore, 1) := gX10_findWhole_36.2.2.2.2.2.2.2.2.2.2.1
theorem dX10_findWhole_78 : decode cX10_findWhole 78 = .ok (.iinc 1 1, 3) := gX10_findWhole_36.2.2.2.2.2.2.2.2.2.2.2
theorem gX10_findWhole_48 : (decode cX10_findWhole 81 = .ok (.goto (-66), 3)) ∧ (decode cX10_findWhole 84 = .ok (.aload_n 0, 1)) ∧ (decode cX10_findWhole 85 = .ok (.iconst (-1), 1)) ∧ (decode cX10_findWhole 86 = .ok (.putfield 332, 3)) ∧ (decode cX10_findWhole 89 = .ok (.iconst 1, 1)) ∧ (decode cX10_findWhole 90 = .ok (.istore_n 1, 1)) ∧ (decode cX10_findWhole 91 = .ok (.iload_n 1, 1)) ∧ (decode cX10_findWhole 92 = .ok (.ifCond .eq 73, 3)) ∧ (decode cX10_findWhole 95 = .ok (.aload_n 0, 1)) ∧ (decode cX10_findWhole 96 = .ok (.invokevirtual 344, 3)) ∧ (decode cX10_findWhole 99 = .ok (.aload_n 0, 1)) ∧ (decode cX10_findWhole 100 = .ok (.getfield 17, 3)) := by decide +kernel
theorem dX10_findWhole_81 : decode cX10_findWhole 81 = .ok (.goto (-66), 3) := gX10_findWhole_48.1
theorem dX10_findWhole_84 : decode cX10_findWhole 84 = .ok (.aload_n 0, 1) := gX10_findWhole_48.2.1
theorem dX10_findWhole_85 : decode cX10_findWhole 85 = .ok (.iconst (-1), 1) := gX10_findWhole_48.2.2.1
theorem dX10_findWhole_86 : decode cX10_findWhole 86 = .ok (.putfield 332, 3) := gX10_findWhole_48.2.2.2.1
theorem dX10_findWhole_89 : decode cX10_findWhole 89 = .ok (.iconst 1, 1) := gX10_findWhole_48.2.2.2.2.1
theorem dX10_findWhole_90 : decode cX10_findWhole 90 = .ok (.istore_n 1, 1) := gX10_findWhole_48.2.2.2.2.2.1
theorem dX10_findWhole_91 : decode cX10_findWhole 91 = .ok (.iload_n 1, 1) := gX10_findWhole_48.2.2.2.2.2.2.1
theorem dX10_findWhole_92 : decode cX10_findWhole 92 = .ok (.ifCond .eq 73, 3) := gX10_findWhole_48.2.2.2.2.2.2.2.1
theorem dX10_findWhole_95 : decode cX10_findWhole 95 = .ok (.aload_n 0, 1) := gX10_findWhole_48.2.2.2.2.2.2.2.2.1
theorem dX10_findWhole_96 : decode cX10_findWhole 96 = .ok (.invokevirtual 344, 3) := gX10_findWhole_48.2.2.2.2.2.2.2.2.2.1
theorem dX10_findWhole_99 : decode cX10_findWhole 99 = .ok (.aload_n 0, 1) := gX10_findWhole_48.2.2.2.2.2.2.2.2.2.2.1
theorem dX10_findWhole_100 : decode cX10_findWhole 100 = .ok (.getfield 17, 3) := gX10_findWhole_48.2.2.2.2.2.2.2.2.2.2.2
theorem gX10_findWhole_60 : (decode cX10_findWhole 103 = .ok (.iconst 1, 1)) ∧ (decode cX10_findWhole 104 = .ok (.isub, 1)) ∧ (decode cX10_findWhole 105 = .ok (.istore_n 2, 1)) ∧ (decode cX10_findWhole 106 = .ok (.iload_n 2, 1)) ∧ (decode cX10_findWhole 107 = .ok (.ifCond .lt 31, 3)) ∧ (decode cX10_findWhole 110 = .ok (.aload_n 0, 1)) ∧ (decode cX10_findWhole 111 = .ok (.getfield 94, 3)) ∧ (decode cX10_findWhole 114 = .ok (.iload_n 2, 1)) ∧ (decode cX10_findWhole 115 = .ok (.iaload, 1)) ∧ (decode cX10_findWhole 116 = .ok (.aload_n 0, 1)) ∧ (decode cX10_findWhole 117 = .ok (.getfield 91, 3)) ∧ (decode cX10_findWhole 120 = .ok (.iload_n 2, 1)) := by decide +kernel
theorem dX10_findWhole_103 : decode cX10_findWhole 103 = .ok (.iconst 1, 1) := gX10_findWhole_60.1
theorem dX10_findWhole_104 : decode cX10_findWhole 104 = .ok (.isub, 1) := gX10_findWhole_60.2.1
theorem dX10_findWhole_105 : decode cX10_findWhole 105 = .ok (.istore_n 2, 1) := gX10_findWhole_60.2.2.1
theorem dX10_findWhole_106 : decode cX10_findWhole 106 = .ok (.iload_n 2, 1) := gX10_findWhole_60.2.2.2.1
theorem dX10_findWhole_107 : decode cX10_findWhole 107 = .ok (.ifCond .lt 31, 3) := gX10_findWhole_60.2.2.2.2.1
theorem dX10_findWhole_110 : decode cX10_findWhole 110 = .ok (.aload_n 0, 1) := gX10_findWhole_60.2.2.2.2.2.1
theorem dX10_findWhole_111 : decode cX10_findWhole 111 = .ok (.getfield 94, 3) := gX10_findWhole_60.2.2.2.2.2.2.1
theorem dX10_findWhole_114 : decode cX10_findWhole 114 = .ok (.iload_n 2, 1) := gX10_findWhole_60.2.2.2.2.2.2.2.1
theorem dX10_findWhole_115 : decode cX10_findWhole 115 = .ok (.iaload, 1) := gX10_findWhole_60.2.2.2.2.2.2.2.2.1
theorem dX10_findWhole_116 : decode cX10_findWhole 116 = .ok (.aload_n 0, 1) := gX10_findWhole_60.2.2.2.2.2.2.2.2.2.1
theorem dX10_findWhole_117 : decode cX10_findWhole 117 = .ok (.getfield 91, 3) := gX10_findWhole_60.2.2.2.2.2.2.2.2.2.2.1
theorem dX10_findWhole_120 : decode cX10_findWhole 120 = .ok (.iload_n 2, 1) := gX10_findWhole_60.2.2.2.2.2.2.2.2.2.2.2
theorem gX10_findWhole_72 : (decode cX10_findWhole 121 = .ok (.iaload, 1)) ∧ (decode cX10_findWhole 122 = .ok (.if_icmp .ne 16, 3)) ∧ (decode cX10_findWhole 125 = .ok (.aload_n 0, 1)) ∧ (decode cX10_findWhole 126 = .ok (.getfield 94, 3)) ∧ (decode cX10_findWhole 129 = .ok (.iload_n 2, 1)) ∧ (decode cX10_findWhole 130 = .ok (.iconst 0, 1)) ∧ (decode cX10_findWhole 131 = .ok (.iastore, 1)) ∧ (decode cX10_findWhole 132 = .ok (.iinc 2 (-1), 3)) ∧ (decode cX10_findWhole 135 = .ok (.goto (-29), 3)) ∧ (decode cX10_findWhole 138 = .ok (.iload_n 2, 1)) ∧ (decode cX10_findWhole 139 = .ok (.ifCond .lt 7, 3)) ∧ (decode cX10_findWhole 142 = .ok (.iconst 1, 1)) := by decide +kernel
theorem dX10_findWhole_121 : decode cX10_findWhole 121 = .ok (.iaload, 1) := gX10_findWhole_72.1
theorem dX10_findWhole_122 : decode cX10_findWhole 122 = .ok (.if_icmp .ne 16, 3) := gX10_findWhole_72.2.1
theorem dX10_findWhole_125 : decode cX10_findWhole 125 = .ok (.aload_n 0, 1) := gX10_findWhole_72.2.2.1
theorem dX10_findWhole_126 : decode cX10_findWhole 126 = .ok (.getfield 94, 3) := gX10_findWhole_72.2.2.2.1
theorem dX10_findWhole_129 : decode cX10_findWhole 129 = .ok (.iload_n 2, 1) := gX10_findWhole_72.2.2.2.2.1
theorem dX10_findWhole_130 : decode cX10_findWhole 130 = .ok (.iconst 0, 1) := gX10_findWhole_72.2.2.2.2.2.1
theorem dX10_findWhole_131 : decode cX10_findWhole 131 = .ok (.iastore, 1) := gX10_findWhole_72.2.2.2.2.2.2.1
theorem dX10_findWhole_132 : decode cX10_findWhole 132 = .ok (.iinc 2 (-1), 3) := gX10_findWhole_72.2.2.2.2.2.2.2.1
theorem dX10_findWhole_135 : decode cX10_findWhole 135 = .ok (.goto (-29), 3) := gX10_findWhole_72.2.2.2.2.2.2.2.2.1
theorem dX10_findWhole_138 : decode cX10_findWhole 138 = .ok (.iload_n 2, 1) := gX10_findWhole_72.2.2.2.2.2.2.2.2.2.1
theorem dX10_findWhole_139 : decode cX10_findWhole 139 = .ok (.ifCond .lt 7, 3) := gX10_findWhole_72.2.2.2.2.2.2.2.2.2.2.1
theorem dX10_findWhole_142 : decode cX10_findWhole 142 = .ok (.iconst 1, 1) := gX10_findWhole_72.2.2.2.2.2.2.2.2.2.2.2
theorem gX10_findWhole_84 : (decode cX10_findWhole 143 = .ok (.goto 4, 3)) ∧ (decode cX10_findWhole 146 = .ok (.iconst 0, 1)) ∧ (decode cX10_findWhole 147 = .ok (.istore_n 1, 1)) ∧ (decode cX10_findWhole 148 = .ok (.iload_n 1, 1)) ∧ (decode cX10_findWhole 149 = .ok (.ifCond .eq 13, 3)) ∧ (decode cX10_findWhole 152 = .ok (.aload_n 0, 1)) ∧ (decode cX10_findWhole 153 = .ok (.getfield 94, 3)) ∧ (decode cX10_findWhole 156 = .ok (.iload_n 2, 1)) ∧ (decode cX10_findWhole 157 = .ok (.dup2, 1)) ∧ (decode cX10_findWhole 158 = .ok (.iaload, 1)) ∧ (decode cX10_findWhole 159 = .ok (.iconst 1, 1)) ∧ (decode cX10_findWhole 160 = .ok (.iadd, 1)) := by decide +kernel
theorem dX10_findWhole_143 : decode cX10_findWhole 143 = .ok (.goto 4, 3) := gX10_findWhole_84.1
theorem dX10_findWhole_146 : decode cX10_findWhole 146 = .ok (.iconst 0, 1) := gX10_findWhole_84.2.1
theorem dX10_findWhole_147 : decode cX10_findWhole 147 = .ok (.istore_n 1, 1) := gX10_findWhole_84.2.2.1
theorem dX10_findWhole_148 : decode cX10_findWhole 148 = .ok (.iload_n 1, 1) := gX10_findWhole_84.2.2.2.1
theorem dX10_findWhole_149 : decode cX10_findWhole 149 = .ok (.ifCond .eq 13, 3) := gX10_findWhole_84.2.2.2.2.1
theorem dX10_findWhole_152 : decode cX10_findWhole 152 = .ok (.aload_n 0, 1) := gX10_findWhole_84.2.2.2.2.2.1
theorem dX10_findWhole_153 : decode cX10_findWhole 153 = .ok (.getfield 94, 3) := gX10_findWhole_84.2.2.2.2.2.2.1
theorem dX10_findWhole_156 : decode cX10_findWhole 156 = .ok (.iload_n 2, 1) := gX10_findWhole_84.2.2.2.2.2.2.2.1
theorem dX10_findWhole_157 : decode cX10_findWhole 157 = .ok (.dup2, 1) := gX10_findWhole_84.2.2.2.2.2.2.2.2.1
theorem dX10_findWhole_158 : decode cX10_findWhole 158 = .ok (.iaload, 1) := gX10_findWhole_84.2.2.2.2.2.2.2.2.2.1
theorem dX10_findWhole_159 : decode cX10_findWhole 159 = .ok (.iconst 1, 1) := gX10_findWhole_84.2.2.2.2.2.2.2.2.2.2.1
theorem dX10_findWhole_160 : decode cX10_findWhole 160 = .ok (.iadd, 1) := gX10_findWhole_84.2.2.2.2.2.2.2.2.2.2.2
theorem gX10_findWhole_96 : (decode cX10_findWhole 161 = .ok (.iastore, 1)) ∧ (decode cX10_findWhole 162 = .ok (.goto (-71), 3)) ∧ (decode cX10_findWhole 165 = .ok (.aload_n 0, 1)) ∧ (decode cX10_findWhole 166 = .ok (.aload_n 0, 1)) ∧ (decode cX10_findWhole 167 = .ok (.getfield 332, 3)) ∧ (decode cX10_findWhole 170 = .ok (.putfield 347, 3)) ∧ (decode cX10_findWhole 173 = .ok (.aload_n 0, 1)) ∧ (decode cX10_findWhole 174 = .ok (.aload_n 0, 1)) ∧ (decode cX10_findWhole 175 = .ok (.getfield 335, 3)) ∧ (decode cX10_findWhole 178 = .ok (.putfield 350, 3)) ∧ (decode cX10_findWhole 181 = .ok (.return_, 1)) := by decide +kernel
theorem dX10_findWhole_161 : decode cX10_findWhole 161 = .ok (.iastore, 1) := gX10_findWhole_96.1
theorem dX10_findWhole_162 : decode cX10_findWhole 162 = .ok (.goto (-71), 3) := gX10_findWhole_96.2.1
theorem dX10_findWhole_165 : decode cX10_findWhole 165 = .ok (.aload_n 0, 1) := gX10_findWhole_96.2.2.1
theorem dX10_findWhole_166 : decode cX10_findWhole 166 = .ok (.aload_n 0, 1) := gX10_findWhole_96.2.2.2.1
theorem dX10_findWhole_167 : decode cX10_findWhole 167 = .ok (.getfield 332, 3) := gX10_findWhole_96.2.2.2.2.1
theorem dX10_findWhole_170 : decode cX10_findWhole 170 = .ok (.putfield 347, 3) := gX10_findWhole_96.2.2.2.2.2.1
theorem dX10_findWhole_173 : decode cX10_findWhole 173 = .ok (.aload_n 0, 1) := gX10_findWhole_96.2.2.2.2.2.2.1
theorem dX10_findWhole_174 : decode cX10_findWhole 174 = .ok (.aload_n 0, 1) := gX10_findWhole_96.2.2.2.2.2.2.2.1
theorem dX10_findWhole_175 : decode cX10_findWhole 175 = .ok (.getfield 335, 3) := gX10_findWhole_96.2.2.2.2.2.2.2.2.1
theorem dX10_findWhole_178 : decode cX10_findWhole 178 = .ok (.putfield 350, 3) := gX10_findWhole_96.2.2.2.2.2.2.2.2.2.1
theorem dX10_findWhole_181 : decode cX10_findWhole 181 = .ok (.return_, 1) := gX10_findWhole_96.2.2.2.2.2.2.2.2.2.2
theorem gX10_whole_0 : (decode cX10_whole 0 = .ok (.iload_n 1, 1)) ∧ (decode cX10_whole 1 = .ok (.iconst 0, 1)) ∧ (decode cX10_whole 2 = .ok (.iconst 1, 1)) ∧ (decode cX10_whole 3 = .ok (.invokestatic 144, 3)) ∧ (decode cX10_whole 6 = .ok (.ifCond .ne 10, 3)) ∧ (decode cX10_whole 9 = .ok (.aload_n 0, 1)) ∧ (decode cX10_whole 10 = .ok (.bipush (-2), 2)) ∧ (decode cX10_whole 12 = .ok (.invokevirtual 151, 3)) ∧ (decode cX10_whole 15 = .ok (.ireturn, 1)) ∧ (decode cX10_whole 16 = .ok (.aload_n 0, 1)) ∧ (decode cX10_whole 17 = .ok (.invokevirtual 160, 3)) ∧ (decode cX10_whole 20 = .ok (.ifCond .eq 10, 3)) := by decide +kernel
theorem dX10_whole_0 : decode cX10_whole 0 = .ok (.iload_n 1, 1) := gX10_whole_0.1
theorem dX10_whole_1 : decode cX10_whole 1 = .ok (.iconst 0, 1) := gX10_whole_0.2.1
theorem dX10_whole_2 : decode cX10_whole 2 = .ok (.iconst 1, 1) := gX10_whole_0.2.2.1
theorem dX10_whole_3 : decode cX10_whole 3 = .ok (.invokestatic 144, 3) := gX10_whole_0.2.2.2.1
theorem dX10_whole_6 : decode cX10_whole 6 = .ok (.ifCond .ne 10, 3) := gX10_whole_0.2.2.2.2.1
theorem dX10_whole_9 : decode cX10_whole 9 = .ok (.aload_n 0, 1) := gX10_whole_0.2.2.2.2.2.1
theorem dX10_whole_10 : decode cX10_whole 10 = .ok (.bipush (-2), 2) := gX10_whole_0.2.2.2.2.2.2.1
theorem dX10_whole_12 : decode cX10_whole 12 = .ok (.invokevirtual 151, 3) := gX10_whole_0.2.2.2.2.2.2.2.1
theorem dX10_whole_15 : decode cX10_whole 15 = .ok (.ireturn, 1) := gX10_whole_0.2.2.2.2.2.2.2.2.1
theorem dX10_whole_16 : decode cX10_whole 16 = .ok (.aload_n 0, 1) := gX10_whole_0.2.2.2.2.2.2.2.2.2.1
theorem dX10_whole_17 : decode cX10_whole 17 = .ok (.invokevirtual 160, 3) := gX10_whole_0.2.2.2.2.2.2.2.2.2.2.1
theorem dX10_whole_20 : decode cX10_whole 20 = .ok (.ifCond .eq 10, 3) := gX10_whole_0.2.2.2.2.2.2.2.2.2.2.2
theorem gX10_whole_12 : (decode cX10_whole 23 = .ok (.aload_n 0, 1)) ∧ (decode cX10_whole 24 = .ok (.bipush (-3), 2)) ∧ (decode cX10_whole 26 = .ok (.invokevirtual 151, 3)) ∧ (decode cX10_whole 29 = .ok (.ireturn, 1)) ∧ (decode cX10_whole 30 = .ok (.aload_n 0, 1)) ∧ (decode cX10_whole 31 = .ok (.invokevirtual 353, 3)) ∧ (decode cX10_whole 34 = .ok (.iload_n 1, 1)) ∧ (decode cX10_whole 35 = .ok (.ifCond .ne 10, 3)) ∧ (decode cX10_whole 38 = .ok (.aload_n 0, 1)) ∧ (decode cX10_whole 39 = .ok (.getfield 347, 3)) ∧ (decode cX10_whole 42 = .ok (.goto 7, 3)) ∧ (decode cX10_whole 45 = .ok (.aload_n 0, 1)) := by decide +kernel
theorem dX10_whole_23 : decode cX10_whole 23 = .ok (.aload_n 0, 1) := gX10_whole_12.1
theorem dX10_whole_24 : decode cX10_whole 24 = .ok (.bipush (-3), 2) := gX10_whole_12.2.1
theorem dX10_whole_26 : decode cX10_whole 26 = .ok (.invokevirtual 151, 3) := gX10_whole_12.2.2.1
theorem dX10_whole_29 : decode cX10_whole 29 = .ok (.ireturn, 1) := gX10_whole_12.2.2.2.1
theorem dX10_whole_30 : decode cX10_whole 30 = .ok (.aload_n 0, 1) := gX10_whole_12.2.2.2.2.1
theorem dX10_whole_31 : decode cX10_whole 31 = .ok (.invokevirtual 353, 3) := gX10_whole_12.2.2.2.2.2.1
theorem dX10_whole_34 : decode cX10_whole 34 = .ok (.iload_n 1, 1) := gX10_whole_12.2.2.2.2.2.2.1
theorem dX10_whole_35 : decode cX10_whole 35 = .ok (.ifCond .ne 10, 3) := gX10_whole_12.2.2.2.2.2.2.2.1
theorem dX10_whole_38 : decode cX10_whole 38 = .ok (.aload_n 0, 1) := gX10_whole_12.2.2.2.2.2.2.2.2.1
theorem dX10_whole_39 : decode cX10_whole 39 = .ok (.getfield 347, 3) := gX10_whole_12.2.2.2.2.2.2.2.2.2.1
theorem dX10_whole_42 : decode cX10_whole 42 = .ok (.goto 7, 3) := gX10_whole_12.2.2.2.2.2.2.2.2.2.2.1
theorem dX10_whole_45 : decode cX10_whole 45 = .ok (.aload_n 0, 1) := gX10_whole_12.2.2.2.2.2.2.2.2.2.2.2
theorem gX10_whole_24 : (decode cX10_whole 46 = .ok (.getfield 350, 3)) ∧ (decode cX10_whole 49 = .ok (.ireturn, 1)) := by decide +kernel
theorem dX10_whole_46 : decode cX10_whole 46 = .ok (.getfield 350, 3) := gX10_whole_24.1
theorem dX10_whole_49 : decode cX10_whole 49 = .ok (.ireturn, 1) := gX10_whole_24.2
theorem gX10_winner_0 : (decode cX10_winner 0 = .ok (.aload_n 0, 1)) ∧ (decode cX10_winner 1 = .ok (.iload_n 1, 1)) ∧ (decode cX10_winner 2 = .ok (.invokevirtual 170, 3)) ∧ (decode cX10_winner 5 = .ok (.ifCond .ne 9, 3)) ∧ (decode cX10_winner 8 = .ok (.aload_n 0, 1)) ∧ (decode cX10_winner 9 = .ok (.iconst (-1), 1)) ∧ (decode cX10_winner 10 = .ok (.invokevirtual 151, 3)) ∧ (decode cX10_winner 13 = .ok (.ireturn, 1)) ∧ (decode cX10_winner 14 = .ok (.aload_n 0, 1)) ∧ (decode cX10_winner 15 = .ok (.invokevirtual 160, 3)) ∧ (decode cX10_winner 18 = .ok (.ifCond .eq 10, 3)) ∧ (decode cX10_winner 21 = .ok (.aload_n 0, 1)) := by decide +kernel
theorem dX10_winner_0 : decode cX10_winner 0 = .ok (.aload_n 0, 1) := gX10_winner_0.1
theorem dX10_winner_1 : decode cX10_winner 1 = .ok (.iload_n 1, 1) := gX10_winner_0.2.1
theorem dX10_winner_2 : decode cX10_winner 2 = .ok (.invokevirtual 170, 3) := gX10_winner_0.2.2.1
theorem dX10_winner_5 : decode cX10_winner 5 = .ok (.ifCond .ne 9, 3) := gX10_winner_0.2.2.2.1
theorem dX10_winner_8 : decode cX10_winner 8 = .ok (.aload_n 0, 1) := gX10_winner_0.2.2.2.2.1
theorem dX10_winner_9 : decode cX10_winner 9 = .ok (.iconst (-1), 1) := gX10_winner_0.2.2.2.2.2.1
theorem dX10_winner_10 : decode cX10_winner 10 = .ok (.invokevirtual 151, 3) := gX10_winner_0.2.2.2.2.2.2.1
theorem dX10_winner_13 : decode cX10_winner 13 = .ok (.ireturn, 1) := gX10_winner_0.2.2.2.2.2.2.2.1
theorem dX10_winner_14 : decode cX10_winner 14 = .ok (.aload_n 0, 1) := gX10_winner_0.2.2.2.2.2.2.2.2.1
theorem dX10_winner_15 : decode cX10_winner 15 = .ok (.invokevirtual 160, 3) := gX10_winner_0.2.2.2.2.2.2.2.2.2.1
theorem dX10_winner_18 : decode cX10_winner 18 = .ok (.ifCond .eq 10, 3) := gX10_winner_0.2.2.2.2.2.2.2.2.2.2.1
theorem dX10_winner_21 : decode cX10_winner 21 = .ok (.aload_n 0, 1) := gX10_winner_0.2.2.2.2.2.2.2.2.2.2.2
theorem gX10_winner_12 : (decode cX10_winner 22 = .ok (.bipush (-3), 2)) ∧ (decode cX10_winner 24 = .ok (.invokevirtual 151, 3)) ∧ (decode cX10_winner 27 = .ok (.ireturn, 1)) ∧ (decode cX10_winner 28 = .ok (.aload_n 0, 1)) ∧ (decode cX10_winner 29 = .ok (.invokevirtual 353, 3)) ∧ (decode cX10_winner 32 = .ok (.aload_n 0, 1)) ∧ (decode cX10_winner 33 = .ok (.getfield 85, 3)) ∧ (decode cX10_winner 36 = .ok (.iload_n 1, 1)) ∧ (decode cX10_winner 37 = .ok (.iaload, 1)) ∧ (decode cX10_winner 38 = .ok (.ireturn, 1)) := by decide +kernel
theorem dX10_winner_22 : decode cX10_winner 22 = .ok (.bipush (-3), 2) := gX10_winner_12.1
theorem dX10_winner_24 : decode cX10_winner 24 = .ok (.invokevirtual 151, 3) := gX10_winner_12.2.1
theorem dX10_winner_27 : decode cX10_winner 27 = .ok (.ireturn, 1) := gX10_winner_12.2.2.1
theorem dX10_winner_28 : decode cX10_winner 28 = .ok (.aload_n 0, 1) := gX10_winner_12.2.2.2.1
theorem dX10_winner_29 : decode cX10_winner 29 = .ok (.invokevirtual 353, 3) := gX10_winner_12.2.2.2.2.1
theorem dX10_winner_32 : decode cX10_winner 32 = .ok (.aload_n 0, 1) := gX10_winner_12.2.2.2.2.2.1
theorem dX10_winner_33 : decode cX10_winner 33 = .ok (.getfield 85, 3) := gX10_winner_12.2.2.2.2.2.2.1
theorem dX10_winner_36 : decode cX10_winner 36 = .ok (.iload_n 1, 1) := gX10_winner_12.2.2.2.2.2.2.2.1
theorem dX10_winner_37 : decode cX10_winner 37 = .ok (.iaload, 1) := gX10_winner_12.2.2.2.2.2.2.2.2.1
theorem dX10_winner_38 : decode cX10_winner 38 = .ok (.ireturn, 1) := gX10_winner_12.2.2.2.2.2.2.2.2.2
theorem gX10_award_0 : (decode cX10_award 0 = .ok (.iload_n 1, 1)) ∧ (decode cX10_award 1 = .ok (.iconst 0, 1)) ∧ (decode cX10_award 2 = .ok (.iconst 1, 1)) ∧ (decode cX10_award 3 = .ok (.invokestatic 144, 3)) ∧ (decode cX10_award 6 = .ok (.ifCond .ne 10, 3)) ∧ (decode cX10_award 9 = .ok (.aload_n 0, 1)) ∧ (decode cX10_award 10 = .ok (.bipush (-2), 2)) ∧ (decode cX10_award 12 = .ok (.invokevirtual 151, 3)) ∧ (decode cX10_award 15 = .ok (.ireturn, 1)) ∧ (decode cX10_award 16 = .ok (.aload_n 0, 1)) ∧ (decode cX10_award 17 = .ok (.invokevirtual 160, 3)) ∧ (decode cX10_award 20 = .ok (.ifCond .ne 10, 3)) := by decide +kernel
theorem dX10_award_0 : decode cX10_award 0 = .ok (.iload_n 1, 1) := gX10_award_0.1
theorem dX10_award_1 : decode cX10_award 1 = .ok (.iconst 0, 1) := gX10_award_0.2.1
theorem dX10_award_2 : decode cX10_award 2 = .ok (.iconst 1, 1) := gX10_award_0.2.2.1
theorem dX10_award_3 : decode cX10_award 3 = .ok (.invokestatic 144, 3) := gX10_award_0.2.2.2.1
theorem dX10_award_6 : decode cX10_award 6 = .ok (.ifCond .ne 10, 3) := gX10_award_0.2.2.2.2.1
theorem dX10_award_9 : decode cX10_award 9 = .ok (.aload_n 0, 1) := gX10_award_0.2.2.2.2.2.1
theorem dX10_award_10 : decode cX10_award 10 = .ok (.bipush (-2), 2) := gX10_award_0.2.2.2.2.2.2.1
theorem dX10_award_12 : decode cX10_award 12 = .ok (.invokevirtual 151, 3) := gX10_award_0.2.2.2.2.2.2.2.1
theorem dX10_award_15 : decode cX10_award 15 = .ok (.ireturn, 1) := gX10_award_0.2.2.2.2.2.2.2.2.1
theorem dX10_award_16 : decode cX10_award 16 = .ok (.aload_n 0, 1) := gX10_award_0.2.2.2.2.2.2.2.2.2.1
theorem dX10_award_17 : decode cX10_award 17 = .ok (.invokevirtual 160, 3) := gX10_award_0.2.2.2.2.2.2.2.2.2.2.1
theorem dX10_award_20 : decode cX10_award 20 = .ok (.ifCond .ne 10, 3) := gX10_award_0.2.2.2.2.2.2.2.2.2.2.2
theorem gX10_award_12 : (decode cX10_award 23 = .ok (.aload_n 0, 1)) ∧ (decode cX10_award 24 = .ok (.getfield 356, 3)) ∧ (decode cX10_award 27 = .ok (.ifCond .eq 10, 3)) ∧ (decode cX10_award 30 = .ok (.aload_n 0, 1)) ∧ (decode cX10_award 31 = .ok (.bipush (-3), 2)) ∧ (decode cX10_award 33 = .ok (.invokevirtual 151, 3)) ∧ (decode cX10_award 36 = .ok (.ireturn, 1)) ∧ (decode cX10_award 37 = .ok (.aload_n 0, 1)) ∧ (decode cX10_award 38 = .ok (.invokevirtual 353, 3)) ∧ (decode cX10_award 41 = .ok (.aload_n 0, 1)) ∧ (decode cX10_award 42 = .ok (.iconst 1, 1)) ∧ (decode cX10_award 43 = .ok (.putfield 356, 3)) := by decide +kernel
theorem dX10_award_23 : decode cX10_award 23 = .ok (.aload_n 0, 1) := gX10_award_12.1
theorem dX10_award_24 : decode cX10_award 24 = .ok (.getfield 356, 3) := gX10_award_12.2.1
theorem dX10_award_27 : decode cX10_award 27 = .ok (.ifCond .eq 10, 3) := gX10_award_12.2.2.1
theorem dX10_award_30 : decode cX10_award 30 = .ok (.aload_n 0, 1) := gX10_award_12.2.2.2.1
theorem dX10_award_31 : decode cX10_award 31 = .ok (.bipush (-3), 2) := gX10_award_12.2.2.2.2.1
theorem dX10_award_33 : decode cX10_award 33 = .ok (.invokevirtual 151, 3) := gX10_award_12.2.2.2.2.2.1
theorem dX10_award_36 : decode cX10_award 36 = .ok (.ireturn, 1) := gX10_award_12.2.2.2.2.2.2.1
theorem dX10_award_37 : decode cX10_award 37 = .ok (.aload_n 0, 1) := gX10_award_12.2.2.2.2.2.2.2.1
theorem dX10_award_38 : decode cX10_award 38 = .ok (.invokevirtual 353, 3) := gX10_award_12.2.2.2.2.2.2.2.2.1
theorem dX10_award_41 : decode cX10_award 41 = .ok (.aload_n 0, 1) := gX10_award_12.2.2.2.2.2.2.2.2.2.1
theorem dX10_award_42 : decode cX10_award 42 = .ok (.iconst 1, 1) := gX10_award_12.2.2.2.2.2.2.2.2.2.2.1
theorem dX10_award_43 : decode cX10_award 43 = .ok (.putfield 356, 3) := gX10_award_12.2.2.2.2.2.2.2.2.2.2.2
theorem gX10_award_24 : (decode cX10_award 46 = .ok (.aload_n 0, 1)) ∧ (decode cX10_award 47 = .ok (.aload_n 0, 1)) ∧ (decode cX10_award 48 = .ok (.getfield 148, 3)) ∧ (decode cX10_award 51 = .ok (.sipush 1440, 3)) ∧ (decode cX10_award 54 = .ok (.iload_n 1, 1)) ∧ (decode cX10_award 55 = .ok (.ifCond .ne 8, 3)) ∧ (decode cX10_award 58 = .ok (.bipush 10, 2)) ∧ (decode cX10_award 60 = .ok (.goto 5, 3)) ∧ (decode cX10_award 63 = .ok (.bipush 13, 2)) ∧ (decode cX10_award 65 = .ok (.imul, 1)) ∧ (decode cX10_award 66 = .ok (.iadd, 1)) ∧ (decode cX10_award 67 = .ok (.putfield 359, 3)) := by decide +kernel
theorem dX10_award_46 : decode cX10_award 46 = .ok (.aload_n 0, 1) := gX10_award_24.1
theorem dX10_award_47 : decode cX10_award 47 = .ok (.aload_n 0, 1) := gX10_award_24.2.1
theorem dX10_award_48 : decode cX10_award 48 = .ok (.getfield 148, 3) := gX10_award_24.2.2.1
theorem dX10_award_51 : decode cX10_award 51 = .ok (.sipush 1440, 3) := gX10_award_24.2.2.2.1
theorem dX10_award_54 : decode cX10_award 54 = .ok (.iload_n 1, 1) := gX10_award_24.2.2.2.2.1
theorem dX10_award_55 : decode cX10_award 55 = .ok (.ifCond .ne 8, 3) := gX10_award_24.2.2.2.2.2.1
theorem dX10_award_58 : decode cX10_award 58 = .ok (.bipush 10, 2) := gX10_award_24.2.2.2.2.2.2.1
theorem dX10_award_60 : decode cX10_award 60 = .ok (.goto 5, 3) := gX10_award_24.2.2.2.2.2.2.2.1
theorem dX10_award_63 : decode cX10_award 63 = .ok (.bipush 13, 2) := gX10_award_24.2.2.2.2.2.2.2.2.1
theorem dX10_award_65 : decode cX10_award 65 = .ok (.imul, 1) := gX10_award_24.2.2.2.2.2.2.2.2.2.1
theorem dX10_award_66 : decode cX10_award 66 = .ok (.iadd, 1) := gX10_award_24.2.2.2.2.2.2.2.2.2.2.1
theorem dX10_award_67 : decode cX10_award 67 = .ok (.putfield 359, 3) := gX10_award_24.2.2.2.2.2.2.2.2.2.2.2
theorem gX10_award_36 : (decode cX10_award 70 = .ok (.iconst 0, 1)) ∧ (decode cX10_award 71 = .ok (.istore_n 2, 1)) ∧ (decode cX10_award 72 = .ok (.iload_n 2, 1)) ∧ (decode cX10_award 73 = .ok (.bipush 6, 2)) ∧ (decode cX10_award 75 = .ok (.if_icmp .ge 75, 3)) ∧ (decode cX10_award 78 = .ok (.aload_n 0, 1)) ∧ (decode cX10_award 79 = .ok (.getfield 103, 3)) ∧ (decode cX10_award 82 = .ok (.iload_n 2, 1)) ∧ (decode cX10_award 83 = .ok (.iload_n 2, 1)) ∧ (decode cX10_award 84 = .ok (.aload_n 0, 1)) ∧ (decode cX10_award 85 = .ok (.getfield 17, 3)) ∧ (decode cX10_award 88 = .ok (.if_icmp .ge 12, 3)) := by decide +kernel
theorem dX10_award_70 : decode cX10_award 70 = .ok (.iconst 0, 1) := gX10_award_36.1
theorem dX10_award_71 : decode cX10_award 71 = .ok (.istore_n 2, 1) := gX10_award_36.2.1
theorem dX10_award_72 : decode cX10_award 72 = .ok (.iload_n 2, 1) := gX10_award_36.2.2.1
theorem dX10_award_73 : decode cX10_award 73 = .ok (.bipush 6, 2) := gX10_award_36.2.2.2.1
theorem dX10_award_75 : decode cX10_award 75 = .ok (.if_icmp .ge 75, 3) := gX10_award_36.2.2.2.2.1
theorem dX10_award_78 : decode cX10_award 78 = .ok (.aload_n 0, 1) := gX10_award_36.2.2.2.2.2.1
theorem dX10_award_79 : decode cX10_award 79 = .ok (.getfield 103, 3) := gX10_award_36.2.2.2.2.2.2.1
theorem dX10_award_82 : decode cX10_award 82 = .ok (.iload_n 2, 1) := gX10_award_36.2.2.2.2.2.2.2.1
theorem dX10_award_83 : decode cX10_award 83 = .ok (.iload_n 2, 1) := gX10_award_36.2.2.2.2.2.2.2.2.1
theorem dX10_award_84 : decode cX10_award 84 = .ok (.aload_n 0, 1) := gX10_award_36.2.2.2.2.2.2.2.2.2.1
theorem dX10_award_85 : decode cX10_award 85 = .ok (.getfield 17, 3) := gX10_award_36.2.2.2.2.2.2.2.2.2.2.1
theorem dX10_award_88 : decode cX10_award 88 = .ok (.if_icmp .ge 12, 3) := gX10_award_36.2.2.2.2.2.2.2.2.2.2.2
theorem gX10_award_48 : (decode cX10_award 91 = .ok (.aload_n 0, 1)) ∧ (decode cX10_award 92 = .ok (.getfield 85, 3)) ∧ (decode cX10_award 95 = .ok (.iload_n 2, 1)) ∧ (decode cX10_award 96 = .ok (.iaload, 1)) ∧ (decode cX10_award 97 = .ok (.goto 5, 3)) ∧ (decode cX10_award 100 = .ok (.bipush (-9), 2)) ∧ (decode cX10_award 102 = .ok (.iastore, 1)) ∧ (decode cX10_award 103 = .ok (.aload_n 0, 1)) ∧ (decode cX10_award 104 = .ok (.getfield 106, 3)) ∧ (decode cX10_award 107 = .ok (.iload_n 2, 1)) ∧ (decode cX10_award 108 = .ok (.aload_n 0, 1)) ∧ (decode cX10_award 109 = .ok (.getfield 103, 3)) := by decide +kernel
theorem dX10_award_91 : decode cX10_award 91 = .ok (.aload_n 0, 1) := gX10_award_48.1
theorem dX10_award_92 : decode cX10_award 92 = .ok (.getfield 85, 3) := gX10_award_48.2.1
theorem dX10_award_95 : decode cX10_award 95 = .ok (.iload_n 2, 1) := gX10_award_48.2.2.1
theorem dX10_award_96 : decode cX10_award 96 = .ok (.iaload, 1) := gX10_award_48.2.2.2.1
theorem dX10_award_97 : decode cX10_award 97 = .ok (.goto 5, 3) := gX10_award_48.2.2.2.2.1
theorem dX10_award_100 : decode cX10_award 100 = .ok (.bipush (-9), 2) := gX10_award_48.2.2.2.2.2.1
theorem dX10_award_102 : decode cX10_award 102 = .ok (.iastore, 1) := gX10_award_48.2.2.2.2.2.2.1
theorem dX10_award_103 : decode cX10_award 103 = .ok (.aload_n 0, 1) := gX10_award_48.2.2.2.2.2.2.2.1
theorem dX10_award_104 : decode cX10_award 104 = .ok (.getfield 106, 3) := gX10_award_48.2.2.2.2.2.2.2.2.1
theorem dX10_award_107 : decode cX10_award 107 = .ok (.iload_n 2, 1) := gX10_award_48.2.2.2.2.2.2.2.2.2.1
theorem dX10_award_108 : decode cX10_award 108 = .ok (.aload_n 0, 1) := gX10_award_48.2.2.2.2.2.2.2.2.2.2.1
theorem dX10_award_109 : decode cX10_award 109 = .ok (.getfield 103, 3) := gX10_award_48.2.2.2.2.2.2.2.2.2.2.2
theorem gX10_award_60 : (decode cX10_award 112 = .ok (.iload_n 2, 1)) ∧ (decode cX10_award 113 = .ok (.iaload, 1)) ∧ (decode cX10_award 114 = .ok (.ifCond .ge 7, 3)) ∧ (decode cX10_award 117 = .ok (.iconst 0, 1)) ∧ (decode cX10_award 118 = .ok (.goto 18, 3)) ∧ (decode cX10_award 121 = .ok (.aload_n 0, 1)) ∧ (decode cX10_award 122 = .ok (.bipush 8, 2)) ∧ (decode cX10_award 124 = .ok (.iload_n 2, 1)) ∧ (decode cX10_award 125 = .ok (.imul, 1)) ∧ (decode cX10_award 126 = .ok (.aload_n 0, 1)) ∧ (decode cX10_award 127 = .ok (.getfield 103, 3)) ∧ (decode cX10_award 130 = .ok (.iload_n 2, 1)) := by decide +kernel
theorem dX10_award_112 : decode cX10_award 112 = .ok (.iload_n 2, 1) := gX10_award_60.1
theorem dX10_award_113 : decode cX10_award 113 = .ok (.iaload, 1) := gX10_award_60.2.1
theorem dX10_award_114 : decode cX10_award 114 = .ok (.ifCond .ge 7, 3) := gX10_award_60.2.2.1
theorem dX10_award_117 : decode cX10_award 117 = .ok (.iconst 0, 1) := gX10_award_60.2.2.2.1
theorem dX10_award_118 : decode cX10_award 118 = .ok (.goto 18, 3) := gX10_award_60.2.2.2.2.1
theorem dX10_award_121 : decode cX10_award 121 = .ok (.aload_n 0, 1) := gX10_award_60.2.2.2.2.2.1
theorem dX10_award_122 : decode cX10_award 122 = .ok (.bipush 8, 2) := gX10_award_60.2.2.2.2.2.2.1
theorem dX10_award_124 : decode cX10_award 124 = .ok (.iload_n 2, 1) := gX10_award_60.2.2.2.2.2.2.2.1
theorem dX10_award_125 : decode cX10_award 125 = .ok (.imul, 1) := gX10_award_60.2.2.2.2.2.2.2.2.1
theorem dX10_award_126 : decode cX10_award 126 = .ok (.aload_n 0, 1) := gX10_award_60.2.2.2.2.2.2.2.2.2.1
theorem dX10_award_127 : decode cX10_award 127 = .ok (.getfield 103, 3) := gX10_award_60.2.2.2.2.2.2.2.2.2.2.1
theorem dX10_award_130 : decode cX10_award 130 = .ok (.iload_n 2, 1) := gX10_award_60.2.2.2.2.2.2.2.2.2.2.2
theorem gX10_award_72 : (decode cX10_award 131 = .ok (.iaload, 1)) ∧ (decode cX10_award 132 = .ok (.iadd, 1)) ∧ (decode cX10_award 133 = .ok (.invokevirtual 191, 3)) ∧ (decode cX10_award 136 = .ok (.iastore, 1)) ∧ (decode cX10_award 137 = .ok (.aload_n 0, 1)) ∧ (decode cX10_award 138 = .ok (.getfield 109, 3)) ∧ (decode cX10_award 141 = .ok (.iload_n 2, 1)) ∧ (decode cX10_award 142 = .ok (.iconst 0, 1)) ∧ (decode cX10_award 143 = .ok (.iastore, 1)) ∧ (decode cX10_award 144 = .ok (.iinc 2 1, 3)) ∧ (decode cX10_award 147 = .ok (.goto (-75), 3)) ∧ (decode cX10_award 150 = .ok (.aload_n 0, 1)) := by decide +kernel
theorem dX10_award_131 : decode cX10_award 131 = .ok (.iaload, 1) := gX10_award_72.1
theorem dX10_award_132 : decode cX10_award 132 = .ok (.iadd, 1) := gX10_award_72.2.1
theorem dX10_award_133 : decode cX10_award 133 = .ok (.invokevirtual 191, 3) := gX10_award_72.2.2.1
theorem dX10_award_136 : decode cX10_award 136 = .ok (.iastore, 1) := gX10_award_72.2.2.2.1
theorem dX10_award_137 : decode cX10_award 137 = .ok (.aload_n 0, 1) := gX10_award_72.2.2.2.2.1
theorem dX10_award_138 : decode cX10_award 138 = .ok (.getfield 109, 3) := gX10_award_72.2.2.2.2.2.1
theorem dX10_award_141 : decode cX10_award 141 = .ok (.iload_n 2, 1) := gX10_award_72.2.2.2.2.2.2.1
theorem dX10_award_142 : decode cX10_award 142 = .ok (.iconst 0, 1) := gX10_award_72.2.2.2.2.2.2.2.1
theorem dX10_award_143 : decode cX10_award 143 = .ok (.iastore, 1) := gX10_award_72.2.2.2.2.2.2.2.2.1
theorem dX10_award_144 : decode cX10_award 144 = .ok (.iinc 2 1, 3) := gX10_award_72.2.2.2.2.2.2.2.2.2.1
theorem dX10_award_147 : decode cX10_award 147 = .ok (.goto (-75), 3) := gX10_award_72.2.2.2.2.2.2.2.2.2.2.1
theorem dX10_award_150 : decode cX10_award 150 = .ok (.aload_n 0, 1) := gX10_award_72.2.2.2.2.2.2.2.2.2.2.2
theorem gX10_award_84 : (decode cX10_award 151 = .ok (.getfield 347, 3)) ∧ (decode cX10_award 154 = .ok (.ireturn, 1)) := by decide +kernel
theorem dX10_award_151 : decode cX10_award 151 = .ok (.getfield 347, 3) := gX10_award_84.1
theorem dX10_award_154 : decode cX10_award 154 = .ok (.ireturn, 1) := gX10_award_84.2
theorem gX10_awarded_0 : (decode cX10_awarded 0 = .ok (.aload_n 0, 1)) ∧ (decode cX10_awarded 1 = .ok (.iload_n 1, 1)) ∧ (decode cX10_awarded 2 = .ok (.invokevirtual 170, 3)) ∧ (decode cX10_awarded 5 = .ok (.ifCond .ne 9, 3)) ∧ (decode cX10_awarded 8 = .ok (.aload_n 0, 1)) ∧ (decode cX10_awarded 9 = .ok (.iconst (-1), 1)) ∧ (decode cX10_awarded 10 = .ok (.invokevirtual 151, 3)) ∧ (decode cX10_awarded 13 = .ok (.ireturn, 1)) ∧ (decode cX10_awarded 14 = .ok (.aload_n 0, 1)) ∧ (decode cX10_awarded 15 = .ok (.getfield 356, 3)) ∧ (decode cX10_awarded 18 = .ok (.ifCond .eq 12, 3)) ∧ (decode cX10_awarded 21 = .ok (.aload_n 0, 1)) := by decide +kernel
theorem dX10_awarded_0 : decode cX10_awarded 0 = .ok (.aload_n 0, 1) := gX10_awarded_0.1
theorem dX10_awarded_1 : decode cX10_awarded 1 = .ok (.iload_n 1, 1) := gX10_awarded_0.2.1
theorem dX10_awarded_2 : decode cX10_awarded 2 = .ok (.invokevirtual 170, 3) := gX10_awarded_0.2.2.1
theorem dX10_awarded_5 : decode cX10_awarded 5 = .ok (.ifCond .ne 9, 3) := gX10_awarded_0.2.2.2.1
theorem dX10_awarded_8 : decode cX10_awarded 8 = .ok (.aload_n 0, 1) := gX10_awarded_0.2.2.2.2.1
theorem dX10_awarded_9 : decode cX10_awarded 9 = .ok (.iconst (-1), 1) := gX10_awarded_0.2.2.2.2.2.1
theorem dX10_awarded_10 : decode cX10_awarded 10 = .ok (.invokevirtual 151, 3) := gX10_awarded_0.2.2.2.2.2.2.1
theorem dX10_awarded_13 : decode cX10_awarded 13 = .ok (.ireturn, 1) := gX10_awarded_0.2.2.2.2.2.2.2.1
theorem dX10_awarded_14 : decode cX10_awarded 14 = .ok (.aload_n 0, 1) := gX10_awarded_0.2.2.2.2.2.2.2.2.1
theorem dX10_awarded_15 : decode cX10_awarded 15 = .ok (.getfield 356, 3) := gX10_awarded_0.2.2.2.2.2.2.2.2.2.1
theorem dX10_awarded_18 : decode cX10_awarded 18 = .ok (.ifCond .eq 12, 3) := gX10_awarded_0.2.2.2.2.2.2.2.2.2.2.1
theorem dX10_awarded_21 : decode cX10_awarded 21 = .ok (.aload_n 0, 1) := gX10_awarded_0.2.2.2.2.2.2.2.2.2.2.2
theorem gX10_awarded_12 : (decode cX10_awarded 22 = .ok (.getfield 103, 3)) ∧ (decode cX10_awarded 25 = .ok (.iload_n 1, 1)) ∧ (decode cX10_awarded 26 = .ok (.iaload, 1)) ∧ (decode cX10_awarded 27 = .ok (.goto 9, 3)) ∧ (decode cX10_awarded 30 = .ok (.aload_n 0, 1)) ∧ (decode cX10_awarded 31 = .ok (.bipush (-3), 2)) ∧ (decode cX10_awarded 33 = .ok (.invokevirtual 151, 3)) ∧ (decode cX10_awarded 36 = .ok (.ireturn, 1)) := by decide +kernel
theorem dX10_awarded_22 : decode cX10_awarded 22 = .ok (.getfield 103, 3) := gX10_awarded_12.1
theorem dX10_awarded_25 : decode cX10_awarded 25 = .ok (.iload_n 1, 1) := gX10_awarded_12.2.1
theorem dX10_awarded_26 : decode cX10_awarded 26 = .ok (.iaload, 1) := gX10_awarded_12.2.2.1
theorem dX10_awarded_27 : decode cX10_awarded 27 = .ok (.goto 9, 3) := gX10_awarded_12.2.2.2.1
theorem dX10_awarded_30 : decode cX10_awarded 30 = .ok (.aload_n 0, 1) := gX10_awarded_12.2.2.2.2.1
theorem dX10_awarded_31 : decode cX10_awarded 31 = .ok (.bipush (-3), 2) := gX10_awarded_12.2.2.2.2.2.1
theorem dX10_awarded_33 : decode cX10_awarded 33 = .ok (.invokevirtual 151, 3) := gX10_awarded_12.2.2.2.2.2.2.1
theorem dX10_awarded_36 : decode cX10_awarded 36 = .ok (.ireturn, 1) := gX10_awarded_12.2.2.2.2.2.2.2
theorem gX10_challenge_0 : (decode cX10_challenge 0 = .ok (.aload_n 0, 1)) ∧ (decode cX10_challenge 1 = .ok (.iload_n 1, 1)) ∧ (decode cX10_challenge 2 = .ok (.invokevirtual 170, 3)) ∧ (decode cX10_challenge 5 = .ok (.ifCond .ne 9, 3)) ∧ (decode cX10_challenge 8 = .ok (.aload_n 0, 1)) ∧ (decode cX10_challenge 9 = .ok (.iconst (-1), 1)) ∧ (decode cX10_challenge 10 = .ok (.invokevirtual 151, 3)) ∧ (decode cX10_challenge 13 = .ok (.ireturn, 1)) ∧ (decode cX10_challenge 14 = .ok (.iload_n 2, 1)) ∧ (decode cX10_challenge 15 = .ok (.iconst 0, 1)) ∧ (decode cX10_challenge 16 = .ok (.iconst 2, 1)) ∧ (decode cX10_challenge 17 = .ok (.invokestatic 144, 3)) := by decide +kernel
theorem dX10_challenge_0 : decode cX10_challenge 0 = .ok (.aload_n 0, 1) := gX10_challenge_0.1
theorem dX10_challenge_1 : decode cX10_challenge 1 = .ok (.iload_n 1, 1) := gX10_challenge_0.2.1
theorem dX10_challenge_2 : decode cX10_challenge 2 = .ok (.invokevirtual 170, 3) := gX10_challenge_0.2.2.1
theorem dX10_challenge_5 : decode cX10_challenge 5 = .ok (.ifCond .ne 9, 3) := gX10_challenge_0.2.2.2.1
theorem dX10_challenge_8 : decode cX10_challenge 8 = .ok (.aload_n 0, 1) := gX10_challenge_0.2.2.2.2.1
theorem dX10_challenge_9 : decode cX10_challenge 9 = .ok (.iconst (-1), 1) := gX10_challenge_0.2.2.2.2.2.1
theorem dX10_challenge_10 : decode cX10_challenge 10 = .ok (.invokevirtual 151, 3) := gX10_challenge_0.2.2.2.2.2.2.1
theorem dX10_challenge_13 : decode cX10_challenge 13 = .ok (.ireturn, 1) := gX10_challenge_0.2.2.2.2.2.2.2.1
theorem dX10_challenge_14 : decode cX10_challenge 14 = .ok (.iload_n 2, 1) := gX10_challenge_0.2.2.2.2.2.2.2.2.1
theorem dX10_challenge_15 : decode cX10_challenge 15 = .ok (.iconst 0, 1) := gX10_challenge_0.2.2.2.2.2.2.2.2.2.1
theorem dX10_challenge_16 : decode cX10_challenge 16 = .ok (.iconst 2, 1) := gX10_challenge_0.2.2.2.2.2.2.2.2.2.2.1
theorem dX10_challenge_17 : decode cX10_challenge 17 = .ok (.invokestatic 144, 3) := gX10_challenge_0.2.2.2.2.2.2.2.2.2.2.2
theorem gX10_challenge_12 : (decode cX10_challenge 20 = .ok (.ifCond .ne 10, 3)) ∧ (decode cX10_challenge 23 = .ok (.aload_n 0, 1)) ∧ (decode cX10_challenge 24 = .ok (.bipush (-2), 2)) ∧ (decode cX10_challenge 26 = .ok (.invokevirtual 151, 3)) ∧ (decode cX10_challenge 29 = .ok (.ireturn, 1)) ∧ (decode cX10_challenge 30 = .ok (.aload_n 0, 1)) ∧ (decode cX10_challenge 31 = .ok (.getfield 356, 3)) ∧ (decode cX10_challenge 34 = .ok (.ifCond .eq 21, 3)) ∧ (decode cX10_challenge 37 = .ok (.aload_n 0, 1)) ∧ (decode cX10_challenge 38 = .ok (.getfield 362, 3)) ∧ (decode cX10_challenge 41 = .ok (.ifCond .ne 14, 3)) ∧ (decode cX10_challenge 44 = .ok (.aload_n 0, 1)) := by decide +kernel
theorem dX10_challenge_20 : decode cX10_challenge 20 = .ok (.ifCond .ne 10, 3) := gX10_challenge_12.1
theorem dX10_challenge_23 : decode cX10_challenge 23 = .ok (.aload_n 0, 1) := gX10_challenge_12.2.1
theorem dX10_challenge_24 : decode cX10_challenge 24 = .ok (.bipush (-2), 2) := gX10_challenge_12.2.2.1
theorem dX10_challenge_26 : decode cX10_challenge 26 = .ok (.invokevirtual 151, 3) := gX10_challenge_12.2.2.2.1
theorem dX10_challenge_29 : decode cX10_challenge 29 = .ok (.ireturn, 1) := gX10_challenge_12.2.2.2.2.1
theorem dX10_challenge_30 : decode cX10_challenge 30 = .ok (.aload_n 0, 1) := gX10_challenge_12.2.2.2.2.2.1
theorem dX10_challenge_31 : decode cX10_challenge 31 = .ok (.getfield 356, 3) := gX10_challenge_12.2.2.2.2.2.2.1
theorem dX10_challenge_34 : decode cX10_challenge 34 = .ok (.ifCond .eq 21, 3) := gX10_challenge_12.2.2.2.2.2.2.2.1
theorem dX10_challenge_37 : decode cX10_challenge 37 = .ok (.aload_n 0, 1) := gX10_challenge_12.2.2.2.2.2.2.2.2.1
theorem dX10_challenge_38 : decode cX10_challenge 38 = .ok (.getfield 362, 3) := gX10_challenge_12.2.2.2.2.2.2.2.2.2.1
theorem dX10_challenge_41 : decode cX10_challenge 41 = .ok (.ifCond .ne 14, 3) := gX10_challenge_12.2.2.2.2.2.2.2.2.2.2.1
theorem dX10_challenge_44 : decode cX10_challenge 44 = .ok (.aload_n 0, 1) := gX10_challenge_12.2.2.2.2.2.2.2.2.2.2.2
theorem gX10_challenge_24 : (decode cX10_challenge 45 = .ok (.getfield 148, 3)) ∧ (decode cX10_challenge 48 = .ok (.aload_n 0, 1)) ∧ (decode cX10_challenge 49 = .ok (.getfield 359, 3)) ∧ (decode cX10_challenge 52 = .ok (.if_icmp .le 10, 3)) ∧ (decode cX10_challenge 55 = .ok (.aload_n 0, 1)) ∧ (decode cX10_challenge 56 = .ok (.bipush (-3), 2)) ∧ (decode cX10_challenge 58 = .ok (.invokevirtual 151, 3)) ∧ (decode cX10_challenge 61 = .ok (.ireturn, 1)) ∧ (decode cX10_challenge 62 = .ok (.aload_n 0, 1)) ∧ (decode cX10_challenge 63 = .ok (.getfield 365, 3)) ∧ (decode cX10_challenge 66 = .ok (.bipush 20, 2)) ∧ (decode cX10_challenge 68 = .ok (.if_icmp .ne 10, 3)) := by decide +kernel
theorem dX10_challenge_45 : decode cX10_challenge 45 = .ok (.getfield 148, 3) := gX10_challenge_24.1
theorem dX10_challenge_48 : decode cX10_challenge 48 = .ok (.aload_n 0, 1) := gX10_challenge_24.2.1
theorem dX10_challenge_49 : decode cX10_challenge 49 = .ok (.getfield 359, 3) := gX10_challenge_24.2.2.1
theorem dX10_challenge_52 : decode cX10_challenge 52 = .ok (.if_icmp .le 10, 3) := gX10_challenge_24.2.2.2.1
theorem dX10_challenge_55 : decode cX10_challenge 55 = .ok (.aload_n 0, 1) := gX10_challenge_24.2.2.2.2.1
theorem dX10_challenge_56 : decode cX10_challenge 56 = .ok (.bipush (-3), 2) := gX10_challenge_24.2.2.2.2.2.1
theorem dX10_challenge_58 : decode cX10_challenge 58 = .ok (.invokevirtual 151, 3) := gX10_challenge_24.2.2.2.2.2.2.1
theorem dX10_challenge_61 : decode cX10_challenge 61 = .ok (.ireturn, 1) := gX10_challenge_24.2.2.2.2.2.2.2.1
theorem dX10_challenge_62 : decode cX10_challenge 62 = .ok (.aload_n 0, 1) := gX10_challenge_24.2.2.2.2.2.2.2.2.1
theorem dX10_challenge_63 : decode cX10_challenge 63 = .ok (.getfield 365, 3) := gX10_challenge_24.2.2.2.2.2.2.2.2.2.1
theorem dX10_challenge_66 : decode cX10_challenge 66 = .ok (.bipush 20, 2) := gX10_challenge_24.2.2.2.2.2.2.2.2.2.2.1
theorem dX10_challenge_68 : decode cX10_challenge 68 = .ok (.if_icmp .ne 10, 3) := gX10_challenge_24.2.2.2.2.2.2.2.2.2.2.2
theorem gX10_challenge_36 : (decode cX10_challenge 71 = .ok (.aload_n 0, 1)) ∧ (decode cX10_challenge 72 = .ok (.bipush (-6), 2)) ∧ (decode cX10_challenge 74 = .ok (.invokevirtual 151, 3)) ∧ (decode cX10_challenge 77 = .ok (.ireturn, 1)) ∧ (decode cX10_challenge 78 = .ok (.aload_n 0, 1)) ∧ (decode cX10_challenge 79 = .ok (.getfield 112, 3)) ∧ (decode cX10_challenge 82 = .ok (.aload_n 0, 1)) ∧ (decode cX10_challenge 83 = .ok (.getfield 365, 3)) ∧ (decode cX10_challenge 86 = .ok (.iload_n 1, 1)) ∧ (decode cX10_challenge 87 = .ok (.iastore, 1)) ∧ (decode cX10_challenge 88 = .ok (.aload_n 0, 1)) ∧ (decode cX10_challenge 89 = .ok (.getfield 115, 3)) := by decide +kernel
theorem dX10_challenge_71 : decode cX10_challenge 71 = .ok (.aload_n 0, 1) := gX10_challenge_36.1
theorem dX10_challenge_72 : decode cX10_challenge 72 = .ok (.bipush (-6), 2) := gX10_challenge_36.2.1
theorem dX10_challenge_74 : decode cX10_challenge 74 = .ok (.invokevirtual 151, 3) := gX10_challenge_36.2.2.1
theorem dX10_challenge_77 : decode cX10_challenge 77 = .ok (.ireturn, 1) := gX10_challenge_36.2.2.2.1
theorem dX10_challenge_78 : decode cX10_challenge 78 = .ok (.aload_n 0, 1) := gX10_challenge_36.2.2.2.2.1
theorem dX10_challenge_79 : decode cX10_challenge 79 = .ok (.getfield 112, 3) := gX10_challenge_36.2.2.2.2.2.1
theorem dX10_challenge_82 : decode cX10_challenge 82 = .ok (.aload_n 0, 1) := gX10_challenge_36.2.2.2.2.2.2.1
theorem dX10_challenge_83 : decode cX10_challenge 83 = .ok (.getfield 365, 3) := gX10_challenge_36.2.2.2.2.2.2.2.1
theorem dX10_challenge_86 : decode cX10_challenge 86 = .ok (.iload_n 1, 1) := gX10_challenge_36.2.2.2.2.2.2.2.2.1
theorem dX10_challenge_87 : decode cX10_challenge 87 = .ok (.iastore, 1) := gX10_challenge_36.2.2.2.2.2.2.2.2.2.1
theorem dX10_challenge_88 : decode cX10_challenge 88 = .ok (.aload_n 0, 1) := gX10_challenge_36.2.2.2.2.2.2.2.2.2.2.1
theorem dX10_challenge_89 : decode cX10_challenge 89 = .ok (.getfield 115, 3) := gX10_challenge_36.2.2.2.2.2.2.2.2.2.2.2
theorem gX10_challenge_48 : (decode cX10_challenge 92 = .ok (.aload_n 0, 1)) ∧ (decode cX10_challenge 93 = .ok (.getfield 365, 3)) ∧ (decode cX10_challenge 96 = .ok (.iload_n 2, 1)) ∧ (decode cX10_challenge 97 = .ok (.iastore, 1)) ∧ (decode cX10_challenge 98 = .ok (.aload_n 0, 1)) ∧ (decode cX10_challenge 99 = .ok (.getfield 118, 3)) ∧ (decode cX10_challenge 102 = .ok (.aload_n 0, 1)) ∧ (decode cX10_challenge 103 = .ok (.getfield 365, 3)) ∧ (decode cX10_challenge 106 = .ok (.iconst 1, 1)) ∧ (decode cX10_challenge 107 = .ok (.bastore, 1)) ∧ (decode cX10_challenge 108 = .ok (.aload_n 0, 1)) ∧ (decode cX10_challenge 109 = .ok (.dup, 1)) := by decide +kernel
theorem dX10_challenge_92 : decode cX10_challenge 92 = .ok (.aload_n 0, 1) := gX10_challenge_48.1
theorem dX10_challenge_93 : decode cX10_challenge 93 = .ok (.getfield 365, 3) := gX10_challenge_48.2.1
theorem dX10_challenge_96 : decode cX10_challenge 96 = .ok (.iload_n 2, 1) := gX10_challenge_48.2.2.1
theorem dX10_challenge_97 : decode cX10_challenge 97 = .ok (.iastore, 1) := gX10_challenge_48.2.2.2.1
theorem dX10_challenge_98 : decode cX10_challenge 98 = .ok (.aload_n 0, 1) := gX10_challenge_48.2.2.2.2.1
theorem dX10_challenge_99 : decode cX10_challenge 99 = .ok (.getfield 118, 3) := gX10_challenge_48.2.2.2.2.2.1
theorem dX10_challenge_102 : decode cX10_challenge 102 = .ok (.aload_n 0, 1) := gX10_challenge_48.2.2.2.2.2.2.1
theorem dX10_challenge_103 : decode cX10_challenge 103 = .ok (.getfield 365, 3) := gX10_challenge_48.2.2.2.2.2.2.2.1
theorem dX10_challenge_106 : decode cX10_challenge 106 = .ok (.iconst 1, 1) := gX10_challenge_48.2.2.2.2.2.2.2.2.1
theorem dX10_challenge_107 : decode cX10_challenge 107 = .ok (.bastore, 1) := gX10_challenge_48.2.2.2.2.2.2.2.2.2.1
theorem dX10_challenge_108 : decode cX10_challenge 108 = .ok (.aload_n 0, 1) := gX10_challenge_48.2.2.2.2.2.2.2.2.2.2.1
theorem dX10_challenge_109 : decode cX10_challenge 109 = .ok (.dup, 1) := gX10_challenge_48.2.2.2.2.2.2.2.2.2.2.2
theorem gX10_challenge_60 : (decode cX10_challenge 110 = .ok (.getfield 365, 3)) ∧ (decode cX10_challenge 113 = .ok (.iconst 1, 1)) ∧ (decode cX10_challenge 114 = .ok (.iadd, 1)) ∧ (decode cX10_challenge 115 = .ok (.putfield 365, 3)) ∧ (decode cX10_challenge 118 = .ok (.aload_n 0, 1)) ∧ (decode cX10_challenge 119 = .ok (.getfield 365, 3)) ∧ (decode cX10_challenge 122 = .ok (.iconst 1, 1)) ∧ (decode cX10_challenge 123 = .ok (.isub, 1)) ∧ (decode cX10_challenge 124 = .ok (.ireturn, 1)) := by decide +kernel
theorem dX10_challenge_110 : decode cX10_challenge 110 = .ok (.getfield 365, 3) := gX10_challenge_60.1
theorem dX10_challenge_113 : decode cX10_challenge 113 = .ok (.iconst 1, 1) := gX10_challenge_60.2.1
theorem dX10_challenge_114 : decode cX10_challenge 114 = .ok (.iadd, 1) := gX10_challenge_60.2.2.1
theorem dX10_challenge_115 : decode cX10_challenge 115 = .ok (.putfield 365, 3) := gX10_challenge_60.2.2.2.1
theorem dX10_challenge_118 : decode cX10_challenge 118 = .ok (.aload_n 0, 1) := gX10_challenge_60.2.2.2.2.1
theorem dX10_challenge_119 : decode cX10_challenge 119 = .ok (.getfield 365, 3) := gX10_challenge_60.2.2.2.2.2.1
theorem dX10_challenge_122 : decode cX10_challenge 122 = .ok (.iconst 1, 1) := gX10_challenge_60.2.2.2.2.2.2.1
theorem dX10_challenge_123 : decode cX10_challenge 123 = .ok (.isub, 1) := gX10_challenge_60.2.2.2.2.2.2.2.1
theorem dX10_challenge_124 : decode cX10_challenge 124 = .ok (.ireturn, 1) := gX10_challenge_60.2.2.2.2.2.2.2.2
theorem gX10_undo_0 : (decode cX10_undo 0 = .ok (.aload_n 0, 1)) ∧ (decode cX10_undo 1 = .ok (.iconst 0, 1)) ∧ (decode cX10_undo 2 = .ok (.putfield 356, 3)) ∧ (decode cX10_undo 5 = .ok (.iconst 0, 1)) ∧ (decode cX10_undo 6 = .ok (.istore_n 3, 1)) ∧ (decode cX10_undo 7 = .ok (.iload_n 3, 1)) ∧ (decode cX10_undo 8 = .ok (.aload_n 0, 1)) ∧ (decode cX10_undo 9 = .ok (.getfield 365, 3)) ∧ (decode cX10_undo 12 = .ok (.if_icmp .ge 16, 3)) ∧ (decode cX10_undo 15 = .ok (.aload_n 0, 1)) ∧ (decode cX10_undo 16 = .ok (.getfield 118, 3)) ∧ (decode cX10_undo 19 = .ok (.iload_n 3, 1)) := by decide +kernel
theorem dX10_undo_0 : decode cX10_undo 0 = .ok (.aload_n 0, 1) := gX10_undo_0.1
theorem dX10_undo_1 : decode cX10_undo 1 = .ok (.iconst 0, 1) := gX10_undo_0.2.1
theorem dX10_undo_2 : decode cX10_undo 2 = .ok (.putfield 356, 3) := gX10_undo_0.2.2.1
theorem dX10_undo_5 : decode cX10_undo 5 = .ok (.iconst 0, 1) := gX10_undo_0.2.2.2.1
theorem dX10_undo_6 : decode cX10_undo 6 = .ok (.istore_n 3, 1) := gX10_undo_0.2.2.2.2.1
theorem dX10_undo_7 : decode cX10_undo 7 = .ok (.iload_n 3, 1) := gX10_undo_0.2.2.2.2.2.1
theorem dX10_undo_8 : decode cX10_undo 8 = .ok (.aload_n 0, 1) := gX10_undo_0.2.2.2.2.2.2.1
theorem dX10_undo_9 : decode cX10_undo 9 = .ok (.getfield 365, 3) := gX10_undo_0.2.2.2.2.2.2.2.1
theorem dX10_undo_12 : decode cX10_undo 12 = .ok (.if_icmp .ge 16, 3) := gX10_undo_0.2.2.2.2.2.2.2.2.1
theorem dX10_undo_15 : decode cX10_undo 15 = .ok (.aload_n 0, 1) := gX10_undo_0.2.2.2.2.2.2.2.2.2.1
theorem dX10_undo_16 : decode cX10_undo 16 = .ok (.getfield 118, 3) := gX10_undo_0.2.2.2.2.2.2.2.2.2.2.1
theorem dX10_undo_19 : decode cX10_undo 19 = .ok (.iload_n 3, 1) := gX10_undo_0.2.2.2.2.2.2.2.2.2.2.2
theorem gX10_undo_12 : (decode cX10_undo 20 = .ok (.iconst 0, 1)) ∧ (decode cX10_undo 21 = .ok (.bastore, 1)) ∧ (decode cX10_undo 22 = .ok (.iinc 3 1, 3)) ∧ (decode cX10_undo 25 = .ok (.goto (-18), 3)) ∧ (decode cX10_undo 28 = .ok (.iload_n 2, 1)) ∧ (decode cX10_undo 29 = .ok (.ifCond .ne 16, 3)) ∧ (decode cX10_undo 32 = .ok (.aload_n 0, 1)) ∧ (decode cX10_undo 33 = .ok (.getfield 57, 3)) ∧ (decode cX10_undo 36 = .ok (.iconst 0, 1)) ∧ (decode cX10_undo 37 = .ok (.bipush 113, 2)) ∧ (decode cX10_undo 39 = .ok (.iastore, 1)) ∧ (decode cX10_undo 40 = .ok (.aload_n 0, 1)) := by decide +kernel
theorem dX10_undo_20 : decode cX10_undo 20 = .ok (.iconst 0, 1) := gX10_undo_12.1
theorem dX10_undo_21 : decode cX10_undo 21 = .ok (.bastore, 1) := gX10_undo_12.2.1
theorem dX10_undo_22 : decode cX10_undo 22 = .ok (.iinc 3 1, 3) := gX10_undo_12.2.2.1
theorem dX10_undo_25 : decode cX10_undo 25 = .ok (.goto (-18), 3) := gX10_undo_12.2.2.2.1
theorem dX10_undo_28 : decode cX10_undo 28 = .ok (.iload_n 2, 1) := gX10_undo_12.2.2.2.2.1
theorem dX10_undo_29 : decode cX10_undo 29 = .ok (.ifCond .ne 16, 3) := gX10_undo_12.2.2.2.2.2.1
theorem dX10_undo_32 : decode cX10_undo 32 = .ok (.aload_n 0, 1) := gX10_undo_12.2.2.2.2.2.2.1
theorem dX10_undo_33 : decode cX10_undo 33 = .ok (.getfield 57, 3) := gX10_undo_12.2.2.2.2.2.2.2.1
theorem dX10_undo_36 : decode cX10_undo 36 = .ok (.iconst 0, 1) := gX10_undo_12.2.2.2.2.2.2.2.2.1
theorem dX10_undo_37 : decode cX10_undo 37 = .ok (.bipush 113, 2) := gX10_undo_12.2.2.2.2.2.2.2.2.2.1
theorem dX10_undo_39 : decode cX10_undo 39 = .ok (.iastore, 1) := gX10_undo_12.2.2.2.2.2.2.2.2.2.2.1
theorem dX10_undo_40 : decode cX10_undo 40 = .ok (.aload_n 0, 1) := gX10_undo_12.2.2.2.2.2.2.2.2.2.2.2
theorem gX10_undo_24 : (decode cX10_undo 41 = .ok (.iconst 1, 1)) ∧ (decode cX10_undo 42 = .ok (.putfield 139, 3)) ∧ (decode cX10_undo 45 = .ok (.iconst 0, 1)) ∧ (decode cX10_undo 46 = .ok (.istore_n 3, 1)) ∧ (decode cX10_undo 47 = .ok (.iload_n 3, 1)) ∧ (decode cX10_undo 48 = .ok (.bipush 8, 2)) ∧ (decode cX10_undo 50 = .ok (.if_icmp .ge 91, 3)) ∧ (decode cX10_undo 53 = .ok (.iload_n 2, 1)) ∧ (decode cX10_undo 54 = .ok (.ifCond .le 87, 3)) ∧ (decode cX10_undo 57 = .ok (.bipush 8, 2)) ∧ (decode cX10_undo 59 = .ok (.iload_n 1, 1)) ∧ (decode cX10_undo 60 = .ok (.imul, 1)) := by decide +kernel
theorem dX10_undo_41 : decode cX10_undo 41 = .ok (.iconst 1, 1) := gX10_undo_24.1
theorem dX10_undo_42 : decode cX10_undo 42 = .ok (.putfield 139, 3) := gX10_undo_24.2.1
theorem dX10_undo_45 : decode cX10_undo 45 = .ok (.iconst 0, 1) := gX10_undo_24.2.2.1
theorem dX10_undo_46 : decode cX10_undo 46 = .ok (.istore_n 3, 1) := gX10_undo_24.2.2.2.1
theorem dX10_undo_47 : decode cX10_undo 47 = .ok (.iload_n 3, 1) := gX10_undo_24.2.2.2.2.1
theorem dX10_undo_48 : decode cX10_undo 48 = .ok (.bipush 8, 2) := gX10_undo_24.2.2.2.2.2.1
theorem dX10_undo_50 : decode cX10_undo 50 = .ok (.if_icmp .ge 91, 3) := gX10_undo_24.2.2.2.2.2.2.1
theorem dX10_undo_53 : decode cX10_undo 53 = .ok (.iload_n 2, 1) := gX10_undo_24.2.2.2.2.2.2.2.1
theorem dX10_undo_54 : decode cX10_undo 54 = .ok (.ifCond .le 87, 3) := gX10_undo_24.2.2.2.2.2.2.2.2.1
theorem dX10_undo_57 : decode cX10_undo 57 = .ok (.bipush 8, 2) := gX10_undo_24.2.2.2.2.2.2.2.2.2.1
theorem dX10_undo_59 : decode cX10_undo 59 = .ok (.iload_n 1, 1) := gX10_undo_24.2.2.2.2.2.2.2.2.2.2.1
theorem dX10_undo_60 : decode cX10_undo 60 = .ok (.imul, 1) := gX10_undo_24.2.2.2.2.2.2.2.2.2.2.2
theorem gX10_undo_36 : (decode cX10_undo 61 = .ok (.iload_n 3, 1)) ∧ (decode cX10_undo 62 = .ok (.iadd, 1)) ∧ (decode cX10_undo 63 = .ok (.istore 4, 2)) ∧ (decode cX10_undo 65 = .ok (.iconst 0, 1)) ∧ (decode cX10_undo 66 = .ok (.istore 5, 2)) ∧ (decode cX10_undo 68 = .ok (.iload 5, 2)) ∧ (decode cX10_undo 70 = .ok (.bipush 6, 2)) ∧ (decode cX10_undo 72 = .ok (.if_icmp .ge 23, 3)) ∧ (decode cX10_undo 75 = .ok (.aload_n 0, 1)) ∧ (decode cX10_undo 76 = .ok (.getfield 45, 3)) ∧ (decode cX10_undo 79 = .ok (.bipush 48, 2)) ∧ (decode cX10_undo 81 = .ok (.iload 5, 2)) := by decide +kernel
theorem dX10_undo_61 : decode cX10_undo 61 = .ok (.iload_n 3, 1) := gX10_undo_36.1
theorem dX10_undo_62 : decode cX10_undo 62 = .ok (.iadd, 1) := gX10_undo_36.2.1
theorem dX10_undo_63 : decode cX10_undo 63 = .ok (.istore 4, 2) := gX10_undo_36.2.2.1
theorem dX10_undo_65 : decode cX10_undo 65 = .ok (.iconst 0, 1) := gX10_undo_36.2.2.2.1
theorem dX10_undo_66 : decode cX10_undo 66 = .ok (.istore 5, 2) := gX10_undo_36.2.2.2.2.1
theorem dX10_undo_68 : decode cX10_undo 68 = .ok (.iload 5, 2) := gX10_undo_36.2.2.2.2.2.1
theorem dX10_undo_70 : decode cX10_undo 70 = .ok (.bipush 6, 2) := gX10_undo_36.2.2.2.2.2.2.1
theorem dX10_undo_72 : decode cX10_undo 72 = .ok (.if_icmp .ge 23, 3) := gX10_undo_36.2.2.2.2.2.2.2.1
theorem dX10_undo_75 : decode cX10_undo 75 = .ok (.aload_n 0, 1) := gX10_undo_36.2.2.2.2.2.2.2.2.1
theorem dX10_undo_76 : decode cX10_undo 76 = .ok (.getfield 45, 3) := gX10_undo_36.2.2.2.2.2.2.2.2.2.1
theorem dX10_undo_79 : decode cX10_undo 79 = .ok (.bipush 48, 2) := gX10_undo_36.2.2.2.2.2.2.2.2.2.2.1
theorem dX10_undo_81 : decode cX10_undo 81 = .ok (.iload 5, 2) := gX10_undo_36.2.2.2.2.2.2.2.2.2.2.2
theorem gX10_undo_48 : (decode cX10_undo 83 = .ok (.imul, 1)) ∧ (decode cX10_undo 84 = .ok (.iload 4, 2)) ∧ (decode cX10_undo 86 = .ok (.iadd, 1)) ∧ (decode cX10_undo 87 = .ok (.iconst (-1), 1)) ∧ (decode cX10_undo 88 = .ok (.iastore, 1)) ∧ (decode cX10_undo 89 = .ok (.iinc 5 1, 3)) ∧ (decode cX10_undo 92 = .ok (.goto (-24), 3)) ∧ (decode cX10_undo 95 = .ok (.iload_n 2, 1)) ∧ (decode cX10_undo 96 = .ok (.iconst 2, 1)) ∧ (decode cX10_undo 97 = .ok (.if_icmp .ne 38, 3)) ∧ (decode cX10_undo 100 = .ok (.aload_n 0, 1)) ∧ (decode cX10_undo 101 = .ok (.getfield 36, 3)) := by decide +kernel
theorem dX10_undo_83 : decode cX10_undo 83 = .ok (.imul, 1) := gX10_undo_48.1
theorem dX10_undo_84 : decode cX10_undo 84 = .ok (.iload 4, 2) := gX10_undo_48.2.1
theorem dX10_undo_86 : decode cX10_undo 86 = .ok (.iadd, 1) := gX10_undo_48.2.2.1
theorem dX10_undo_87 : decode cX10_undo 87 = .ok (.iconst (-1), 1) := gX10_undo_48.2.2.2.1
theorem dX10_undo_88 : decode cX10_undo 88 = .ok (.iastore, 1) := gX10_undo_48.2.2.2.2.1
theorem dX10_undo_89 : decode cX10_undo 89 = .ok (.iinc 5 1, 3) := gX10_undo_48.2.2.2.2.2.1
theorem dX10_undo_92 : decode cX10_undo 92 = .ok (.goto (-24), 3) := gX10_undo_48.2.2.2.2.2.2.1
theorem dX10_undo_95 : decode cX10_undo 95 = .ok (.iload_n 2, 1) := gX10_undo_48.2.2.2.2.2.2.2.1
theorem dX10_undo_96 : decode cX10_undo 96 = .ok (.iconst 2, 1) := gX10_undo_48.2.2.2.2.2.2.2.2.1
theorem dX10_undo_97 : decode cX10_undo 97 = .ok (.if_icmp .ne 38, 3) := gX10_undo_48.2.2.2.2.2.2.2.2.2.1
theorem dX10_undo_100 : decode cX10_undo 100 = .ok (.aload_n 0, 1) := gX10_undo_48.2.2.2.2.2.2.2.2.2.2.1
theorem dX10_undo_101 : decode cX10_undo 101 = .ok (.getfield 36, 3) := gX10_undo_48.2.2.2.2.2.2.2.2.2.2.2
theorem gX10_undo_60 : (decode cX10_undo 104 = .ok (.iload 4, 2)) ∧ (decode cX10_undo 106 = .ok (.iconst 0, 1)) ∧ (decode cX10_undo 107 = .ok (.bastore, 1)) ∧ (decode cX10_undo 108 = .ok (.aload_n 0, 1)) ∧ (decode cX10_undo 109 = .ok (.getfield 39, 3)) ∧ (decode cX10_undo 112 = .ok (.iload 4, 2)) ∧ (decode cX10_undo 114 = .ok (.aload_n 0, 1)) ∧ (decode cX10_undo 115 = .ok (.iload 4, 2)) ∧ (decode cX10_undo 117 = .ok (.invokevirtual 194, 3)) ∧ (decode cX10_undo 120 = .ok (.ifCond .eq 7, 3)) ∧ (decode cX10_undo 123 = .ok (.iconst (-1), 1)) ∧ (decode cX10_undo 124 = .ok (.goto 10, 3)) := by decide +kernel
theorem dX10_undo_104 : decode cX10_undo 104 = .ok (.iload 4, 2) := gX10_undo_60.1
theorem dX10_undo_106 : decode cX10_undo 106 = .ok (.iconst 0, 1) := gX10_undo_60.2.1
theorem dX10_undo_107 : decode cX10_undo 107 = .ok (.bastore, 1) := gX10_undo_60.2.2.1
theorem dX10_undo_108 : decode cX10_undo 108 = .ok (.aload_n 0, 1) := gX10_undo_60.2.2.2.1
theorem dX10_undo_109 : decode cX10_undo 109 = .ok (.getfield 39, 3) := gX10_undo_60.2.2.2.2.1
theorem dX10_undo_112 : decode cX10_undo 112 = .ok (.iload 4, 2) := gX10_undo_60.2.2.2.2.2.1
theorem dX10_undo_114 : decode cX10_undo 114 = .ok (.aload_n 0, 1) := gX10_undo_60.2.2.2.2.2.2.1
theorem dX10_undo_115 : decode cX10_undo 115 = .ok (.iload 4, 2) := gX10_undo_60.2.2.2.2.2.2.2.1
theorem dX10_undo_117 : decode cX10_undo 117 = .ok (.invokevirtual 194, 3) := gX10_undo_60.2.2.2.2.2.2.2.2.1
theorem dX10_undo_120 : decode cX10_undo 120 = .ok (.ifCond .eq 7, 3) := gX10_undo_60.2.2.2.2.2.2.2.2.2.1
theorem dX10_undo_123 : decode cX10_undo 123 = .ok (.iconst (-1), 1) := gX10_undo_60.2.2.2.2.2.2.2.2.2.2.1
theorem dX10_undo_124 : decode cX10_undo 124 = .ok (.goto 10, 3) := gX10_undo_60.2.2.2.2.2.2.2.2.2.2.2
theorem gX10_undo_72 : (decode cX10_undo 127 = .ok (.aload_n 0, 1)) ∧ (decode cX10_undo 128 = .ok (.getfield 39, 3)) ∧ (decode cX10_undo 131 = .ok (.iload 4, 2)) ∧ (decode cX10_undo 133 = .ok (.iaload, 1)) ∧ (decode cX10_undo 134 = .ok (.iastore, 1)) ∧ (decode cX10_undo 135 = .ok (.iinc 3 1, 3)) ∧ (decode cX10_undo 138 = .ok (.goto (-91), 3)) ∧ (decode cX10_undo 141 = .ok (.aload_n 0, 1)) ∧ (decode cX10_undo 142 = .ok (.iconst 0, 1)) ∧ (decode cX10_undo 143 = .ok (.putfield 156, 3)) ∧ (decode cX10_undo 146 = .ok (.return_, 1)) := by decide +kernel
theorem dX10_undo_127 : decode cX10_undo 127 = .ok (.aload_n 0, 1) := gX10_undo_72.1
theorem dX10_undo_128 : decode cX10_undo 128 = .ok (.getfield 39, 3) := gX10_undo_72.2.1
theorem dX10_undo_131 : decode cX10_undo 131 = .ok (.iload 4, 2) := gX10_undo_72.2.2.1
theorem dX10_undo_133 : decode cX10_undo 133 = .ok (.iaload, 1) := gX10_undo_72.2.2.2.1
theorem dX10_undo_134 : decode cX10_undo 134 = .ok (.iastore, 1) := gX10_undo_72.2.2.2.2.1
theorem dX10_undo_135 : decode cX10_undo 135 = .ok (.iinc 3 1, 3) := gX10_undo_72.2.2.2.2.2.1
theorem dX10_undo_138 : decode cX10_undo 138 = .ok (.goto (-91), 3) := gX10_undo_72.2.2.2.2.2.2.1
theorem dX10_undo_141 : decode cX10_undo 141 = .ok (.aload_n 0, 1) := gX10_undo_72.2.2.2.2.2.2.2.1
theorem dX10_undo_142 : decode cX10_undo 142 = .ok (.iconst 0, 1) := gX10_undo_72.2.2.2.2.2.2.2.2.1
theorem dX10_undo_143 : decode cX10_undo 143 = .ok (.putfield 156, 3) := gX10_undo_72.2.2.2.2.2.2.2.2.2.1
theorem dX10_undo_146 : decode cX10_undo 146 = .ok (.return_, 1) := gX10_undo_72.2.2.2.2.2.2.2.2.2.2
theorem gX10_judge_0 : (decode cX10_judge 0 = .ok (.iload_n 1, 1)) ∧ (decode cX10_judge 1 = .ok (.iconst 0, 1)) ∧ (decode cX10_judge 2 = .ok (.aload_n 0, 1)) ∧ (decode cX10_judge 3 = .ok (.getfield 365, 3)) ∧ (decode cX10_judge 6 = .ok (.iconst 1, 1)) ∧ (decode cX10_judge 7 = .ok (.isub, 1)) ∧ (decode cX10_judge 8 = .ok (.invokestatic 144, 3)) ∧ (decode cX10_judge 11 = .ok (.ifCond .ne 9, 3)) ∧ (decode cX10_judge 14 = .ok (.aload_n 0, 1)) ∧ (decode cX10_judge 15 = .ok (.iconst (-1), 1)) ∧ (decode cX10_judge 16 = .ok (.invokevirtual 151, 3)) ∧ (decode cX10_judge 19 = .ok (.ireturn, 1)) := by decide +kernel
theorem dX10_judge_0 : decode cX10_judge 0 = .ok (.iload_n 1, 1) := gX10_judge_0.1
theorem dX10_judge_1 : decode cX10_judge 1 = .ok (.iconst 0, 1) := gX10_judge_0.2.1
theorem dX10_judge_2 : decode cX10_judge 2 = .ok (.aload_n 0, 1) := gX10_judge_0.2.2.1
theorem dX10_judge_3 : decode cX10_judge 3 = .ok (.getfield 365, 3) := gX10_judge_0.2.2.2.1
theorem dX10_judge_6 : decode cX10_judge 6 = .ok (.iconst 1, 1) := gX10_judge_0.2.2.2.2.1
theorem dX10_judge_7 : decode cX10_judge 7 = .ok (.isub, 1) := gX10_judge_0.2.2.2.2.2.1
theorem dX10_judge_8 : decode cX10_judge 8 = .ok (.invokestatic 144, 3) := gX10_judge_0.2.2.2.2.2.2.1
theorem dX10_judge_11 : decode cX10_judge 11 = .ok (.ifCond .ne 9, 3) := gX10_judge_0.2.2.2.2.2.2.2.1
theorem dX10_judge_14 : decode cX10_judge 14 = .ok (.aload_n 0, 1) := gX10_judge_0.2.2.2.2.2.2.2.2.1
theorem dX10_judge_15 : decode cX10_judge 15 = .ok (.iconst (-1), 1) := gX10_judge_0.2.2.2.2.2.2.2.2.2.1
theorem dX10_judge_16 : decode cX10_judge 16 = .ok (.invokevirtual 151, 3) := gX10_judge_0.2.2.2.2.2.2.2.2.2.2.1
theorem dX10_judge_19 : decode cX10_judge 19 = .ok (.ireturn, 1) := gX10_judge_0.2.2.2.2.2.2.2.2.2.2.2
theorem gX10_judge_12 : (decode cX10_judge 20 = .ok (.aload_n 0, 1)) ∧ (decode cX10_judge 21 = .ok (.getfield 118, 3)) ∧ (decode cX10_judge 24 = .ok (.iload_n 1, 1)) ∧ (decode cX10_judge 25 = .ok (.baload, 1)) ∧ (decode cX10_judge 26 = .ok (.ifCond .ne 10, 3)) ∧ (decode cX10_judge 29 = .ok (.aload_n 0, 1)) ∧ (decode cX10_judge 30 = .ok (.bipush (-3), 2)) ∧ (decode cX10_judge 32 = .ok (.invokevirtual 151, 3)) ∧ (decode cX10_judge 35 = .ok (.ireturn, 1)) ∧ (decode cX10_judge 36 = .ok (.aload_n 0, 1)) ∧ (decode cX10_judge 37 = .ok (.getfield 118, 3)) ∧ (decode cX10_judge 40 = .ok (.iload_n 1, 1)) := by decide +kernel
theorem dX10_judge_20 : decode cX10_judge 20 = .ok (.aload_n 0, 1) := gX10_judge_12.1
theorem dX10_judge_21 : decode cX10_judge 21 = .ok (.getfield 118, 3) := gX10_judge_12.2.1
theorem dX10_judge_24 : decode cX10_judge 24 = .ok (.iload_n 1, 1) := gX10_judge_12.2.2.1
theorem dX10_judge_25 : decode cX10_judge 25 = .ok (.baload, 1) := gX10_judge_12.2.2.2.1
theorem dX10_judge_26 : decode cX10_judge 26 = .ok (.ifCond .ne 10, 3) := gX10_judge_12.2.2.2.2.1
theorem dX10_judge_29 : decode cX10_judge 29 = .ok (.aload_n 0, 1) := gX10_judge_12.2.2.2.2.2.1
theorem dX10_judge_30 : decode cX10_judge 30 = .ok (.bipush (-3), 2) := gX10_judge_12.2.2.2.2.2.2.1
theorem dX10_judge_32 : decode cX10_judge 32 = .ok (.invokevirtual 151, 3) := gX10_judge_12.2.2.2.2.2.2.2.1
theorem dX10_judge_35 : decode cX10_judge 35 = .ok (.ireturn, 1) := gX10_judge_12.2.2.2.2.2.2.2.2.1
theorem dX10_judge_36 : decode cX10_judge 36 = .ok (.aload_n 0, 1) := gX10_judge_12.2.2.2.2.2.2.2.2.2.1
theorem dX10_judge_37 : decode cX10_judge 37 = .ok (.getfield 118, 3) := gX10_judge_12.2.2.2.2.2.2.2.2.2.2.1
theorem dX10_judge_40 : decode cX10_judge 40 = .ok (.iload_n 1, 1) := gX10_judge_12.2.2.2.2.2.2.2.2.2.2.2
theorem gX10_judge_24 : (decode cX10_judge 41 = .ok (.iconst 0, 1)) ∧ (decode cX10_judge 42 = .ok (.bastore, 1)) ∧ (decode cX10_judge 43 = .ok (.iload_n 2, 1)) ∧ (decode cX10_judge 44 = .ok (.ifCond .eq 19, 3)) ∧ (decode cX10_judge 47 = .ok (.aload_n 0, 1)) ∧ (decode cX10_judge 48 = .ok (.aload_n 0, 1)) ∧ (decode cX10_judge 49 = .ok (.getfield 112, 3)) ∧ (decode cX10_judge 52 = .ok (.iload_n 1, 1)) ∧ (decode cX10_judge 53 = .ok (.iaload, 1)) ∧ (decode cX10_judge 54 = .ok (.aload_n 0, 1)) ∧ (decode cX10_judge 55 = .ok (.getfield 115, 3)) ∧ (decode cX10_judge 58 = .ok (.iload_n 1, 1)) := by decide +kernel
theorem dX10_judge_41 : decode cX10_judge 41 = .ok (.iconst 0, 1) := gX10_judge_24.1
theorem dX10_judge_42 : decode cX10_judge 42 = .ok (.bastore, 1) := gX10_judge_24.2.1
theorem dX10_judge_43 : decode cX10_judge 43 = .ok (.iload_n 2, 1) := gX10_judge_24.2.2.1
theorem dX10_judge_44 : decode cX10_judge 44 = .ok (.ifCond .eq 19, 3) := gX10_judge_24.2.2.2.1
theorem dX10_judge_47 : decode cX10_judge 47 = .ok (.aload_n 0, 1) := gX10_judge_24.2.2.2.2.1
theorem dX10_judge_48 : decode cX10_judge 48 = .ok (.aload_n 0, 1) := gX10_judge_24.2.2.2.2.2.1
theorem dX10_judge_49 : decode cX10_judge 49 = .ok (.getfield 112, 3) := gX10_judge_24.2.2.2.2.2.2.1
theorem dX10_judge_52 : decode cX10_judge 52 = .ok (.iload_n 1, 1) := gX10_judge_24.2.2.2.2.2.2.2.1
theorem dX10_judge_53 : decode cX10_judge 53 = .ok (.iaload, 1) := gX10_judge_24.2.2.2.2.2.2.2.2.1
theorem dX10_judge_54 : decode cX10_judge 54 = .ok (.aload_n 0, 1) := gX10_judge_24.2.2.2.2.2.2.2.2.2.1
theorem dX10_judge_55 : decode cX10_judge 55 = .ok (.getfield 115, 3) := gX10_judge_24.2.2.2.2.2.2.2.2.2.2.1
theorem dX10_judge_58 : decode cX10_judge 58 = .ok (.iload_n 1, 1) := gX10_judge_24.2.2.2.2.2.2.2.2.2.2.2
theorem gX10_judge_36 : (decode cX10_judge 59 = .ok (.iaload, 1)) ∧ (decode cX10_judge 60 = .ok (.invokevirtual 368, 3)) ∧ (decode cX10_judge 63 = .ok (.iconst 1, 1)) ∧ (decode cX10_judge 64 = .ok (.ireturn, 1)) := by decide +kernel
theorem dX10_judge_59 : decode cX10_judge 59 = .ok (.iaload, 1) := gX10_judge_36.1
theorem dX10_judge_60 : decode cX10_judge 60 = .ok (.invokevirtual 368, 3) := gX10_judge_36.2.1
theorem dX10_judge_63 : decode cX10_judge 63 = .ok (.iconst 1, 1) := gX10_judge_36.2.2.1
theorem dX10_judge_64 : decode cX10_judge 64 = .ok (.ireturn, 1) := gX10_judge_36.2.2.2
theorem gX10_holding_0 : (decode cX10_holding 0 = .ok (.iconst 0, 1)) ∧ (decode cX10_holding 1 = .ok (.istore_n 1, 1)) ∧ (decode cX10_holding 2 = .ok (.iconst 0, 1)) ∧ (decode cX10_holding 3 = .ok (.istore_n 2, 1)) ∧ (decode cX10_holding 4 = .ok (.iload_n 2, 1)) ∧ (decode cX10_holding 5 = .ok (.aload_n 0, 1)) ∧ (decode cX10_holding 6 = .ok (.getfield 365, 3)) ∧ (decode cX10_holding 9 = .ok (.if_icmp .ge 26, 3)) ∧ (decode cX10_holding 12 = .ok (.iload_n 1, 1)) ∧ (decode cX10_holding 13 = .ok (.aload_n 0, 1)) ∧ (decode cX10_holding 14 = .ok (.getfield 118, 3)) ∧ (decode cX10_holding 17 = .ok (.iload_n 2, 1)) := by decide +kernel
theorem dX10_holding_0 : decode cX10_holding 0 = .ok (.iconst 0, 1) := gX10_holding_0.1
theorem dX10_holding_1 : decode cX10_holding 1 = .ok (.istore_n 1, 1) := gX10_holding_0.2.1
theorem dX10_holding_2 : decode cX10_holding 2 = .ok (.iconst 0, 1) := gX10_holding_0.2.2.1
theorem dX10_holding_3 : decode cX10_holding 3 = .ok (.istore_n 2, 1) := gX10_holding_0.2.2.2.1
theorem dX10_holding_4 : decode cX10_holding 4 = .ok (.iload_n 2, 1) := gX10_holding_0.2.2.2.2.1
theorem dX10_holding_5 : decode cX10_holding 5 = .ok (.aload_n 0, 1) := gX10_holding_0.2.2.2.2.2.1
theorem dX10_holding_6 : decode cX10_holding 6 = .ok (.getfield 365, 3) := gX10_holding_0.2.2.2.2.2.2.1
theorem dX10_holding_9 : decode cX10_holding 9 = .ok (.if_icmp .ge 26, 3) := gX10_holding_0.2.2.2.2.2.2.2.1
theorem dX10_holding_12 : decode cX10_holding 12 = .ok (.iload_n 1, 1) := gX10_holding_0.2.2.2.2.2.2.2.2.1
theorem dX10_holding_13 : decode cX10_holding 13 = .ok (.aload_n 0, 1) := gX10_holding_0.2.2.2.2.2.2.2.2.2.1
theorem dX10_holding_14 : decode cX10_holding 14 = .ok (.getfield 118, 3) := gX10_holding_0.2.2.2.2.2.2.2.2.2.2.1
theorem dX10_holding_17 : decode cX10_holding 17 = .ok (.iload_n 2, 1) := gX10_holding_0.2.2.2.2.2.2.2.2.2.2.2
theorem gX10_holding_12 : (decode cX10_holding 18 = .ok (.baload, 1)) ∧ (decode cX10_holding 19 = .ok (.ifCond .eq 7, 3)) ∧ (decode cX10_holding 22 = .ok (.iconst 1, 1)) ∧ (decode cX10_holding 23 = .ok (.goto 4, 3)) ∧ (decode cX10_holding 26 = .ok (.iconst 0, 1)) ∧ (decode cX10_holding 27 = .ok (.iadd, 1)) ∧ (decode cX10_holding 28 = .ok (.istore_n 1, 1)) ∧ (decode cX10_holding 29 = .ok (.iinc 2 1, 3)) ∧ (decode cX10_holding 32 = .ok (.goto (-28), 3)) ∧ (decode cX10_holding 35 = .ok (.iload_n 1, 1)) ∧ (decode cX10_holding 36 = .ok (.ireturn, 1)) := by decide +kernel
theorem dX10_holding_18 : decode cX10_holding 18 = .ok (.baload, 1) := gX10_holding_12.1
theorem dX10_holding_19 : decode cX10_holding 19 = .ok (.ifCond .eq 7, 3) := gX10_holding_12.2.1
theorem dX10_holding_22 : decode cX10_holding 22 = .ok (.iconst 1, 1) := gX10_holding_12.2.2.1
theorem dX10_holding_23 : decode cX10_holding 23 = .ok (.goto 4, 3) := gX10_holding_12.2.2.2.1
theorem dX10_holding_26 : decode cX10_holding 26 = .ok (.iconst 0, 1) := gX10_holding_12.2.2.2.2.1
theorem dX10_holding_27 : decode cX10_holding 27 = .ok (.iadd, 1) := gX10_holding_12.2.2.2.2.2.1
theorem dX10_holding_28 : decode cX10_holding 28 = .ok (.istore_n 1, 1) := gX10_holding_12.2.2.2.2.2.2.1
theorem dX10_holding_29 : decode cX10_holding 29 = .ok (.iinc 2 1, 3) := gX10_holding_12.2.2.2.2.2.2.2.1
theorem dX10_holding_32 : decode cX10_holding 32 = .ok (.goto (-28), 3) := gX10_holding_12.2.2.2.2.2.2.2.2.1
theorem dX10_holding_35 : decode cX10_holding 35 = .ok (.iload_n 1, 1) := gX10_holding_12.2.2.2.2.2.2.2.2.2.1
theorem dX10_holding_36 : decode cX10_holding 36 = .ok (.ireturn, 1) := gX10_holding_12.2.2.2.2.2.2.2.2.2.2
theorem gX10_sign_0 : (decode cX10_sign 0 = .ok (.aload_n 0, 1)) ∧ (decode cX10_sign 1 = .ok (.getfield 356, 3)) ∧ (decode cX10_sign 4 = .ok (.ifCond .eq 28, 3)) ∧ (decode cX10_sign 7 = .ok (.aload_n 0, 1)) ∧ (decode cX10_sign 8 = .ok (.getfield 362, 3)) ∧ (decode cX10_sign 11 = .ok (.ifCond .ne 21, 3)) ∧ (decode cX10_sign 14 = .ok (.aload_n 0, 1)) ∧ (decode cX10_sign 15 = .ok (.getfield 148, 3)) ∧ (decode cX10_sign 18 = .ok (.aload_n 0, 1)) ∧ (decode cX10_sign 19 = .ok (.getfield 359, 3)) ∧ (decode cX10_sign 22 = .ok (.if_icmp .le 10, 3)) ∧ (decode cX10_sign 25 = .ok (.aload_n 0, 1)) := by decide +kernel
theorem dX10_sign_0 : decode cX10_sign 0 = .ok (.aload_n 0, 1) := gX10_sign_0.1
theorem dX10_sign_1 : decode cX10_sign 1 = .ok (.getfield 356, 3) := gX10_sign_0.2.1
theorem dX10_sign_4 : decode cX10_sign 4 = .ok (.ifCond .eq 28, 3) := gX10_sign_0.2.2.1
theorem dX10_sign_7 : decode cX10_sign 7 = .ok (.aload_n 0, 1) := gX10_sign_0.2.2.2.1
theorem dX10_sign_8 : decode cX10_sign 8 = .ok (.getfield 362, 3) := gX10_sign_0.2.2.2.2.1
theorem dX10_sign_11 : decode cX10_sign 11 = .ok (.ifCond .ne 21, 3) := gX10_sign_0.2.2.2.2.2.1
theorem dX10_sign_14 : decode cX10_sign 14 = .ok (.aload_n 0, 1) := gX10_sign_0.2.2.2.2.2.2.1
theorem dX10_sign_15 : decode cX10_sign 15 = .ok (.getfield 148, 3) := gX10_sign_0.2.2.2.2.2.2.2.1
theorem dX10_sign_18 : decode cX10_sign 18 = .ok (.aload_n 0, 1) := gX10_sign_0.2.2.2.2.2.2.2.2.1
theorem dX10_sign_19 : decode cX10_sign 19 = .ok (.getfield 359, 3) := gX10_sign_0.2.2.2.2.2.2.2.2.2.1
theorem dX10_sign_22 : decode cX10_sign 22 = .ok (.if_icmp .le 10, 3) := gX10_sign_0.2.2.2.2.2.2.2.2.2.2.1
theorem dX10_sign_25 : decode cX10_sign 25 = .ok (.aload_n 0, 1) := gX10_sign_0.2.2.2.2.2.2.2.2.2.2.2
theorem gX10_sign_12 : (decode cX10_sign 26 = .ok (.invokevirtual 371, 3)) ∧ (decode cX10_sign 29 = .ok (.ifCond .le 10, 3)) ∧ (decode cX10_sign 32 = .ok (.aload_n 0, 1)) ∧ (decode cX10_sign 33 = .ok (.bipush (-3), 2)) ∧ (decode cX10_sign 35 = .ok (.invokevirtual 151, 3)) ∧ (decode cX10_sign 38 = .ok (.ireturn, 1)) ∧ (decode cX10_sign 39 = .ok (.aload_n 0, 1)) ∧ (decode cX10_sign 40 = .ok (.iconst 1, 1)) ∧ (decode cX10_sign 41 = .ok (.putfield 362, 3)) ∧ (decode cX10_sign 44 = .ok (.iconst 1, 1)) ∧ (decode cX10_sign 45 = .ok (.ireturn, 1)) := by decide +kernel
theorem dX10_sign_26 : decode cX10_sign 26 = .ok (.invokevirtual 371, 3) := gX10_sign_12.1
theorem dX10_sign_29 : decode cX10_sign 29 = .ok (.ifCond .le 10, 3) := gX10_sign_12.2.1
theorem dX10_sign_32 : decode cX10_sign 32 = .ok (.aload_n 0, 1) := gX10_sign_12.2.2.1
theorem dX10_sign_33 : decode cX10_sign 33 = .ok (.bipush (-3), 2) := gX10_sign_12.2.2.2.1
theorem dX10_sign_35 : decode cX10_sign 35 = .ok (.invokevirtual 151, 3) := gX10_sign_12.2.2.2.2.1
theorem dX10_sign_38 : decode cX10_sign 38 = .ok (.ireturn, 1) := gX10_sign_12.2.2.2.2.2.1
theorem dX10_sign_39 : decode cX10_sign 39 = .ok (.aload_n 0, 1) := gX10_sign_12.2.2.2.2.2.2.1
theorem dX10_sign_40 : decode cX10_sign 40 = .ok (.iconst 1, 1) := gX10_sign_12.2.2.2.2.2.2.2.1
theorem dX10_sign_41 : decode cX10_sign 41 = .ok (.putfield 362, 3) := gX10_sign_12.2.2.2.2.2.2.2.2.1
theorem dX10_sign_44 : decode cX10_sign 44 = .ok (.iconst 1, 1) := gX10_sign_12.2.2.2.2.2.2.2.2.2.1
theorem dX10_sign_45 : decode cX10_sign 45 = .ok (.ireturn, 1) := gX10_sign_12.2.2.2.2.2.2.2.2.2.2
theorem gX10_change_0 : (decode cX10_change 0 = .ok (.aload_n 0, 1)) ∧ (decode cX10_change 1 = .ok (.iload_n 1, 1)) ∧ (decode cX10_change 2 = .ok (.invokevirtual 170, 3)) ∧ (decode cX10_change 5 = .ok (.ifCond .ne 9, 3)) ∧ (decode cX10_change 8 = .ok (.aload_n 0, 1)) ∧ (decode cX10_change 9 = .ok (.iconst (-1), 1)) ∧ (decode cX10_change 10 = .ok (.invokevirtual 151, 3)) ∧ (decode cX10_change 13 = .ok (.ireturn, 1)) ∧ (decode cX10_change 14 = .ok (.aload_n 0, 1)) ∧ (decode cX10_change 15 = .ok (.getfield 362, 3)) ∧ (decode cX10_change 18 = .ok (.ifCond .eq 12, 3)) ∧ (decode cX10_change 21 = .ok (.aload_n 0, 1)) := by decide +kernel
theorem dX10_change_0 : decode cX10_change 0 = .ok (.aload_n 0, 1) := gX10_change_0.1
theorem dX10_change_1 : decode cX10_change 1 = .ok (.iload_n 1, 1) := gX10_change_0.2.1
theorem dX10_change_2 : decode cX10_change 2 = .ok (.invokevirtual 170, 3) := gX10_change_0.2.2.1
theorem dX10_change_5 : decode cX10_change 5 = .ok (.ifCond .ne 9, 3) := gX10_change_0.2.2.2.1
theorem dX10_change_8 : decode cX10_change 8 = .ok (.aload_n 0, 1) := gX10_change_0.2.2.2.2.1
theorem dX10_change_9 : decode cX10_change 9 = .ok (.iconst (-1), 1) := gX10_change_0.2.2.2.2.2.1
theorem dX10_change_10 : decode cX10_change 10 = .ok (.invokevirtual 151, 3) := gX10_change_0.2.2.2.2.2.2.1
theorem dX10_change_13 : decode cX10_change 13 = .ok (.ireturn, 1) := gX10_change_0.2.2.2.2.2.2.2.1
theorem dX10_change_14 : decode cX10_change 14 = .ok (.aload_n 0, 1) := gX10_change_0.2.2.2.2.2.2.2.2.1
theorem dX10_change_15 : decode cX10_change 15 = .ok (.getfield 362, 3) := gX10_change_0.2.2.2.2.2.2.2.2.2.1
theorem dX10_change_18 : decode cX10_change 18 = .ok (.ifCond .eq 12, 3) := gX10_change_0.2.2.2.2.2.2.2.2.2.2.1
theorem dX10_change_21 : decode cX10_change 21 = .ok (.aload_n 0, 1) := gX10_change_0.2.2.2.2.2.2.2.2.2.2.2
theorem gX10_change_12 : (decode cX10_change 22 = .ok (.getfield 103, 3)) ∧ (decode cX10_change 25 = .ok (.iload_n 1, 1)) ∧ (decode cX10_change 26 = .ok (.iaload, 1)) ∧ (decode cX10_change 27 = .ok (.ifCond .ge 10, 3)) ∧ (decode cX10_change 30 = .ok (.aload_n 0, 1)) ∧ (decode cX10_change 31 = .ok (.bipush (-3), 2)) ∧ (decode cX10_change 33 = .ok (.invokevirtual 151, 3)) ∧ (decode cX10_change 36 = .ok (.ireturn, 1)) ∧ (decode cX10_change 37 = .ok (.iload_n 2, 1)) ∧ (decode cX10_change 38 = .ok (.iconst 1, 1)) ∧ (decode cX10_change 39 = .ok (.if_icmp .ge 10, 3)) ∧ (decode cX10_change 42 = .ok (.aload_n 0, 1)) := by decide +kernel
theorem dX10_change_22 : decode cX10_change 22 = .ok (.getfield 103, 3) := gX10_change_12.1
theorem dX10_change_25 : decode cX10_change 25 = .ok (.iload_n 1, 1) := gX10_change_12.2.1
theorem dX10_change_26 : decode cX10_change 26 = .ok (.iaload, 1) := gX10_change_12.2.2.1
theorem dX10_change_27 : decode cX10_change 27 = .ok (.ifCond .ge 10, 3) := gX10_change_12.2.2.2.1
theorem dX10_change_30 : decode cX10_change 30 = .ok (.aload_n 0, 1) := gX10_change_12.2.2.2.2.1
theorem dX10_change_31 : decode cX10_change 31 = .ok (.bipush (-3), 2) := gX10_change_12.2.2.2.2.2.1
theorem dX10_change_33 : decode cX10_change 33 = .ok (.invokevirtual 151, 3) := gX10_change_12.2.2.2.2.2.2.1
theorem dX10_change_36 : decode cX10_change 36 = .ok (.ireturn, 1) := gX10_change_12.2.2.2.2.2.2.2.1
theorem dX10_change_37 : decode cX10_change 37 = .ok (.iload_n 2, 1) := gX10_change_12.2.2.2.2.2.2.2.2.1
theorem dX10_change_38 : decode cX10_change 38 = .ok (.iconst 1, 1) := gX10_change_12.2.2.2.2.2.2.2.2.2.1
theorem dX10_change_39 : decode cX10_change 39 = .ok (.if_icmp .ge 10, 3) := gX10_change_12.2.2.2.2.2.2.2.2.2.2.1
theorem dX10_change_42 : decode cX10_change 42 = .ok (.aload_n 0, 1) := gX10_change_12.2.2.2.2.2.2.2.2.2.2.2
theorem gX10_change_24 : (decode cX10_change 43 = .ok (.bipush (-4), 2)) ∧ (decode cX10_change 45 = .ok (.invokevirtual 151, 3)) ∧ (decode cX10_change 48 = .ok (.ireturn, 1)) ∧ (decode cX10_change 49 = .ok (.iload_n 2, 1)) ∧ (decode cX10_change 50 = .ok (.ldc 155, 2)) ∧ (decode cX10_change 52 = .ok (.if_icmp .le 10, 3)) ∧ (decode cX10_change 55 = .ok (.aload_n 0, 1)) ∧ (decode cX10_change 56 = .ok (.bipush (-6), 2)) ∧ (decode cX10_change 58 = .ok (.invokevirtual 151, 3)) ∧ (decode cX10_change 61 = .ok (.ireturn, 1)) ∧ (decode cX10_change 62 = .ok (.ldc2_w 187, 3)) ∧ (decode cX10_change 65 = .ok (.aload_n 0, 1)) := by decide +kernel
theorem dX10_change_43 : decode cX10_change 43 = .ok (.bipush (-4), 2) := gX10_change_24.1
theorem dX10_change_45 : decode cX10_change 45 = .ok (.invokevirtual 151, 3) := gX10_change_24.2.1
theorem dX10_change_48 : decode cX10_change 48 = .ok (.ireturn, 1) := gX10_change_24.2.2.1
theorem dX10_change_49 : decode cX10_change 49 = .ok (.iload_n 2, 1) := gX10_change_24.2.2.2.1
theorem dX10_change_50 : decode cX10_change 50 = .ok (.ldc 155, 2) := gX10_change_24.2.2.2.2.1
theorem dX10_change_52 : decode cX10_change 52 = .ok (.if_icmp .le 10, 3) := gX10_change_24.2.2.2.2.2.1
theorem dX10_change_55 : decode cX10_change 55 = .ok (.aload_n 0, 1) := gX10_change_24.2.2.2.2.2.2.1
theorem dX10_change_56 : decode cX10_change 56 = .ok (.bipush (-6), 2) := gX10_change_24.2.2.2.2.2.2.2.1
theorem dX10_change_58 : decode cX10_change 58 = .ok (.invokevirtual 151, 3) := gX10_change_24.2.2.2.2.2.2.2.2.1
theorem dX10_change_61 : decode cX10_change 61 = .ok (.ireturn, 1) := gX10_change_24.2.2.2.2.2.2.2.2.2.1
theorem dX10_change_62 : decode cX10_change 62 = .ok (.ldc2_w 187, 3) := gX10_change_24.2.2.2.2.2.2.2.2.2.2.1
theorem dX10_change_65 : decode cX10_change 65 = .ok (.aload_n 0, 1) := gX10_change_24.2.2.2.2.2.2.2.2.2.2.2
theorem gX10_change_36 : (decode cX10_change 66 = .ok (.getfield 109, 3)) ∧ (decode cX10_change 69 = .ok (.iload_n 1, 1)) ∧ (decode cX10_change 70 = .ok (.iaload, 1)) ∧ (decode cX10_change 71 = .ok (.iload_n 2, 1)) ∧ (decode cX10_change 72 = .ok (.iadd, 1)) ∧ (decode cX10_change 73 = .ok (.i2l, 1)) ∧ (decode cX10_change 74 = .ok (.lmul, 1)) ∧ (decode cX10_change 75 = .ok (.aload_n 0, 1)) ∧ (decode cX10_change 76 = .ok (.getfield 42, 3)) ∧ (decode cX10_change 79 = .ok (.iconst 3, 1)) ∧ (decode cX10_change 80 = .ok (.iaload, 1)) ∧ (decode cX10_change 81 = .ok (.i2l, 1)) := by decide +kernel
theorem dX10_change_66 : decode cX10_change 66 = .ok (.getfield 109, 3) := gX10_change_36.1
theorem dX10_change_69 : decode cX10_change 69 = .ok (.iload_n 1, 1) := gX10_change_36.2.1
theorem dX10_change_70 : decode cX10_change 70 = .ok (.iaload, 1) := gX10_change_36.2.2.1
theorem dX10_change_71 : decode cX10_change 71 = .ok (.iload_n 2, 1) := gX10_change_36.2.2.2.1
theorem dX10_change_72 : decode cX10_change 72 = .ok (.iadd, 1) := gX10_change_36.2.2.2.2.1
theorem dX10_change_73 : decode cX10_change 73 = .ok (.i2l, 1) := gX10_change_36.2.2.2.2.2.1
theorem dX10_change_74 : decode cX10_change 74 = .ok (.lmul, 1) := gX10_change_36.2.2.2.2.2.2.1
theorem dX10_change_75 : decode cX10_change 75 = .ok (.aload_n 0, 1) := gX10_change_36.2.2.2.2.2.2.2.1
theorem dX10_change_76 : decode cX10_change 76 = .ok (.getfield 42, 3) := gX10_change_36.2.2.2.2.2.2.2.2.1
theorem dX10_change_79 : decode cX10_change 79 = .ok (.iconst 3, 1) := gX10_change_36.2.2.2.2.2.2.2.2.2.1
theorem dX10_change_80 : decode cX10_change 80 = .ok (.iaload, 1) := gX10_change_36.2.2.2.2.2.2.2.2.2.2.1
theorem dX10_change_81 : decode cX10_change 81 = .ok (.i2l, 1) := gX10_change_36.2.2.2.2.2.2.2.2.2.2.2
theorem gX10_change_48 : (decode cX10_change 82 = .ok (.aload_n 0, 1)) ∧ (decode cX10_change 83 = .ok (.getfield 106, 3)) ∧ (decode cX10_change 86 = .ok (.iload_n 1, 1)) ∧ (decode cX10_change 87 = .ok (.iaload, 1)) ∧ (decode cX10_change 88 = .ok (.i2l, 1)) ∧ (decode cX10_change 89 = .ok (.lmul, 1)) ∧ (decode cX10_change 90 = .ok (.lcmp, 1)) ∧ (decode cX10_change 91 = .ok (.ifCond .le 6, 3)) ∧ (decode cX10_change 94 = .ok (.bipush (-9), 2)) ∧ (decode cX10_change 96 = .ok (.ireturn, 1)) ∧ (decode cX10_change 97 = .ok (.aload_n 0, 1)) ∧ (decode cX10_change 98 = .ok (.getfield 109, 3)) := by decide +kernel
theorem dX10_change_82 : decode cX10_change 82 = .ok (.aload_n 0, 1) := gX10_change_48.1
theorem dX10_change_83 : decode cX10_change 83 = .ok (.getfield 106, 3) := gX10_change_48.2.1
theorem dX10_change_86 : decode cX10_change 86 = .ok (.iload_n 1, 1) := gX10_change_48.2.2.1
theorem dX10_change_87 : decode cX10_change 87 = .ok (.iaload, 1) := gX10_change_48.2.2.2.1
theorem dX10_change_88 : decode cX10_change 88 = .ok (.i2l, 1) := gX10_change_48.2.2.2.2.1
theorem dX10_change_89 : decode cX10_change 89 = .ok (.lmul, 1) := gX10_change_48.2.2.2.2.2.1
theorem dX10_change_90 : decode cX10_change 90 = .ok (.lcmp, 1) := gX10_change_48.2.2.2.2.2.2.1
theorem dX10_change_91 : decode cX10_change 91 = .ok (.ifCond .le 6, 3) := gX10_change_48.2.2.2.2.2.2.2.1
theorem dX10_change_94 : decode cX10_change 94 = .ok (.bipush (-9), 2) := gX10_change_48.2.2.2.2.2.2.2.2.1
theorem dX10_change_96 : decode cX10_change 96 = .ok (.ireturn, 1) := gX10_change_48.2.2.2.2.2.2.2.2.2.1
theorem dX10_change_97 : decode cX10_change 97 = .ok (.aload_n 0, 1) := gX10_change_48.2.2.2.2.2.2.2.2.2.2.1
theorem dX10_change_98 : decode cX10_change 98 = .ok (.getfield 109, 3) := gX10_change_48.2.2.2.2.2.2.2.2.2.2.2
theorem gX10_change_60 : (decode cX10_change 101 = .ok (.iload_n 1, 1)) ∧ (decode cX10_change 102 = .ok (.dup2, 1)) ∧ (decode cX10_change 103 = .ok (.iaload, 1)) ∧ (decode cX10_change 104 = .ok (.iload_n 2, 1)) ∧ (decode cX10_change 105 = .ok (.iadd, 1)) ∧ (decode cX10_change 106 = .ok (.iastore, 1)) ∧ (decode cX10_change 107 = .ok (.aload_n 0, 1)) ∧ (decode cX10_change 108 = .ok (.getfield 109, 3)) ∧ (decode cX10_change 111 = .ok (.iload_n 1, 1)) ∧ (decode cX10_change 112 = .ok (.iaload, 1)) ∧ (decode cX10_change 113 = .ok (.ireturn, 1)) := by decide +kernel
theorem dX10_change_101 : decode cX10_change 101 = .ok (.iload_n 1, 1) := gX10_change_60.1
theorem dX10_change_102 : decode cX10_change 102 = .ok (.dup2, 1) := gX10_change_60.2.1
theorem dX10_change_103 : decode cX10_change 103 = .ok (.iaload, 1) := gX10_change_60.2.2.1
theorem dX10_change_104 : decode cX10_change 104 = .ok (.iload_n 2, 1) := gX10_change_60.2.2.2.1
theorem dX10_change_105 : decode cX10_change 105 = .ok (.iadd, 1) := gX10_change_60.2.2.2.2.1
theorem dX10_change_106 : decode cX10_change 106 = .ok (.iastore, 1) := gX10_change_60.2.2.2.2.2.1
theorem dX10_change_107 : decode cX10_change 107 = .ok (.aload_n 0, 1) := gX10_change_60.2.2.2.2.2.2.1
theorem dX10_change_108 : decode cX10_change 108 = .ok (.getfield 109, 3) := gX10_change_60.2.2.2.2.2.2.2.1
theorem dX10_change_111 : decode cX10_change 111 = .ok (.iload_n 1, 1) := gX10_change_60.2.2.2.2.2.2.2.2.1
theorem dX10_change_112 : decode cX10_change 112 = .ok (.iaload, 1) := gX10_change_60.2.2.2.2.2.2.2.2.2.1
theorem dX10_change_113 : decode cX10_change 113 = .ok (.ireturn, 1) := gX10_change_60.2.2.2.2.2.2.2.2.2.2
theorem gX10_apart_0 : (decode cX10_apart 0 = .ok (.lload_n 0, 1)) ∧ (decode cX10_apart 1 = .ok (.lload_n 2, 1)) ∧ (decode cX10_apart 2 = .ok (.lcmp, 1)) ∧ (decode cX10_apart 3 = .ok (.ifCond .le 9, 3)) ∧ (decode cX10_apart 6 = .ok (.lload_n 0, 1)) ∧ (decode cX10_apart 7 = .ok (.lload_n 2, 1)) ∧ (decode cX10_apart 8 = .ok (.lsub, 1)) ∧ (decode cX10_apart 9 = .ok (.goto 6, 3)) ∧ (decode cX10_apart 12 = .ok (.lload_n 2, 1)) ∧ (decode cX10_apart 13 = .ok (.lload_n 0, 1)) ∧ (decode cX10_apart 14 = .ok (.lsub, 1)) ∧ (decode cX10_apart 15 = .ok (.lreturn, 1)) := by decide +kernel
theorem dX10_apart_0 : decode cX10_apart 0 = .ok (.lload_n 0, 1) := gX10_apart_0.1
theorem dX10_apart_1 : decode cX10_apart 1 = .ok (.lload_n 2, 1) := gX10_apart_0.2.1
theorem dX10_apart_2 : decode cX10_apart 2 = .ok (.lcmp, 1) := gX10_apart_0.2.2.1
theorem dX10_apart_3 : decode cX10_apart 3 = .ok (.ifCond .le 9, 3) := gX10_apart_0.2.2.2.1
theorem dX10_apart_6 : decode cX10_apart 6 = .ok (.lload_n 0, 1) := gX10_apart_0.2.2.2.2.1
theorem dX10_apart_7 : decode cX10_apart 7 = .ok (.lload_n 2, 1) := gX10_apart_0.2.2.2.2.2.1
theorem dX10_apart_8 : decode cX10_apart 8 = .ok (.lsub, 1) := gX10_apart_0.2.2.2.2.2.2.1
theorem dX10_apart_9 : decode cX10_apart 9 = .ok (.goto 6, 3) := gX10_apart_0.2.2.2.2.2.2.2.1
theorem dX10_apart_12 : decode cX10_apart 12 = .ok (.lload_n 2, 1) := gX10_apart_0.2.2.2.2.2.2.2.2.1
theorem dX10_apart_13 : decode cX10_apart 13 = .ok (.lload_n 0, 1) := gX10_apart_0.2.2.2.2.2.2.2.2.2.1
theorem dX10_apart_14 : decode cX10_apart 14 = .ok (.lsub, 1) := gX10_apart_0.2.2.2.2.2.2.2.2.2.2.1
theorem dX10_apart_15 : decode cX10_apart 15 = .ok (.lreturn, 1) := gX10_apart_0.2.2.2.2.2.2.2.2.2.2.2
theorem gX10_likenessBy_0 : (decode cX10_likenessBy 0 = .ok (.iload_n 3, 1)) ∧ (decode cX10_likenessBy 1 = .ok (.istore 4, 2)) ∧ (decode cX10_likenessBy 3 = .ok (.iconst 0, 1)) ∧ (decode cX10_likenessBy 4 = .ok (.istore 5, 2)) ∧ (decode cX10_likenessBy 6 = .ok (.iload 5, 2)) ∧ (decode cX10_likenessBy 8 = .ok (.iconst 4, 1)) ∧ (decode cX10_likenessBy 9 = .ok (.if_icmp .ge 18, 3)) ∧ (decode cX10_likenessBy 12 = .ok (.aload_n 0, 1)) ∧ (decode cX10_likenessBy 13 = .ok (.getfield 121, 3)) ∧ (decode cX10_likenessBy 16 = .ok (.iload 5, 2)) ∧ (decode cX10_likenessBy 18 = .ok (.iload 5, 2)) ∧ (decode cX10_likenessBy 20 = .ok (.iastore, 1)) := by decide +kernel
theorem dX10_likenessBy_0 : decode cX10_likenessBy 0 = .ok (.iload_n 3, 1) := gX10_likenessBy_0.1
theorem dX10_likenessBy_1 : decode cX10_likenessBy 1 = .ok (.istore 4, 2) := gX10_likenessBy_0.2.1
theorem dX10_likenessBy_3 : decode cX10_likenessBy 3 = .ok (.iconst 0, 1) := gX10_likenessBy_0.2.2.1
theorem dX10_likenessBy_4 : decode cX10_likenessBy 4 = .ok (.istore 5, 2) := gX10_likenessBy_0.2.2.2.1
theorem dX10_likenessBy_6 : decode cX10_likenessBy 6 = .ok (.iload 5, 2) := gX10_likenessBy_0.2.2.2.2.1
theorem dX10_likenessBy_8 : decode cX10_likenessBy 8 = .ok (.iconst 4, 1) := gX10_likenessBy_0.2.2.2.2.2.1
theorem dX10_likenessBy_9 : decode cX10_likenessBy 9 = .ok (.if_icmp .ge 18, 3) := gX10_likenessBy_0.2.2.2.2.2.2.1
theorem dX10_likenessBy_12 : decode cX10_likenessBy 12 = .ok (.aload_n 0, 1) := gX10_likenessBy_0.2.2.2.2.2.2.2.1
theorem dX10_likenessBy_13 : decode cX10_likenessBy 13 = .ok (.getfield 121, 3) := gX10_likenessBy_0.2.2.2.2.2.2.2.2.1
theorem dX10_likenessBy_16 : decode cX10_likenessBy 16 = .ok (.iload 5, 2) := gX10_likenessBy_0.2.2.2.2.2.2.2.2.2.1
theorem dX10_likenessBy_18 : decode cX10_likenessBy 18 = .ok (.iload 5, 2) := gX10_likenessBy_0.2.2.2.2.2.2.2.2.2.2.1
theorem dX10_likenessBy_20 : decode cX10_likenessBy 20 = .ok (.iastore, 1) := gX10_likenessBy_0.2.2.2.2.2.2.2.2.2.2.2
theorem gX10_likenessBy_12 : (decode cX10_likenessBy 21 = .ok (.iinc 5 1, 3)) ∧ (decode cX10_likenessBy 24 = .ok (.goto (-18), 3)) ∧ (decode cX10_likenessBy 27 = .ok (.iconst 0, 1)) ∧ (decode cX10_likenessBy 28 = .ok (.istore 5, 2)) ∧ (decode cX10_likenessBy 30 = .ok (.iload 5, 2)) ∧ (decode cX10_likenessBy 32 = .ok (.iconst 4, 1)) ∧ (decode cX10_likenessBy 33 = .ok (.if_icmp .ge 62, 3)) ∧ (decode cX10_likenessBy 36 = .ok (.iload 5, 2)) ∧ (decode cX10_likenessBy 38 = .ok (.iload 4, 2)) ∧ (decode cX10_likenessBy 40 = .ok (.iconst 4, 1)) ∧ (decode cX10_likenessBy 41 = .ok (.iload 5, 2)) ∧ (decode cX10_likenessBy 43 = .ok (.isub, 1)) := by decide +kernel
theorem dX10_likenessBy_21 : decode cX10_likenessBy 21 = .ok (.iinc 5 1, 3) := gX10_likenessBy_12.1
theorem dX10_likenessBy_24 : decode cX10_likenessBy 24 = .ok (.goto (-18), 3) := gX10_likenessBy_12.2.1
theorem dX10_likenessBy_27 : decode cX10_likenessBy 27 = .ok (.iconst 0, 1) := gX10_likenessBy_12.2.2.1
theorem dX10_likenessBy_28 : decode cX10_likenessBy 28 = .ok (.istore 5, 2) := gX10_likenessBy_12.2.2.2.1
theorem dX10_likenessBy_30 : decode cX10_likenessBy 30 = .ok (.iload 5, 2) := gX10_likenessBy_12.2.2.2.2.1
theorem dX10_likenessBy_32 : decode cX10_likenessBy 32 = .ok (.iconst 4, 1) := gX10_likenessBy_12.2.2.2.2.2.1
theorem dX10_likenessBy_33 : decode cX10_likenessBy 33 = .ok (.if_icmp .ge 62, 3) := gX10_likenessBy_12.2.2.2.2.2.2.1
theorem dX10_likenessBy_36 : decode cX10_likenessBy 36 = .ok (.iload 5, 2) := gX10_likenessBy_12.2.2.2.2.2.2.2.1
theorem dX10_likenessBy_38 : decode cX10_likenessBy 38 = .ok (.iload 4, 2) := gX10_likenessBy_12.2.2.2.2.2.2.2.2.1
theorem dX10_likenessBy_40 : decode cX10_likenessBy 40 = .ok (.iconst 4, 1) := gX10_likenessBy_12.2.2.2.2.2.2.2.2.2.1
theorem dX10_likenessBy_41 : decode cX10_likenessBy 41 = .ok (.iload 5, 2) := gX10_likenessBy_12.2.2.2.2.2.2.2.2.2.2.1
theorem dX10_likenessBy_43 : decode cX10_likenessBy 43 = .ok (.isub, 1) := gX10_likenessBy_12.2.2.2.2.2.2.2.2.2.2.2
theorem gX10_likenessBy_24 : (decode cX10_likenessBy 44 = .ok (.irem, 1)) ∧ (decode cX10_likenessBy 45 = .ok (.iadd, 1)) ∧ (decode cX10_likenessBy 46 = .ok (.istore 6, 2)) ∧ (decode cX10_likenessBy 48 = .ok (.iload 4, 2)) ∧ (decode cX10_likenessBy 50 = .ok (.iconst 4, 1)) ∧ (decode cX10_likenessBy 51 = .ok (.iload 5, 2)) ∧ (decode cX10_likenessBy 53 = .ok (.isub, 1)) ∧ (decode cX10_likenessBy 54 = .ok (.idiv, 1)) ∧ (decode cX10_likenessBy 55 = .ok (.istore 4, 2)) ∧ (decode cX10_likenessBy 57 = .ok (.aload_n 0, 1)) ∧ (decode cX10_likenessBy 58 = .ok (.getfield 121, 3)) ∧ (decode cX10_likenessBy 61 = .ok (.iload 5, 2)) := by decide +kernel
theorem dX10_likenessBy_44 : decode cX10_likenessBy 44 = .ok (.irem, 1) := gX10_likenessBy_24.1
theorem dX10_likenessBy_45 : decode cX10_likenessBy 45 = .ok (.iadd, 1) := gX10_likenessBy_24.2.1
theorem dX10_likenessBy_46 : decode cX10_likenessBy 46 = .ok (.istore 6, 2) := gX10_likenessBy_24.2.2.1
theorem dX10_likenessBy_48 : decode cX10_likenessBy 48 = .ok (.iload 4, 2) := gX10_likenessBy_24.2.2.2.1
theorem dX10_likenessBy_50 : decode cX10_likenessBy 50 = .ok (.iconst 4, 1) := gX10_likenessBy_24.2.2.2.2.1
theorem dX10_likenessBy_51 : decode cX10_likenessBy 51 = .ok (.iload 5, 2) := gX10_likenessBy_24.2.2.2.2.2.1
theorem dX10_likenessBy_53 : decode cX10_likenessBy 53 = .ok (.isub, 1) := gX10_likenessBy_24.2.2.2.2.2.2.1
theorem dX10_likenessBy_54 : decode cX10_likenessBy 54 = .ok (.idiv, 1) := gX10_likenessBy_24.2.2.2.2.2.2.2.1
theorem dX10_likenessBy_55 : decode cX10_likenessBy 55 = .ok (.istore 4, 2) := gX10_likenessBy_24.2.2.2.2.2.2.2.2.1
theorem dX10_likenessBy_57 : decode cX10_likenessBy 57 = .ok (.aload_n 0, 1) := gX10_likenessBy_24.2.2.2.2.2.2.2.2.2.1
theorem dX10_likenessBy_58 : decode cX10_likenessBy 58 = .ok (.getfield 121, 3) := gX10_likenessBy_24.2.2.2.2.2.2.2.2.2.2.1
theorem dX10_likenessBy_61 : decode cX10_likenessBy 61 = .ok (.iload 5, 2) := gX10_likenessBy_24.2.2.2.2.2.2.2.2.2.2.2
theorem gX10_likenessBy_36 : (decode cX10_likenessBy 63 = .ok (.iaload, 1)) ∧ (decode cX10_likenessBy 64 = .ok (.istore 7, 2)) ∧ (decode cX10_likenessBy 66 = .ok (.aload_n 0, 1)) ∧ (decode cX10_likenessBy 67 = .ok (.getfield 121, 3)) ∧ (decode cX10_likenessBy 70 = .ok (.iload 5, 2)) ∧ (decode cX10_likenessBy 72 = .ok (.aload_n 0, 1)) ∧ (decode cX10_likenessBy 73 = .ok (.getfield 121, 3)) ∧ (decode cX10_likenessBy 76 = .ok (.iload 6, 2)) ∧ (decode cX10_likenessBy 78 = .ok (.iaload, 1)) ∧ (decode cX10_likenessBy 79 = .ok (.iastore, 1)) ∧ (decode cX10_likenessBy 80 = .ok (.aload_n 0, 1)) ∧ (decode cX10_likenessBy 81 = .ok (.getfield 121, 3)) := by decide +kernel
theorem dX10_likenessBy_63 : decode cX10_likenessBy 63 = .ok (.iaload, 1) := gX10_likenessBy_36.1
theorem dX10_likenessBy_64 : decode cX10_likenessBy 64 = .ok (.istore 7, 2) := gX10_likenessBy_36.2.1
theorem dX10_likenessBy_66 : decode cX10_likenessBy 66 = .ok (.aload_n 0, 1) := gX10_likenessBy_36.2.2.1
theorem dX10_likenessBy_67 : decode cX10_likenessBy 67 = .ok (.getfield 121, 3) := gX10_likenessBy_36.2.2.2.1
theorem dX10_likenessBy_70 : decode cX10_likenessBy 70 = .ok (.iload 5, 2) := gX10_likenessBy_36.2.2.2.2.1
theorem dX10_likenessBy_72 : decode cX10_likenessBy 72 = .ok (.aload_n 0, 1) := gX10_likenessBy_36.2.2.2.2.2.1
theorem dX10_likenessBy_73 : decode cX10_likenessBy 73 = .ok (.getfield 121, 3) := gX10_likenessBy_36.2.2.2.2.2.2.1
theorem dX10_likenessBy_76 : decode cX10_likenessBy 76 = .ok (.iload 6, 2) := gX10_likenessBy_36.2.2.2.2.2.2.2.1
theorem dX10_likenessBy_78 : decode cX10_likenessBy 78 = .ok (.iaload, 1) := gX10_likenessBy_36.2.2.2.2.2.2.2.2.1
theorem dX10_likenessBy_79 : decode cX10_likenessBy 79 = .ok (.iastore, 1) := gX10_likenessBy_36.2.2.2.2.2.2.2.2.2.1
theorem dX10_likenessBy_80 : decode cX10_likenessBy 80 = .ok (.aload_n 0, 1) := gX10_likenessBy_36.2.2.2.2.2.2.2.2.2.2.1
theorem dX10_likenessBy_81 : decode cX10_likenessBy 81 = .ok (.getfield 121, 3) := gX10_likenessBy_36.2.2.2.2.2.2.2.2.2.2.2
theorem gX10_likenessBy_48 : (decode cX10_likenessBy 84 = .ok (.iload 6, 2)) ∧ (decode cX10_likenessBy 86 = .ok (.iload 7, 2)) ∧ (decode cX10_likenessBy 88 = .ok (.iastore, 1)) ∧ (decode cX10_likenessBy 89 = .ok (.iinc 5 1, 3)) ∧ (decode cX10_likenessBy 92 = .ok (.goto (-62), 3)) ∧ (decode cX10_likenessBy 95 = .ok (.lconst 0, 1)) ∧ (decode cX10_likenessBy 96 = .ok (.lstore 5, 2)) ∧ (decode cX10_likenessBy 98 = .ok (.iconst 0, 1)) ∧ (decode cX10_likenessBy 99 = .ok (.istore 7, 2)) ∧ (decode cX10_likenessBy 101 = .ok (.iload 7, 2)) ∧ (decode cX10_likenessBy 103 = .ok (.iconst 4, 1)) ∧ (decode cX10_likenessBy 104 = .ok (.if_icmp .ge 60, 3)) := by decide +kernel
theorem dX10_likenessBy_84 : decode cX10_likenessBy 84 = .ok (.iload 6, 2) := gX10_likenessBy_48.1
theorem dX10_likenessBy_86 : decode cX10_likenessBy 86 = .ok (.iload 7, 2) := gX10_likenessBy_48.2.1
theorem dX10_likenessBy_88 : decode cX10_likenessBy 88 = .ok (.iastore, 1) := gX10_likenessBy_48.2.2.1
theorem dX10_likenessBy_89 : decode cX10_likenessBy 89 = .ok (.iinc 5 1, 3) := gX10_likenessBy_48.2.2.2.1
theorem dX10_likenessBy_92 : decode cX10_likenessBy 92 = .ok (.goto (-62), 3) := gX10_likenessBy_48.2.2.2.2.1
theorem dX10_likenessBy_95 : decode cX10_likenessBy 95 = .ok (.lconst 0, 1) := gX10_likenessBy_48.2.2.2.2.2.1
theorem dX10_likenessBy_96 : decode cX10_likenessBy 96 = .ok (.lstore 5, 2) := gX10_likenessBy_48.2.2.2.2.2.2.1
theorem dX10_likenessBy_98 : decode cX10_likenessBy 98 = .ok (.iconst 0, 1) := gX10_likenessBy_48.2.2.2.2.2.2.2.1
theorem dX10_likenessBy_99 : decode cX10_likenessBy 99 = .ok (.istore 7, 2) := gX10_likenessBy_48.2.2.2.2.2.2.2.2.1
theorem dX10_likenessBy_101 : decode cX10_likenessBy 101 = .ok (.iload 7, 2) := gX10_likenessBy_48.2.2.2.2.2.2.2.2.2.1
theorem dX10_likenessBy_103 : decode cX10_likenessBy 103 = .ok (.iconst 4, 1) := gX10_likenessBy_48.2.2.2.2.2.2.2.2.2.2.1
theorem dX10_likenessBy_104 : decode cX10_likenessBy 104 = .ok (.if_icmp .ge 60, 3) := gX10_likenessBy_48.2.2.2.2.2.2.2.2.2.2.2
theorem gX10_likenessBy_60 : (decode cX10_likenessBy 107 = .ok (.lload 5, 2)) ∧ (decode cX10_likenessBy 109 = .ok (.aload_n 0, 1)) ∧ (decode cX10_likenessBy 110 = .ok (.getfield 27, 3)) ∧ (decode cX10_likenessBy 113 = .ok (.iconst 4, 1)) ∧ (decode cX10_likenessBy 114 = .ok (.iload_n 1, 1)) ∧ (decode cX10_likenessBy 115 = .ok (.imul, 1)) ∧ (decode cX10_likenessBy 116 = .ok (.iload 7, 2)) ∧ (decode cX10_likenessBy 118 = .ok (.iadd, 1)) ∧ (decode cX10_likenessBy 119 = .ok (.iaload, 1)) ∧ (decode cX10_likenessBy 120 = .ok (.i2l, 1)) ∧ (decode cX10_likenessBy 121 = .ok (.aload_n 0, 1)) ∧ (decode cX10_likenessBy 122 = .ok (.iload_n 2, 1)) := by decide +kernel
theorem dX10_likenessBy_107 : decode cX10_likenessBy 107 = .ok (.lload 5, 2) := gX10_likenessBy_60.1
theorem dX10_likenessBy_109 : decode cX10_likenessBy 109 = .ok (.aload_n 0, 1) := gX10_likenessBy_60.2.1
theorem dX10_likenessBy_110 : decode cX10_likenessBy 110 = .ok (.getfield 27, 3) := gX10_likenessBy_60.2.2.1
theorem dX10_likenessBy_113 : decode cX10_likenessBy 113 = .ok (.iconst 4, 1) := gX10_likenessBy_60.2.2.2.1
theorem dX10_likenessBy_114 : decode cX10_likenessBy 114 = .ok (.iload_n 1, 1) := gX10_likenessBy_60.2.2.2.2.1
theorem dX10_likenessBy_115 : decode cX10_likenessBy 115 = .ok (.imul, 1) := gX10_likenessBy_60.2.2.2.2.2.1
theorem dX10_likenessBy_116 : decode cX10_likenessBy 116 = .ok (.iload 7, 2) := gX10_likenessBy_60.2.2.2.2.2.2.1
theorem dX10_likenessBy_118 : decode cX10_likenessBy 118 = .ok (.iadd, 1) := gX10_likenessBy_60.2.2.2.2.2.2.2.1
theorem dX10_likenessBy_119 : decode cX10_likenessBy 119 = .ok (.iaload, 1) := gX10_likenessBy_60.2.2.2.2.2.2.2.2.1
theorem dX10_likenessBy_120 : decode cX10_likenessBy 120 = .ok (.i2l, 1) := gX10_likenessBy_60.2.2.2.2.2.2.2.2.2.1
theorem dX10_likenessBy_121 : decode cX10_likenessBy 121 = .ok (.aload_n 0, 1) := gX10_likenessBy_60.2.2.2.2.2.2.2.2.2.2.1
theorem dX10_likenessBy_122 : decode cX10_likenessBy 122 = .ok (.iload_n 2, 1) := gX10_likenessBy_60.2.2.2.2.2.2.2.2.2.2.2
theorem gX10_likenessBy_72 : (decode cX10_likenessBy 123 = .ok (.invokevirtual 184, 3)) ∧ (decode cX10_likenessBy 126 = .ok (.i2l, 1)) ∧ (decode cX10_likenessBy 127 = .ok (.lmul, 1)) ∧ (decode cX10_likenessBy 128 = .ok (.aload_n 0, 1)) ∧ (decode cX10_likenessBy 129 = .ok (.getfield 27, 3)) ∧ (decode cX10_likenessBy 132 = .ok (.iconst 4, 1)) ∧ (decode cX10_likenessBy 133 = .ok (.iload_n 2, 1)) ∧ (decode cX10_likenessBy 134 = .ok (.imul, 1)) ∧ (decode cX10_likenessBy 135 = .ok (.aload_n 0, 1)) ∧ (decode cX10_likenessBy 136 = .ok (.getfield 121, 3)) ∧ (decode cX10_likenessBy 139 = .ok (.iload 7, 2)) ∧ (decode cX10_likenessBy 141 = .ok (.iaload, 1)) := by decide +kernel
theorem dX10_likenessBy_123 : decode cX10_likenessBy 123 = .ok (.invokevirtual 184, 3) := gX10_likenessBy_72.1
theorem dX10_likenessBy_126 : decode cX10_likenessBy 126 = .ok (.i2l, 1) := gX10_likenessBy_72.2.1
theorem dX10_likenessBy_127 : decode cX10_likenessBy 127 = .ok (.lmul, 1) := gX10_likenessBy_72.2.2.1
theorem dX10_likenessBy_128 : decode cX10_likenessBy 128 = .ok (.aload_n 0, 1) := gX10_likenessBy_72.2.2.2.1
theorem dX10_likenessBy_129 : decode cX10_likenessBy 129 = .ok (.getfield 27, 3) := gX10_likenessBy_72.2.2.2.2.1
theorem dX10_likenessBy_132 : decode cX10_likenessBy 132 = .ok (.iconst 4, 1) := gX10_likenessBy_72.2.2.2.2.2.1
theorem dX10_likenessBy_133 : decode cX10_likenessBy 133 = .ok (.iload_n 2, 1) := gX10_likenessBy_72.2.2.2.2.2.2.1
theorem dX10_likenessBy_134 : decode cX10_likenessBy 134 = .ok (.imul, 1) := gX10_likenessBy_72.2.2.2.2.2.2.2.1
theorem dX10_likenessBy_135 : decode cX10_likenessBy 135 = .ok (.aload_n 0, 1) := gX10_likenessBy_72.2.2.2.2.2.2.2.2.1
theorem dX10_likenessBy_136 : decode cX10_likenessBy 136 = .ok (.getfield 121, 3) := gX10_likenessBy_72.2.2.2.2.2.2.2.2.2.1
theorem dX10_likenessBy_139 : decode cX10_likenessBy 139 = .ok (.iload 7, 2) := gX10_likenessBy_72.2.2.2.2.2.2.2.2.2.2.1
theorem dX10_likenessBy_141 : decode cX10_likenessBy 141 = .ok (.iaload, 1) := gX10_likenessBy_72.2.2.2.2.2.2.2.2.2.2.2
theorem gX10_likenessBy_84 : (decode cX10_likenessBy 142 = .ok (.iadd, 1)) ∧ (decode cX10_likenessBy 143 = .ok (.iaload, 1)) ∧ (decode cX10_likenessBy 144 = .ok (.i2l, 1)) ∧ (decode cX10_likenessBy 145 = .ok (.aload_n 0, 1)) ∧ (decode cX10_likenessBy 146 = .ok (.iload_n 1, 1)) ∧ (decode cX10_likenessBy 147 = .ok (.invokevirtual 184, 3)) ∧ (decode cX10_likenessBy 150 = .ok (.i2l, 1)) ∧ (decode cX10_likenessBy 151 = .ok (.lmul, 1)) ∧ (decode cX10_likenessBy 152 = .ok (.invokestatic 374, 3)) ∧ (decode cX10_likenessBy 155 = .ok (.ladd, 1)) ∧ (decode cX10_likenessBy 156 = .ok (.lstore 5, 2)) ∧ (decode cX10_likenessBy 158 = .ok (.iinc 7 1, 3)) := by decide +kernel
theorem dX10_likenessBy_142 : decode cX10_likenessBy 142 = .ok (.iadd, 1) := gX10_likenessBy_84.1
theorem dX10_likenessBy_143 : decode cX10_likenessBy 143 = .ok (.iaload, 1) := gX10_likenessBy_84.2.1
theorem dX10_likenessBy_144 : decode cX10_likenessBy 144 = .ok (.i2l, 1) := gX10_likenessBy_84.2.2.1
theorem dX10_likenessBy_145 : decode cX10_likenessBy 145 = .ok (.aload_n 0, 1) := gX10_likenessBy_84.2.2.2.1
theorem dX10_likenessBy_146 : decode cX10_likenessBy 146 = .ok (.iload_n 1, 1) := gX10_likenessBy_84.2.2.2.2.1
theorem dX10_likenessBy_147 : decode cX10_likenessBy 147 = .ok (.invokevirtual 184, 3) := gX10_likenessBy_84.2.2.2.2.2.1
theorem dX10_likenessBy_150 : decode cX10_likenessBy 150 = .ok (.i2l, 1) := gX10_likenessBy_84.2.2.2.2.2.2.1
theorem dX10_likenessBy_151 : decode cX10_likenessBy 151 = .ok (.lmul, 1) := gX10_likenessBy_84.2.2.2.2.2.2.2.1
theorem dX10_likenessBy_152 : decode cX10_likenessBy 152 = .ok (.invokestatic 374, 3) := gX10_likenessBy_84.2.2.2.2.2.2.2.2.1
theorem dX10_likenessBy_155 : decode cX10_likenessBy 155 = .ok (.ladd, 1) := gX10_likenessBy_84.2.2.2.2.2.2.2.2.2.1
theorem dX10_likenessBy_156 : decode cX10_likenessBy 156 = .ok (.lstore 5, 2) := gX10_likenessBy_84.2.2.2.2.2.2.2.2.2.2.1
theorem dX10_likenessBy_158 : decode cX10_likenessBy 158 = .ok (.iinc 7 1, 3) := gX10_likenessBy_84.2.2.2.2.2.2.2.2.2.2.2
theorem gX10_likenessBy_96 : (decode cX10_likenessBy 161 = .ok (.goto (-60), 3)) ∧ (decode cX10_likenessBy 164 = .ok (.lload 5, 2)) ∧ (decode cX10_likenessBy 166 = .ok (.lreturn, 1)) := by decide +kernel
theorem dX10_likenessBy_161 : decode cX10_likenessBy 161 = .ok (.goto (-60), 3) := gX10_likenessBy_96.1
theorem dX10_likenessBy_164 : decode cX10_likenessBy 164 = .ok (.lload 5, 2) := gX10_likenessBy_96.2.1
theorem dX10_likenessBy_166 : decode cX10_likenessBy 166 = .ok (.lreturn, 1) := gX10_likenessBy_96.2.2
theorem gX10_chanceOf_0 : (decode cX10_chanceOf 0 = .ok (.iconst 0, 1)) ∧ (decode cX10_chanceOf 1 = .ok (.istore_n 3, 1)) ∧ (decode cX10_chanceOf 2 = .ok (.iconst 0, 1)) ∧ (decode cX10_chanceOf 3 = .ok (.istore 4, 2)) ∧ (decode cX10_chanceOf 5 = .ok (.iload 4, 2)) ∧ (decode cX10_chanceOf 7 = .ok (.bipush 24, 2)) ∧ (decode cX10_chanceOf 9 = .ok (.if_icmp .ge 36, 3)) ∧ (decode cX10_chanceOf 12 = .ok (.iload_n 3, 1)) ∧ (decode cX10_chanceOf 13 = .ok (.aload_n 0, 1)) ∧ (decode cX10_chanceOf 14 = .ok (.iload_n 1, 1)) ∧ (decode cX10_chanceOf 15 = .ok (.iload_n 2, 1)) ∧ (decode cX10_chanceOf 16 = .ok (.iload 4, 2)) := by decide +kernel
theorem dX10_chanceOf_0 : decode cX10_chanceOf 0 = .ok (.iconst 0, 1) := gX10_chanceOf_0.1
theorem dX10_chanceOf_1 : decode cX10_chanceOf 1 = .ok (.istore_n 3, 1) := gX10_chanceOf_0.2.1
theorem dX10_chanceOf_2 : decode cX10_chanceOf 2 = .ok (.iconst 0, 1) := gX10_chanceOf_0.2.2.1
theorem dX10_chanceOf_3 : decode cX10_chanceOf 3 = .ok (.istore 4, 2) := gX10_chanceOf_0.2.2.2.1
theorem dX10_chanceOf_5 : decode cX10_chanceOf 5 = .ok (.iload 4, 2) := gX10_chanceOf_0.2.2.2.2.1
theorem dX10_chanceOf_7 : decode cX10_chanceOf 7 = .ok (.bipush 24, 2) := gX10_chanceOf_0.2.2.2.2.2.1
theorem dX10_chanceOf_9 : decode cX10_chanceOf 9 = .ok (.if_icmp .ge 36, 3) := gX10_chanceOf_0.2.2.2.2.2.2.1
theorem dX10_chanceOf_12 : decode cX10_chanceOf 12 = .ok (.iload_n 3, 1) := gX10_chanceOf_0.2.2.2.2.2.2.2.1
theorem dX10_chanceOf_13 : decode cX10_chanceOf 13 = .ok (.aload_n 0, 1) := gX10_chanceOf_0.2.2.2.2.2.2.2.2.1
theorem dX10_chanceOf_14 : decode cX10_chanceOf 14 = .ok (.iload_n 1, 1) := gX10_chanceOf_0.2.2.2.2.2.2.2.2.2.1
theorem dX10_chanceOf_15 : decode cX10_chanceOf 15 = .ok (.iload_n 2, 1) := gX10_chanceOf_0.2.2.2.2.2.2.2.2.2.2.1
theorem dX10_chanceOf_16 : decode cX10_chanceOf 16 = .ok (.iload 4, 2) := gX10_chanceOf_0.2.2.2.2.2.2.2.2.2.2.2
theorem gX10_chanceOf_12 : (decode cX10_chanceOf 18 = .ok (.invokevirtual 377, 3)) ∧ (decode cX10_chanceOf 21 = .ok (.aload_n 0, 1)) ∧ (decode cX10_chanceOf 22 = .ok (.iload_n 1, 1)) ∧ (decode cX10_chanceOf 23 = .ok (.iload_n 2, 1)) ∧ (decode cX10_chanceOf 24 = .ok (.iconst 0, 1)) ∧ (decode cX10_chanceOf 25 = .ok (.invokevirtual 377, 3)) ∧ (decode cX10_chanceOf 28 = .ok (.lcmp, 1)) ∧ (decode cX10_chanceOf 29 = .ok (.ifCond .gt 7, 3)) ∧ (decode cX10_chanceOf 32 = .ok (.iconst 1, 1)) ∧ (decode cX10_chanceOf 33 = .ok (.goto 4, 3)) ∧ (decode cX10_chanceOf 36 = .ok (.iconst 0, 1)) ∧ (decode cX10_chanceOf 37 = .ok (.iadd, 1)) := by decide +kernel
theorem dX10_chanceOf_18 : decode cX10_chanceOf 18 = .ok (.invokevirtual 377, 3) := gX10_chanceOf_12.1
theorem dX10_chanceOf_21 : decode cX10_chanceOf 21 = .ok (.aload_n 0, 1) := gX10_chanceOf_12.2.1
theorem dX10_chanceOf_22 : decode cX10_chanceOf 22 = .ok (.iload_n 1, 1) := gX10_chanceOf_12.2.2.1
theorem dX10_chanceOf_23 : decode cX10_chanceOf 23 = .ok (.iload_n 2, 1) := gX10_chanceOf_12.2.2.2.1
theorem dX10_chanceOf_24 : decode cX10_chanceOf 24 = .ok (.iconst 0, 1) := gX10_chanceOf_12.2.2.2.2.1
theorem dX10_chanceOf_25 : decode cX10_chanceOf 25 = .ok (.invokevirtual 377, 3) := gX10_chanceOf_12.2.2.2.2.2.1
theorem dX10_chanceOf_28 : decode cX10_chanceOf 28 = .ok (.lcmp, 1) := gX10_chanceOf_12.2.2.2.2.2.2.1
theorem dX10_chanceOf_29 : decode cX10_chanceOf 29 = .ok (.ifCond .gt 7, 3) := gX10_chanceOf_12.2.2.2.2.2.2.2.1
theorem dX10_chanceOf_32 : decode cX10_chanceOf 32 = .ok (.iconst 1, 1) := gX10_chanceOf_12.2.2.2.2.2.2.2.2.1
theorem dX10_chanceOf_33 : decode cX10_chanceOf 33 = .ok (.goto 4, 3) := gX10_chanceOf_12.2.2.2.2.2.2.2.2.2.1
theorem dX10_chanceOf_36 : decode cX10_chanceOf 36 = .ok (.iconst 0, 1) := gX10_chanceOf_12.2.2.2.2.2.2.2.2.2.2.1
theorem dX10_chanceOf_37 : decode cX10_chanceOf 37 = .ok (.iadd, 1) := gX10_chanceOf_12.2.2.2.2.2.2.2.2.2.2.2
theorem gX10_chanceOf_24 : (decode cX10_chanceOf 38 = .ok (.istore_n 3, 1)) ∧ (decode cX10_chanceOf 39 = .ok (.iinc 4 1, 3)) ∧ (decode cX10_chanceOf 42 = .ok (.goto (-37), 3)) ∧ (decode cX10_chanceOf 45 = .ok (.iload_n 3, 1)) ∧ (decode cX10_chanceOf 46 = .ok (.ireturn, 1)) := by decide +kernel
theorem dX10_chanceOf_38 : decode cX10_chanceOf 38 = .ok (.istore_n 3, 1) := gX10_chanceOf_24.1
theorem dX10_chanceOf_39 : decode cX10_chanceOf 39 = .ok (.iinc 4 1, 3) := gX10_chanceOf_24.2.1
theorem dX10_chanceOf_42 : decode cX10_chanceOf 42 = .ok (.goto (-37), 3) := gX10_chanceOf_24.2.2.1
theorem dX10_chanceOf_45 : decode cX10_chanceOf 45 = .ok (.iload_n 3, 1) := gX10_chanceOf_24.2.2.2.1
theorem dX10_chanceOf_46 : decode cX10_chanceOf 46 = .ok (.ireturn, 1) := gX10_chanceOf_24.2.2.2.2
theorem gX10_wrongTwo_0 : (decode cX10_wrongTwo 0 = .ok (.aload_n 0, 1)) ∧ (decode cX10_wrongTwo 1 = .ok (.iload_n 1, 1)) ∧ (decode cX10_wrongTwo 2 = .ok (.invokevirtual 170, 3)) ∧ (decode cX10_wrongTwo 5 = .ok (.ifCond .eq 22, 3)) ∧ (decode cX10_wrongTwo 8 = .ok (.iload_n 2, 1)) ∧ (decode cX10_wrongTwo 9 = .ok (.invokestatic 166, 3)) ∧ (decode cX10_wrongTwo 12 = .ok (.ifCond .eq 15, 3)) ∧ (decode cX10_wrongTwo 15 = .ok (.iload_n 3, 1)) ∧ (decode cX10_wrongTwo 16 = .ok (.invokestatic 166, 3)) ∧ (decode cX10_wrongTwo 19 = .ok (.ifCond .eq 8, 3)) ∧ (decode cX10_wrongTwo 22 = .ok (.iload_n 2, 1)) ∧ (decode cX10_wrongTwo 23 = .ok (.iload_n 3, 1)) := by decide +kernel
theorem dX10_wrongTwo_0 : decode cX10_wrongTwo 0 = .ok (.aload_n 0, 1) := gX10_wrongTwo_0.1
theorem dX10_wrongTwo_1 : decode cX10_wrongTwo 1 = .ok (.iload_n 1, 1) := gX10_wrongTwo_0.2.1
theorem dX10_wrongTwo_2 : decode cX10_wrongTwo 2 = .ok (.invokevirtual 170, 3) := gX10_wrongTwo_0.2.2.1
theorem dX10_wrongTwo_5 : decode cX10_wrongTwo 5 = .ok (.ifCond .eq 22, 3) := gX10_wrongTwo_0.2.2.2.1
theorem dX10_wrongTwo_8 : decode cX10_wrongTwo 8 = .ok (.iload_n 2, 1) := gX10_wrongTwo_0.2.2.2.2.1
theorem dX10_wrongTwo_9 : decode cX10_wrongTwo 9 = .ok (.invokestatic 166, 3) := gX10_wrongTwo_0.2.2.2.2.2.1
theorem dX10_wrongTwo_12 : decode cX10_wrongTwo 12 = .ok (.ifCond .eq 15, 3) := gX10_wrongTwo_0.2.2.2.2.2.2.1
theorem dX10_wrongTwo_15 : decode cX10_wrongTwo 15 = .ok (.iload_n 3, 1) := gX10_wrongTwo_0.2.2.2.2.2.2.2.1
theorem dX10_wrongTwo_16 : decode cX10_wrongTwo 16 = .ok (.invokestatic 166, 3) := gX10_wrongTwo_0.2.2.2.2.2.2.2.2.1
theorem dX10_wrongTwo_19 : decode cX10_wrongTwo 19 = .ok (.ifCond .eq 8, 3) := gX10_wrongTwo_0.2.2.2.2.2.2.2.2.2.1
theorem dX10_wrongTwo_22 : decode cX10_wrongTwo 22 = .ok (.iload_n 2, 1) := gX10_wrongTwo_0.2.2.2.2.2.2.2.2.2.2.1
theorem dX10_wrongTwo_23 : decode cX10_wrongTwo 23 = .ok (.iload_n 3, 1) := gX10_wrongTwo_0.2.2.2.2.2.2.2.2.2.2.2
theorem gX10_wrongTwo_12 : (decode cX10_wrongTwo 24 = .ok (.if_icmp .ne 5, 3)) ∧ (decode cX10_wrongTwo 27 = .ok (.iconst (-1), 1)) ∧ (decode cX10_wrongTwo 28 = .ok (.ireturn, 1)) ∧ (decode cX10_wrongTwo 29 = .ok (.aload_n 0, 1)) ∧ (decode cX10_wrongTwo 30 = .ok (.getfield 20, 3)) ∧ (decode cX10_wrongTwo 33 = .ok (.bipush 8, 2)) ∧ (decode cX10_wrongTwo 35 = .ok (.iload_n 1, 1)) ∧ (decode cX10_wrongTwo 36 = .ok (.imul, 1)) ∧ (decode cX10_wrongTwo 37 = .ok (.iload_n 2, 1)) ∧ (decode cX10_wrongTwo 38 = .ok (.iadd, 1)) ∧ (decode cX10_wrongTwo 39 = .ok (.baload, 1)) ∧ (decode cX10_wrongTwo 40 = .ok (.ifCond .eq 21, 3)) := by decide +kernel
theorem dX10_wrongTwo_24 : decode cX10_wrongTwo 24 = .ok (.if_icmp .ne 5, 3) := gX10_wrongTwo_12.1
theorem dX10_wrongTwo_27 : decode cX10_wrongTwo 27 = .ok (.iconst (-1), 1) := gX10_wrongTwo_12.2.1
theorem dX10_wrongTwo_28 : decode cX10_wrongTwo 28 = .ok (.ireturn, 1) := gX10_wrongTwo_12.2.2.1
theorem dX10_wrongTwo_29 : decode cX10_wrongTwo 29 = .ok (.aload_n 0, 1) := gX10_wrongTwo_12.2.2.2.1
theorem dX10_wrongTwo_30 : decode cX10_wrongTwo 30 = .ok (.getfield 20, 3) := gX10_wrongTwo_12.2.2.2.2.1
theorem dX10_wrongTwo_33 : decode cX10_wrongTwo 33 = .ok (.bipush 8, 2) := gX10_wrongTwo_12.2.2.2.2.2.1
theorem dX10_wrongTwo_35 : decode cX10_wrongTwo 35 = .ok (.iload_n 1, 1) := gX10_wrongTwo_12.2.2.2.2.2.2.1
theorem dX10_wrongTwo_36 : decode cX10_wrongTwo 36 = .ok (.imul, 1) := gX10_wrongTwo_12.2.2.2.2.2.2.2.1
theorem dX10_wrongTwo_37 : decode cX10_wrongTwo 37 = .ok (.iload_n 2, 1) := gX10_wrongTwo_12.2.2.2.2.2.2.2.2.1
theorem dX10_wrongTwo_38 : decode cX10_wrongTwo 38 = .ok (.iadd, 1) := gX10_wrongTwo_12.2.2.2.2.2.2.2.2.2.1
theorem dX10_wrongTwo_39 : decode cX10_wrongTwo 39 = .ok (.baload, 1) := gX10_wrongTwo_12.2.2.2.2.2.2.2.2.2.2.1
theorem dX10_wrongTwo_40 : decode cX10_wrongTwo 40 = .ok (.ifCond .eq 21, 3) := gX10_wrongTwo_12.2.2.2.2.2.2.2.2.2.2.2
theorem gX10_wrongTwo_24 : (decode cX10_wrongTwo 43 = .ok (.aload_n 0, 1)) ∧ (decode cX10_wrongTwo 44 = .ok (.getfield 20, 3)) ∧ (decode cX10_wrongTwo 47 = .ok (.bipush 8, 2)) ∧ (decode cX10_wrongTwo 49 = .ok (.iload_n 1, 1)) ∧ (decode cX10_wrongTwo 50 = .ok (.imul, 1)) ∧ (decode cX10_wrongTwo 51 = .ok (.iload_n 3, 1)) ∧ (decode cX10_wrongTwo 52 = .ok (.iadd, 1)) ∧ (decode cX10_wrongTwo 53 = .ok (.baload, 1)) ∧ (decode cX10_wrongTwo 54 = .ok (.ifCond .eq 7, 3)) ∧ (decode cX10_wrongTwo 57 = .ok (.iconst 0, 1)) ∧ (decode cX10_wrongTwo 58 = .ok (.goto 5, 3)) ∧ (decode cX10_wrongTwo 61 = .ok (.bipush (-5), 2)) := by decide +kernel
theorem dX10_wrongTwo_43 : decode cX10_wrongTwo 43 = .ok (.aload_n 0, 1) := gX10_wrongTwo_24.1
theorem dX10_wrongTwo_44 : decode cX10_wrongTwo 44 = .ok (.getfield 20, 3) := gX10_wrongTwo_24.2.1
theorem dX10_wrongTwo_47 : decode cX10_wrongTwo 47 = .ok (.bipush 8, 2) := gX10_wrongTwo_24.2.2.1
theorem dX10_wrongTwo_49 : decode cX10_wrongTwo 49 = .ok (.iload_n 1, 1) := gX10_wrongTwo_24.2.2.2.1
theorem dX10_wrongTwo_50 : decode cX10_wrongTwo 50 = .ok (.imul, 1) := gX10_wrongTwo_24.2.2.2.2.1
theorem dX10_wrongTwo_51 : decode cX10_wrongTwo 51 = .ok (.iload_n 3, 1) := gX10_wrongTwo_24.2.2.2.2.2.1
theorem dX10_wrongTwo_52 : decode cX10_wrongTwo 52 = .ok (.iadd, 1) := gX10_wrongTwo_24.2.2.2.2.2.2.1
theorem dX10_wrongTwo_53 : decode cX10_wrongTwo 53 = .ok (.baload, 1) := gX10_wrongTwo_24.2.2.2.2.2.2.2.1
theorem dX10_wrongTwo_54 : decode cX10_wrongTwo 54 = .ok (.ifCond .eq 7, 3) := gX10_wrongTwo_24.2.2.2.2.2.2.2.2.1
theorem dX10_wrongTwo_57 : decode cX10_wrongTwo 57 = .ok (.iconst 0, 1) := gX10_wrongTwo_24.2.2.2.2.2.2.2.2.2.1
theorem dX10_wrongTwo_58 : decode cX10_wrongTwo 58 = .ok (.goto 5, 3) := gX10_wrongTwo_24.2.2.2.2.2.2.2.2.2.2.1
theorem dX10_wrongTwo_61 : decode cX10_wrongTwo 61 = .ok (.bipush (-5), 2) := gX10_wrongTwo_24.2.2.2.2.2.2.2.2.2.2.2
theorem gX10_wrongTwo_36 : (decode cX10_wrongTwo 63 = .ok (.ireturn, 1)) := by decide +kernel
theorem dX10_wrongTwo_63 : decode cX10_wrongTwo 63 = .ok (.ireturn, 1) := gX10_wrongTwo_36
theorem gX10_likeness_0 : (decode cX10_likeness 0 = .ok (.aload_n 0, 1)) ∧ (decode cX10_likeness 1 = .ok (.iload_n 1, 1)) ∧ (decode cX10_likeness 2 = .ok (.iload_n 2, 1)) ∧ (decode cX10_likeness 3 = .ok (.iload_n 3, 1)) ∧ (decode cX10_likeness 4 = .ok (.invokevirtual 381, 3)) ∧ (decode cX10_likeness 7 = .ok (.istore 4, 2)) ∧ (decode cX10_likeness 9 = .ok (.iload 4, 2)) ∧ (decode cX10_likeness 11 = .ok (.ifCond .ge 12, 3)) ∧ (decode cX10_likeness 14 = .ok (.aload_n 0, 1)) ∧ (decode cX10_likeness 15 = .ok (.iload 4, 2)) ∧ (decode cX10_likeness 17 = .ok (.invokevirtual 308, 3)) ∧ (decode cX10_likeness 20 = .ok (.goto 20, 3)) := by decide +kernel
theorem dX10_likeness_0 : decode cX10_likeness 0 = .ok (.aload_n 0, 1) := gX10_likeness_0.1
theorem dX10_likeness_1 : decode cX10_likeness 1 = .ok (.iload_n 1, 1) := gX10_likeness_0.2.1
theorem dX10_likeness_2 : decode cX10_likeness 2 = .ok (.iload_n 2, 1) := gX10_likeness_0.2.2.1
theorem dX10_likeness_3 : decode cX10_likeness 3 = .ok (.iload_n 3, 1) := gX10_likeness_0.2.2.2.1
theorem dX10_likeness_4 : decode cX10_likeness 4 = .ok (.invokevirtual 381, 3) := gX10_likeness_0.2.2.2.2.1
theorem dX10_likeness_7 : decode cX10_likeness 7 = .ok (.istore 4, 2) := gX10_likeness_0.2.2.2.2.2.1
theorem dX10_likeness_9 : decode cX10_likeness 9 = .ok (.iload 4, 2) := gX10_likeness_0.2.2.2.2.2.2.1
theorem dX10_likeness_11 : decode cX10_likeness 11 = .ok (.ifCond .ge 12, 3) := gX10_likeness_0.2.2.2.2.2.2.2.1
theorem dX10_likeness_14 : decode cX10_likeness 14 = .ok (.aload_n 0, 1) := gX10_likeness_0.2.2.2.2.2.2.2.2.1
theorem dX10_likeness_15 : decode cX10_likeness 15 = .ok (.iload 4, 2) := gX10_likeness_0.2.2.2.2.2.2.2.2.2.1
theorem dX10_likeness_17 : decode cX10_likeness 17 = .ok (.invokevirtual 308, 3) := gX10_likeness_0.2.2.2.2.2.2.2.2.2.2.1
theorem dX10_likeness_20 : decode cX10_likeness 20 = .ok (.goto 20, 3) := gX10_likeness_0.2.2.2.2.2.2.2.2.2.2.2
theorem gX10_likeness_12 : (decode cX10_likeness 23 = .ok (.aload_n 0, 1)) ∧ (decode cX10_likeness 24 = .ok (.bipush 8, 2)) ∧ (decode cX10_likeness 26 = .ok (.iload_n 1, 1)) ∧ (decode cX10_likeness 27 = .ok (.imul, 1)) ∧ (decode cX10_likeness 28 = .ok (.iload_n 2, 1)) ∧ (decode cX10_likeness 29 = .ok (.iadd, 1)) ∧ (decode cX10_likeness 30 = .ok (.bipush 8, 2)) ∧ (decode cX10_likeness 32 = .ok (.iload_n 1, 1)) ∧ (decode cX10_likeness 33 = .ok (.imul, 1)) ∧ (decode cX10_likeness 34 = .ok (.iload_n 3, 1)) ∧ (decode cX10_likeness 35 = .ok (.iadd, 1)) ∧ (decode cX10_likeness 36 = .ok (.iconst 0, 1)) := by decide +kernel
theorem dX10_likeness_23 : decode cX10_likeness 23 = .ok (.aload_n 0, 1) := gX10_likeness_12.1
theorem dX10_likeness_24 : decode cX10_likeness 24 = .ok (.bipush 8, 2) := gX10_likeness_12.2.1
theorem dX10_likeness_26 : decode cX10_likeness 26 = .ok (.iload_n 1, 1) := gX10_likeness_12.2.2.1
theorem dX10_likeness_27 : decode cX10_likeness 27 = .ok (.imul, 1) := gX10_likeness_12.2.2.2.1
theorem dX10_likeness_28 : decode cX10_likeness 28 = .ok (.iload_n 2, 1) := gX10_likeness_12.2.2.2.2.1
theorem dX10_likeness_29 : decode cX10_likeness 29 = .ok (.iadd, 1) := gX10_likeness_12.2.2.2.2.2.1
theorem dX10_likeness_30 : decode cX10_likeness 30 = .ok (.bipush 8, 2) := gX10_likeness_12.2.2.2.2.2.2.1
theorem dX10_likeness_32 : decode cX10_likeness 32 = .ok (.iload_n 1, 1) := gX10_likeness_12.2.2.2.2.2.2.2.1
theorem dX10_likeness_33 : decode cX10_likeness 33 = .ok (.imul, 1) := gX10_likeness_12.2.2.2.2.2.2.2.2.1
theorem dX10_likeness_34 : decode cX10_likeness 34 = .ok (.iload_n 3, 1) := gX10_likeness_12.2.2.2.2.2.2.2.2.2.1
theorem dX10_likeness_35 : decode cX10_likeness 35 = .ok (.iadd, 1) := gX10_likeness_12.2.2.2.2.2.2.2.2.2.2.1
theorem dX10_likeness_36 : decode cX10_likeness 36 = .ok (.iconst 0, 1) := gX10_likeness_12.2.2.2.2.2.2.2.2.2.2.2
theorem gX10_likeness_24 : (decode cX10_likeness 37 = .ok (.invokevirtual 377, 3)) ∧ (decode cX10_likeness 40 = .ok (.lreturn, 1)) := by decide +kernel
theorem dX10_likeness_37 : decode cX10_likeness 37 = .ok (.invokevirtual 377, 3) := gX10_likeness_24.1
theorem dX10_likeness_40 : decode cX10_likeness 40 = .ok (.lreturn, 1) := gX10_likeness_24.2
theorem gX10_chance_0 : (decode cX10_chance 0 = .ok (.aload_n 0, 1)) ∧ (decode cX10_chance 1 = .ok (.iload_n 1, 1)) ∧ (decode cX10_chance 2 = .ok (.iload_n 2, 1)) ∧ (decode cX10_chance 3 = .ok (.iload_n 3, 1)) ∧ (decode cX10_chance 4 = .ok (.invokevirtual 381, 3)) ∧ (decode cX10_chance 7 = .ok (.istore 4, 2)) ∧ (decode cX10_chance 9 = .ok (.iload 4, 2)) ∧ (decode cX10_chance 11 = .ok (.ifCond .ge 12, 3)) ∧ (decode cX10_chance 14 = .ok (.aload_n 0, 1)) ∧ (decode cX10_chance 15 = .ok (.iload 4, 2)) ∧ (decode cX10_chance 17 = .ok (.invokevirtual 151, 3)) ∧ (decode cX10_chance 20 = .ok (.goto 19, 3)) := by decide +kernel
theorem dX10_chance_0 : decode cX10_chance 0 = .ok (.aload_n 0, 1) := gX10_chance_0.1
theorem dX10_chance_1 : decode cX10_chance 1 = .ok (.iload_n 1, 1) := gX10_chance_0.2.1
theorem dX10_chance_2 : decode cX10_chance 2 = .ok (.iload_n 2, 1) := gX10_chance_0.2.2.1
theorem dX10_chance_3 : decode cX10_chance 3 = .ok (.iload_n 3, 1) := gX10_chance_0.2.2.2.1
theorem dX10_chance_4 : decode cX10_chance 4 = .ok (.invokevirtual 381, 3) := gX10_chance_0.2.2.2.2.1
theorem dX10_chance_7 : decode cX10_chance 7 = .ok (.istore 4, 2) := gX10_chance_0.2.2.2.2.2.1
theorem dX10_chance_9 : decode cX10_chance 9 = .ok (.iload 4, 2) := gX10_chance_0.2.2.2.2.2.2.1
theorem dX10_chance_11 : decode cX10_chance 11 = .ok (.ifCond .ge 12, 3) := gX10_chance_0.2.2.2.2.2.2.2.1
theorem dX10_chance_14 : decode cX10_chance 14 = .ok (.aload_n 0, 1) := gX10_chance_0.2.2.2.2.2.2.2.2.1
theorem dX10_chance_15 : decode cX10_chance 15 = .ok (.iload 4, 2) := gX10_chance_0.2.2.2.2.2.2.2.2.2.1
theorem dX10_chance_17 : decode cX10_chance 17 = .ok (.invokevirtual 151, 3) := gX10_chance_0.2.2.2.2.2.2.2.2.2.2.1
theorem dX10_chance_20 : decode cX10_chance 20 = .ok (.goto 19, 3) := gX10_chance_0.2.2.2.2.2.2.2.2.2.2.2
theorem gX10_chance_12 : (decode cX10_chance 23 = .ok (.aload_n 0, 1)) ∧ (decode cX10_chance 24 = .ok (.bipush 8, 2)) ∧ (decode cX10_chance 26 = .ok (.iload_n 1, 1)) ∧ (decode cX10_chance 27 = .ok (.imul, 1)) ∧ (decode cX10_chance 28 = .ok (.iload_n 2, 1)) ∧ (decode cX10_chance 29 = .ok (.iadd, 1)) ∧ (decode cX10_chance 30 = .ok (.bipush 8, 2)) ∧ (decode cX10_chance 32 = .ok (.iload_n 1, 1)) ∧ (decode cX10_chance 33 = .ok (.imul, 1)) ∧ (decode cX10_chance 34 = .ok (.iload_n 3, 1)) ∧ (decode cX10_chance 35 = .ok (.iadd, 1)) ∧ (decode cX10_chance 36 = .ok (.invokevirtual 385, 3)) := by decide +kernel
theorem dX10_chance_23 : decode cX10_chance 23 = .ok (.aload_n 0, 1) := gX10_chance_12.1
theorem dX10_chance_24 : decode cX10_chance 24 = .ok (.bipush 8, 2) := gX10_chance_12.2.1
theorem dX10_chance_26 : decode cX10_chance 26 = .ok (.iload_n 1, 1) := gX10_chance_12.2.2.1
theorem dX10_chance_27 : decode cX10_chance 27 = .ok (.imul, 1) := gX10_chance_12.2.2.2.1
theorem dX10_chance_28 : decode cX10_chance 28 = .ok (.iload_n 2, 1) := gX10_chance_12.2.2.2.2.1
theorem dX10_chance_29 : decode cX10_chance 29 = .ok (.iadd, 1) := gX10_chance_12.2.2.2.2.2.1
theorem dX10_chance_30 : decode cX10_chance 30 = .ok (.bipush 8, 2) := gX10_chance_12.2.2.2.2.2.2.1
theorem dX10_chance_32 : decode cX10_chance 32 = .ok (.iload_n 1, 1) := gX10_chance_12.2.2.2.2.2.2.2.1
theorem dX10_chance_33 : decode cX10_chance 33 = .ok (.imul, 1) := gX10_chance_12.2.2.2.2.2.2.2.2.1
theorem dX10_chance_34 : decode cX10_chance 34 = .ok (.iload_n 3, 1) := gX10_chance_12.2.2.2.2.2.2.2.2.2.1
theorem dX10_chance_35 : decode cX10_chance 35 = .ok (.iadd, 1) := gX10_chance_12.2.2.2.2.2.2.2.2.2.2.1
theorem dX10_chance_36 : decode cX10_chance 36 = .ok (.invokevirtual 385, 3) := gX10_chance_12.2.2.2.2.2.2.2.2.2.2.2
theorem gX10_chance_24 : (decode cX10_chance 39 = .ok (.ireturn, 1)) := by decide +kernel
theorem dX10_chance_39 : decode cX10_chance 39 = .ok (.ireturn, 1) := gX10_chance_24
theorem gX10_areJoined_0 : (decode cX10_areJoined 0 = .ok (.aload_n 0, 1)) ∧ (decode cX10_areJoined 1 = .ok (.iload_n 1, 1)) ∧ (decode cX10_areJoined 2 = .ok (.iload_n 2, 1)) ∧ (decode cX10_areJoined 3 = .ok (.iconst 0, 1)) ∧ (decode cX10_areJoined 4 = .ok (.invokevirtual 377, 3)) ∧ (decode cX10_areJoined 7 = .ok (.lstore_n 3, 1)) ∧ (decode cX10_areJoined 8 = .ok (.lload_n 3, 1)) ∧ (decode cX10_areJoined 9 = .ok (.lconst 0, 1)) ∧ (decode cX10_areJoined 10 = .ok (.lcmp, 1)) ∧ (decode cX10_areJoined 11 = .ok (.ifCond .eq 35, 3)) ∧ (decode cX10_areJoined 14 = .ok (.aload_n 0, 1)) ∧ (decode cX10_areJoined 15 = .ok (.iload_n 1, 1)) := by decide +kernel
theorem dX10_areJoined_0 : decode cX10_areJoined 0 = .ok (.aload_n 0, 1) := gX10_areJoined_0.1
theorem dX10_areJoined_1 : decode cX10_areJoined 1 = .ok (.iload_n 1, 1) := gX10_areJoined_0.2.1
theorem dX10_areJoined_2 : decode cX10_areJoined 2 = .ok (.iload_n 2, 1) := gX10_areJoined_0.2.2.1
theorem dX10_areJoined_3 : decode cX10_areJoined 3 = .ok (.iconst 0, 1) := gX10_areJoined_0.2.2.2.1
theorem dX10_areJoined_4 : decode cX10_areJoined 4 = .ok (.invokevirtual 377, 3) := gX10_areJoined_0.2.2.2.2.1
theorem dX10_areJoined_7 : decode cX10_areJoined 7 = .ok (.lstore_n 3, 1) := gX10_areJoined_0.2.2.2.2.2.1
theorem dX10_areJoined_8 : decode cX10_areJoined 8 = .ok (.lload_n 3, 1) := gX10_areJoined_0.2.2.2.2.2.2.1
theorem dX10_areJoined_9 : decode cX10_areJoined 9 = .ok (.lconst 0, 1) := gX10_areJoined_0.2.2.2.2.2.2.2.1
theorem dX10_areJoined_10 : decode cX10_areJoined 10 = .ok (.lcmp, 1) := gX10_areJoined_0.2.2.2.2.2.2.2.2.1
theorem dX10_areJoined_11 : decode cX10_areJoined 11 = .ok (.ifCond .eq 35, 3) := gX10_areJoined_0.2.2.2.2.2.2.2.2.2.1
theorem dX10_areJoined_14 : decode cX10_areJoined 14 = .ok (.aload_n 0, 1) := gX10_areJoined_0.2.2.2.2.2.2.2.2.2.2.1
theorem dX10_areJoined_15 : decode cX10_areJoined 15 = .ok (.iload_n 1, 1) := gX10_areJoined_0.2.2.2.2.2.2.2.2.2.2.2
theorem gX10_areJoined_12 : (decode cX10_areJoined 16 = .ok (.iload_n 2, 1)) ∧ (decode cX10_areJoined 17 = .ok (.invokevirtual 385, 3)) ∧ (decode cX10_areJoined 20 = .ok (.iconst 1, 1)) ∧ (decode cX10_areJoined 21 = .ok (.if_icmp .ne 29, 3)) ∧ (decode cX10_areJoined 24 = .ok (.ldc2_w 388, 3)) ∧ (decode cX10_areJoined 27 = .ok (.lload_n 3, 1)) ∧ (decode cX10_areJoined 28 = .ok (.lmul, 1)) ∧ (decode cX10_areJoined 29 = .ok (.aload_n 0, 1)) ∧ (decode cX10_areJoined 30 = .ok (.iload_n 1, 1)) ∧ (decode cX10_areJoined 31 = .ok (.invokevirtual 184, 3)) ∧ (decode cX10_areJoined 34 = .ok (.i2l, 1)) ∧ (decode cX10_areJoined 35 = .ok (.aload_n 0, 1)) := by decide +kernel
theorem dX10_areJoined_16 : decode cX10_areJoined 16 = .ok (.iload_n 2, 1) := gX10_areJoined_12.1
theorem dX10_areJoined_17 : decode cX10_areJoined 17 = .ok (.invokevirtual 385, 3) := gX10_areJoined_12.2.1
theorem dX10_areJoined_20 : decode cX10_areJoined 20 = .ok (.iconst 1, 1) := gX10_areJoined_12.2.2.1
theorem dX10_areJoined_21 : decode cX10_areJoined 21 = .ok (.if_icmp .ne 29, 3) := gX10_areJoined_12.2.2.2.1
theorem dX10_areJoined_24 : decode cX10_areJoined 24 = .ok (.ldc2_w 388, 3) := gX10_areJoined_12.2.2.2.2.1
theorem dX10_areJoined_27 : decode cX10_areJoined 27 = .ok (.lload_n 3, 1) := gX10_areJoined_12.2.2.2.2.2.1
theorem dX10_areJoined_28 : decode cX10_areJoined 28 = .ok (.lmul, 1) := gX10_areJoined_12.2.2.2.2.2.2.1
theorem dX10_areJoined_29 : decode cX10_areJoined 29 = .ok (.aload_n 0, 1) := gX10_areJoined_12.2.2.2.2.2.2.2.1
theorem dX10_areJoined_30 : decode cX10_areJoined 30 = .ok (.iload_n 1, 1) := gX10_areJoined_12.2.2.2.2.2.2.2.2.1
theorem dX10_areJoined_31 : decode cX10_areJoined 31 = .ok (.invokevirtual 184, 3) := gX10_areJoined_12.2.2.2.2.2.2.2.2.2.1
theorem dX10_areJoined_34 : decode cX10_areJoined 34 = .ok (.i2l, 1) := gX10_areJoined_12.2.2.2.2.2.2.2.2.2.2.1
theorem dX10_areJoined_35 : decode cX10_areJoined 35 = .ok (.aload_n 0, 1) := gX10_areJoined_12.2.2.2.2.2.2.2.2.2.2.2
theorem gX10_areJoined_24 : (decode cX10_areJoined 36 = .ok (.iload_n 2, 1)) ∧ (decode cX10_areJoined 37 = .ok (.invokevirtual 184, 3)) ∧ (decode cX10_areJoined 40 = .ok (.i2l, 1)) ∧ (decode cX10_areJoined 41 = .ok (.lmul, 1)) ∧ (decode cX10_areJoined 42 = .ok (.lcmp, 1)) ∧ (decode cX10_areJoined 43 = .ok (.ifCond .gt 7, 3)) ∧ (decode cX10_areJoined 46 = .ok (.iconst 1, 1)) ∧ (decode cX10_areJoined 47 = .ok (.goto 4, 3)) ∧ (decode cX10_areJoined 50 = .ok (.iconst 0, 1)) ∧ (decode cX10_areJoined 51 = .ok (.ireturn, 1)) := by decide +kernel
theorem dX10_areJoined_36 : decode cX10_areJoined 36 = .ok (.iload_n 2, 1) := gX10_areJoined_24.1
theorem dX10_areJoined_37 : decode cX10_areJoined 37 = .ok (.invokevirtual 184, 3) := gX10_areJoined_24.2.1
theorem dX10_areJoined_40 : decode cX10_areJoined 40 = .ok (.i2l, 1) := gX10_areJoined_24.2.2.1
theorem dX10_areJoined_41 : decode cX10_areJoined 41 = .ok (.lmul, 1) := gX10_areJoined_24.2.2.2.1
theorem dX10_areJoined_42 : decode cX10_areJoined 42 = .ok (.lcmp, 1) := gX10_areJoined_24.2.2.2.2.1
theorem dX10_areJoined_43 : decode cX10_areJoined 43 = .ok (.ifCond .gt 7, 3) := gX10_areJoined_24.2.2.2.2.2.1
theorem dX10_areJoined_46 : decode cX10_areJoined 46 = .ok (.iconst 1, 1) := gX10_areJoined_24.2.2.2.2.2.2.1
theorem dX10_areJoined_47 : decode cX10_areJoined 47 = .ok (.goto 4, 3) := gX10_areJoined_24.2.2.2.2.2.2.2.1
theorem dX10_areJoined_50 : decode cX10_areJoined 50 = .ok (.iconst 0, 1) := gX10_areJoined_24.2.2.2.2.2.2.2.2.1
theorem dX10_areJoined_51 : decode cX10_areJoined 51 = .ok (.ireturn, 1) := gX10_areJoined_24.2.2.2.2.2.2.2.2.2
theorem gX10_ring_0 : (decode cX10_ring 0 = .ok (.aload_n 0, 1)) ∧ (decode cX10_ring 1 = .ok (.iload_n 1, 1)) ∧ (decode cX10_ring 2 = .ok (.invokevirtual 170, 3)) ∧ (decode cX10_ring 5 = .ok (.ifCond .eq 10, 3)) ∧ (decode cX10_ring 8 = .ok (.iload_n 2, 1)) ∧ (decode cX10_ring 9 = .ok (.invokestatic 166, 3)) ∧ (decode cX10_ring 12 = .ok (.ifCond .ne 9, 3)) ∧ (decode cX10_ring 15 = .ok (.aload_n 0, 1)) ∧ (decode cX10_ring 16 = .ok (.iconst (-1), 1)) ∧ (decode cX10_ring 17 = .ok (.invokevirtual 151, 3)) ∧ (decode cX10_ring 20 = .ok (.ireturn, 1)) ∧ (decode cX10_ring 21 = .ok (.aload_n 0, 1)) := by decide +kernel
theorem dX10_ring_0 : decode cX10_ring 0 = .ok (.aload_n 0, 1) := gX10_ring_0.1
theorem dX10_ring_1 : decode cX10_ring 1 = .ok (.iload_n 1, 1) := gX10_ring_0.2.1
theorem dX10_ring_2 : decode cX10_ring 2 = .ok (.invokevirtual 170, 3) := gX10_ring_0.2.2.1
theorem dX10_ring_5 : decode cX10_ring 5 = .ok (.ifCond .eq 10, 3) := gX10_ring_0.2.2.2.1
theorem dX10_ring_8 : decode cX10_ring 8 = .ok (.iload_n 2, 1) := gX10_ring_0.2.2.2.2.1
theorem dX10_ring_9 : decode cX10_ring 9 = .ok (.invokestatic 166, 3) := gX10_ring_0.2.2.2.2.2.1
theorem dX10_ring_12 : decode cX10_ring 12 = .ok (.ifCond .ne 9, 3) := gX10_ring_0.2.2.2.2.2.2.1
theorem dX10_ring_15 : decode cX10_ring 15 = .ok (.aload_n 0, 1) := gX10_ring_0.2.2.2.2.2.2.2.1
theorem dX10_ring_16 : decode cX10_ring 16 = .ok (.iconst (-1), 1) := gX10_ring_0.2.2.2.2.2.2.2.2.1
theorem dX10_ring_17 : decode cX10_ring 17 = .ok (.invokevirtual 151, 3) := gX10_ring_0.2.2.2.2.2.2.2.2.2.1
theorem dX10_ring_20 : decode cX10_ring 20 = .ok (.ireturn, 1) := gX10_ring_0.2.2.2.2.2.2.2.2.2.2.1
theorem dX10_ring_21 : decode cX10_ring 21 = .ok (.aload_n 0, 1) := gX10_ring_0.2.2.2.2.2.2.2.2.2.2.2
theorem gX10_ring_12 : (decode cX10_ring 22 = .ok (.getfield 20, 3)) ∧ (decode cX10_ring 25 = .ok (.bipush 8, 2)) ∧ (decode cX10_ring 27 = .ok (.iload_n 1, 1)) ∧ (decode cX10_ring 28 = .ok (.imul, 1)) ∧ (decode cX10_ring 29 = .ok (.iload_n 2, 1)) ∧ (decode cX10_ring 30 = .ok (.iadd, 1)) ∧ (decode cX10_ring 31 = .ok (.baload, 1)) ∧ (decode cX10_ring 32 = .ok (.ifCond .ne 10, 3)) ∧ (decode cX10_ring 35 = .ok (.aload_n 0, 1)) ∧ (decode cX10_ring 36 = .ok (.bipush (-5), 2)) ∧ (decode cX10_ring 38 = .ok (.invokevirtual 151, 3)) ∧ (decode cX10_ring 41 = .ok (.ireturn, 1)) := by decide +kernel
theorem dX10_ring_22 : decode cX10_ring 22 = .ok (.getfield 20, 3) := gX10_ring_12.1
theorem dX10_ring_25 : decode cX10_ring 25 = .ok (.bipush 8, 2) := gX10_ring_12.2.1
theorem dX10_ring_27 : decode cX10_ring 27 = .ok (.iload_n 1, 1) := gX10_ring_12.2.2.1
theorem dX10_ring_28 : decode cX10_ring 28 = .ok (.imul, 1) := gX10_ring_12.2.2.2.1
theorem dX10_ring_29 : decode cX10_ring 29 = .ok (.iload_n 2, 1) := gX10_ring_12.2.2.2.2.1
theorem dX10_ring_30 : decode cX10_ring 30 = .ok (.iadd, 1) := gX10_ring_12.2.2.2.2.2.1
theorem dX10_ring_31 : decode cX10_ring 31 = .ok (.baload, 1) := gX10_ring_12.2.2.2.2.2.2.1
theorem dX10_ring_32 : decode cX10_ring 32 = .ok (.ifCond .ne 10, 3) := gX10_ring_12.2.2.2.2.2.2.2.1
theorem dX10_ring_35 : decode cX10_ring 35 = .ok (.aload_n 0, 1) := gX10_ring_12.2.2.2.2.2.2.2.2.1
theorem dX10_ring_36 : decode cX10_ring 36 = .ok (.bipush (-5), 2) := gX10_ring_12.2.2.2.2.2.2.2.2.2.1
theorem dX10_ring_38 : decode cX10_ring 38 = .ok (.invokevirtual 151, 3) := gX10_ring_12.2.2.2.2.2.2.2.2.2.2.1
theorem dX10_ring_41 : decode cX10_ring 41 = .ok (.ireturn, 1) := gX10_ring_12.2.2.2.2.2.2.2.2.2.2.2
theorem gX10_ring_24 : (decode cX10_ring 42 = .ok (.iconst 0, 1)) ∧ (decode cX10_ring 43 = .ok (.istore_n 3, 1)) ∧ (decode cX10_ring 44 = .ok (.iload_n 3, 1)) ∧ (decode cX10_ring 45 = .ok (.bipush 8, 2)) ∧ (decode cX10_ring 47 = .ok (.if_icmp .ge 16, 3)) ∧ (decode cX10_ring 50 = .ok (.aload_n 0, 1)) ∧ (decode cX10_ring 51 = .ok (.getfield 124, 3)) ∧ (decode cX10_ring 54 = .ok (.iload_n 3, 1)) ∧ (decode cX10_ring 55 = .ok (.iload_n 3, 1)) ∧ (decode cX10_ring 56 = .ok (.iastore, 1)) ∧ (decode cX10_ring 57 = .ok (.iinc 3 1, 3)) ∧ (decode cX10_ring 60 = .ok (.goto (-16), 3)) := by decide +kernel
theorem dX10_ring_42 : decode cX10_ring 42 = .ok (.iconst 0, 1) := gX10_ring_24.1
theorem dX10_ring_43 : decode cX10_ring 43 = .ok (.istore_n 3, 1) := gX10_ring_24.2.1
theorem dX10_ring_44 : decode cX10_ring 44 = .ok (.iload_n 3, 1) := gX10_ring_24.2.2.1
theorem dX10_ring_45 : decode cX10_ring 45 = .ok (.bipush 8, 2) := gX10_ring_24.2.2.2.1
theorem dX10_ring_47 : decode cX10_ring 47 = .ok (.if_icmp .ge 16, 3) := gX10_ring_24.2.2.2.2.1
theorem dX10_ring_50 : decode cX10_ring 50 = .ok (.aload_n 0, 1) := gX10_ring_24.2.2.2.2.2.1
theorem dX10_ring_51 : decode cX10_ring 51 = .ok (.getfield 124, 3) := gX10_ring_24.2.2.2.2.2.2.1
theorem dX10_ring_54 : decode cX10_ring 54 = .ok (.iload_n 3, 1) := gX10_ring_24.2.2.2.2.2.2.2.1
theorem dX10_ring_55 : decode cX10_ring 55 = .ok (.iload_n 3, 1) := gX10_ring_24.2.2.2.2.2.2.2.2.1
theorem dX10_ring_56 : decode cX10_ring 56 = .ok (.iastore, 1) := gX10_ring_24.2.2.2.2.2.2.2.2.2.1
theorem dX10_ring_57 : decode cX10_ring 57 = .ok (.iinc 3 1, 3) := gX10_ring_24.2.2.2.2.2.2.2.2.2.2.1
theorem dX10_ring_60 : decode cX10_ring 60 = .ok (.goto (-16), 3) := gX10_ring_24.2.2.2.2.2.2.2.2.2.2.2
theorem gX10_ring_36 : (decode cX10_ring 63 = .ok (.iconst 1, 1)) ∧ (decode cX10_ring 64 = .ok (.istore_n 3, 1)) ∧ (decode cX10_ring 65 = .ok (.iload_n 3, 1)) ∧ (decode cX10_ring 66 = .ok (.ifCond .eq 143, 3)) ∧ (decode cX10_ring 69 = .ok (.iconst 0, 1)) ∧ (decode cX10_ring 70 = .ok (.istore_n 3, 1)) ∧ (decode cX10_ring 71 = .ok (.iconst 0, 1)) ∧ (decode cX10_ring 72 = .ok (.istore 4, 2)) ∧ (decode cX10_ring 74 = .ok (.iload 4, 2)) ∧ (decode cX10_ring 76 = .ok (.bipush 8, 2)) ∧ (decode cX10_ring 78 = .ok (.if_icmp .ge 128, 3)) ∧ (decode cX10_ring 81 = .ok (.iconst 0, 1)) := by decide +kernel
theorem dX10_ring_63 : decode cX10_ring 63 = .ok (.iconst 1, 1) := gX10_ring_36.1
theorem dX10_ring_64 : decode cX10_ring 64 = .ok (.istore_n 3, 1) := gX10_ring_36.2.1
theorem dX10_ring_65 : decode cX10_ring 65 = .ok (.iload_n 3, 1) := gX10_ring_36.2.2.1
theorem dX10_ring_66 : decode cX10_ring 66 = .ok (.ifCond .eq 143, 3) := gX10_ring_36.2.2.2.1
theorem dX10_ring_69 : decode cX10_ring 69 = .ok (.iconst 0, 1) := gX10_ring_36.2.2.2.2.1
theorem dX10_ring_70 : decode cX10_ring 70 = .ok (.istore_n 3, 1) := gX10_ring_36.2.2.2.2.2.1
theorem dX10_ring_71 : decode cX10_ring 71 = .ok (.iconst 0, 1) := gX10_ring_36.2.2.2.2.2.2.1
theorem dX10_ring_72 : decode cX10_ring 72 = .ok (.istore 4, 2) := gX10_ring_36.2.2.2.2.2.2.2.1
theorem dX10_ring_74 : decode cX10_ring 74 = .ok (.iload 4, 2) := gX10_ring_36.2.2.2.2.2.2.2.2.1
theorem dX10_ring_76 : decode cX10_ring 76 = .ok (.bipush 8, 2) := gX10_ring_36.2.2.2.2.2.2.2.2.2.1
theorem dX10_ring_78 : decode cX10_ring 78 = .ok (.if_icmp .ge 128, 3) := gX10_ring_36.2.2.2.2.2.2.2.2.2.2.1
theorem dX10_ring_81 : decode cX10_ring 81 = .ok (.iconst 0, 1) := gX10_ring_36.2.2.2.2.2.2.2.2.2.2.2
theorem gX10_ring_48 : (decode cX10_ring 82 = .ok (.istore 5, 2)) ∧ (decode cX10_ring 84 = .ok (.iload 5, 2)) ∧ (decode cX10_ring 86 = .ok (.bipush 8, 2)) ∧ (decode cX10_ring 88 = .ok (.if_icmp .ge 112, 3)) ∧ (decode cX10_ring 91 = .ok (.iload 4, 2)) ∧ (decode cX10_ring 93 = .ok (.iload 5, 2)) ∧ (decode cX10_ring 95 = .ok (.if_icmp .eq 37, 3)) ∧ (decode cX10_ring 98 = .ok (.aload_n 0, 1)) ∧ (decode cX10_ring 99 = .ok (.getfield 20, 3)) ∧ (decode cX10_ring 102 = .ok (.bipush 8, 2)) ∧ (decode cX10_ring 104 = .ok (.iload_n 1, 1)) ∧ (decode cX10_ring 105 = .ok (.imul, 1)) := by decide +kernel
theorem dX10_ring_82 : decode cX10_ring 82 = .ok (.istore 5, 2) := gX10_ring_48.1
theorem dX10_ring_84 : decode cX10_ring 84 = .ok (.iload 5, 2) := gX10_ring_48.2.1
theorem dX10_ring_86 : decode cX10_ring 86 = .ok (.bipush 8, 2) := gX10_ring_48.2.2.1
theorem dX10_ring_88 : decode cX10_ring 88 = .ok (.if_icmp .ge 112, 3) := gX10_ring_48.2.2.2.1
theorem dX10_ring_91 : decode cX10_ring 91 = .ok (.iload 4, 2) := gX10_ring_48.2.2.2.2.1
theorem dX10_ring_93 : decode cX10_ring 93 = .ok (.iload 5, 2) := gX10_ring_48.2.2.2.2.2.1
theorem dX10_ring_95 : decode cX10_ring 95 = .ok (.if_icmp .eq 37, 3) := gX10_ring_48.2.2.2.2.2.2.1
theorem dX10_ring_98 : decode cX10_ring 98 = .ok (.aload_n 0, 1) := gX10_ring_48.2.2.2.2.2.2.2.1
theorem dX10_ring_99 : decode cX10_ring 99 = .ok (.getfield 20, 3) := gX10_ring_48.2.2.2.2.2.2.2.2.1
theorem dX10_ring_102 : decode cX10_ring 102 = .ok (.bipush 8, 2) := gX10_ring_48.2.2.2.2.2.2.2.2.2.1
theorem dX10_ring_104 : decode cX10_ring 104 = .ok (.iload_n 1, 1) := gX10_ring_48.2.2.2.2.2.2.2.2.2.2.1
theorem dX10_ring_105 : decode cX10_ring 105 = .ok (.imul, 1) := gX10_ring_48.2.2.2.2.2.2.2.2.2.2.2
theorem gX10_ring_60 : (decode cX10_ring 106 = .ok (.iload 4, 2)) ∧ (decode cX10_ring 108 = .ok (.iadd, 1)) ∧ (decode cX10_ring 109 = .ok (.baload, 1)) ∧ (decode cX10_ring 110 = .ok (.ifCond .eq 22, 3)) ∧ (decode cX10_ring 113 = .ok (.aload_n 0, 1)) ∧ (decode cX10_ring 114 = .ok (.getfield 20, 3)) ∧ (decode cX10_ring 117 = .ok (.bipush 8, 2)) ∧ (decode cX10_ring 119 = .ok (.iload_n 1, 1)) ∧ (decode cX10_ring 120 = .ok (.imul, 1)) ∧ (decode cX10_ring 121 = .ok (.iload 5, 2)) ∧ (decode cX10_ring 123 = .ok (.iadd, 1)) ∧ (decode cX10_ring 124 = .ok (.baload, 1)) := by decide +kernel
theorem dX10_ring_106 : decode cX10_ring 106 = .ok (.iload 4, 2) := gX10_ring_60.1
theorem dX10_ring_108 : decode cX10_ring 108 = .ok (.iadd, 1) := gX10_ring_60.2.1
theorem dX10_ring_109 : decode cX10_ring 109 = .ok (.baload, 1) := gX10_ring_60.2.2.1
theorem dX10_ring_110 : decode cX10_ring 110 = .ok (.ifCond .eq 22, 3) := gX10_ring_60.2.2.2.1
theorem dX10_ring_113 : decode cX10_ring 113 = .ok (.aload_n 0, 1) := gX10_ring_60.2.2.2.2.1
theorem dX10_ring_114 : decode cX10_ring 114 = .ok (.getfield 20, 3) := gX10_ring_60.2.2.2.2.2.1
theorem dX10_ring_117 : decode cX10_ring 117 = .ok (.bipush 8, 2) := gX10_ring_60.2.2.2.2.2.2.1
theorem dX10_ring_119 : decode cX10_ring 119 = .ok (.iload_n 1, 1) := gX10_ring_60.2.2.2.2.2.2.2.1
theorem dX10_ring_120 : decode cX10_ring 120 = .ok (.imul, 1) := gX10_ring_60.2.2.2.2.2.2.2.2.1
theorem dX10_ring_121 : decode cX10_ring 121 = .ok (.iload 5, 2) := gX10_ring_60.2.2.2.2.2.2.2.2.2.1
theorem dX10_ring_123 : decode cX10_ring 123 = .ok (.iadd, 1) := gX10_ring_60.2.2.2.2.2.2.2.2.2.2.1
theorem dX10_ring_124 : decode cX10_ring 124 = .ok (.baload, 1) := gX10_ring_60.2.2.2.2.2.2.2.2.2.2.2
theorem gX10_ring_72 : (decode cX10_ring 125 = .ok (.ifCond .eq 7, 3)) ∧ (decode cX10_ring 128 = .ok (.iconst 1, 1)) ∧ (decode cX10_ring 129 = .ok (.goto 4, 3)) ∧ (decode cX10_ring 132 = .ok (.iconst 0, 1)) ∧ (decode cX10_ring 133 = .ok (.istore 6, 2)) ∧ (decode cX10_ring 135 = .ok (.iload 6, 2)) ∧ (decode cX10_ring 137 = .ok (.ifCond .eq 57, 3)) ∧ (decode cX10_ring 140 = .ok (.aload_n 0, 1)) ∧ (decode cX10_ring 141 = .ok (.getfield 124, 3)) ∧ (decode cX10_ring 144 = .ok (.iload 4, 2)) ∧ (decode cX10_ring 146 = .ok (.iaload, 1)) ∧ (decode cX10_ring 147 = .ok (.aload_n 0, 1)) := by decide +kernel
theorem dX10_ring_125 : decode cX10_ring 125 = .ok (.ifCond .eq 7, 3) := gX10_ring_72.1
theorem dX10_ring_128 : decode cX10_ring 128 = .ok (.iconst 1, 1) := gX10_ring_72.2.1
theorem dX10_ring_129 : decode cX10_ring 129 = .ok (.goto 4, 3) := gX10_ring_72.2.2.1
theorem dX10_ring_132 : decode cX10_ring 132 = .ok (.iconst 0, 1) := gX10_ring_72.2.2.2.1
theorem dX10_ring_133 : decode cX10_ring 133 = .ok (.istore 6, 2) := gX10_ring_72.2.2.2.2.1
theorem dX10_ring_135 : decode cX10_ring 135 = .ok (.iload 6, 2) := gX10_ring_72.2.2.2.2.2.1
theorem dX10_ring_137 : decode cX10_ring 137 = .ok (.ifCond .eq 57, 3) := gX10_ring_72.2.2.2.2.2.2.1
theorem dX10_ring_140 : decode cX10_ring 140 = .ok (.aload_n 0, 1) := gX10_ring_72.2.2.2.2.2.2.2.1
theorem dX10_ring_141 : decode cX10_ring 141 = .ok (.getfield 124, 3) := gX10_ring_72.2.2.2.2.2.2.2.2.1
theorem dX10_ring_144 : decode cX10_ring 144 = .ok (.iload 4, 2) := gX10_ring_72.2.2.2.2.2.2.2.2.2.1
theorem dX10_ring_146 : decode cX10_ring 146 = .ok (.iaload, 1) := gX10_ring_72.2.2.2.2.2.2.2.2.2.2.1
theorem dX10_ring_147 : decode cX10_ring 147 = .ok (.aload_n 0, 1) := gX10_ring_72.2.2.2.2.2.2.2.2.2.2.2
theorem gX10_ring_84 : (decode cX10_ring 148 = .ok (.getfield 124, 3)) ∧ (decode cX10_ring 151 = .ok (.iload 5, 2)) ∧ (decode cX10_ring 153 = .ok (.iaload, 1)) ∧ (decode cX10_ring 154 = .ok (.if_icmp .ge 40, 3)) ∧ (decode cX10_ring 157 = .ok (.aload_n 0, 1)) ∧ (decode cX10_ring 158 = .ok (.bipush 8, 2)) ∧ (decode cX10_ring 160 = .ok (.iload_n 1, 1)) ∧ (decode cX10_ring 161 = .ok (.imul, 1)) ∧ (decode cX10_ring 162 = .ok (.iload 4, 2)) ∧ (decode cX10_ring 164 = .ok (.iadd, 1)) ∧ (decode cX10_ring 165 = .ok (.bipush 8, 2)) ∧ (decode cX10_ring 167 = .ok (.iload_n 1, 1)) := by decide +kernel
theorem dX10_ring_148 : decode cX10_ring 148 = .ok (.getfield 124, 3) := gX10_ring_84.1
theorem dX10_ring_151 : decode cX10_ring 151 = .ok (.iload 5, 2) := gX10_ring_84.2.1
theorem dX10_ring_153 : decode cX10_ring 153 = .ok (.iaload, 1) := gX10_ring_84.2.2.1
theorem dX10_ring_154 : decode cX10_ring 154 = .ok (.if_icmp .ge 40, 3) := gX10_ring_84.2.2.2.1
theorem dX10_ring_157 : decode cX10_ring 157 = .ok (.aload_n 0, 1) := gX10_ring_84.2.2.2.2.1
theorem dX10_ring_158 : decode cX10_ring 158 = .ok (.bipush 8, 2) := gX10_ring_84.2.2.2.2.2.1
theorem dX10_ring_160 : decode cX10_ring 160 = .ok (.iload_n 1, 1) := gX10_ring_84.2.2.2.2.2.2.1
theorem dX10_ring_161 : decode cX10_ring 161 = .ok (.imul, 1) := gX10_ring_84.2.2.2.2.2.2.2.1
theorem dX10_ring_162 : decode cX10_ring 162 = .ok (.iload 4, 2) := gX10_ring_84.2.2.2.2.2.2.2.2.1
theorem dX10_ring_164 : decode cX10_ring 164 = .ok (.iadd, 1) := gX10_ring_84.2.2.2.2.2.2.2.2.2.1
theorem dX10_ring_165 : decode cX10_ring 165 = .ok (.bipush 8, 2) := gX10_ring_84.2.2.2.2.2.2.2.2.2.2.1
theorem dX10_ring_167 : decode cX10_ring 167 = .ok (.iload_n 1, 1) := gX10_ring_84.2.2.2.2.2.2.2.2.2.2.2
theorem gX10_ring_96 : (decode cX10_ring 168 = .ok (.imul, 1)) ∧ (decode cX10_ring 169 = .ok (.iload 5, 2)) ∧ (decode cX10_ring 171 = .ok (.iadd, 1)) ∧ (decode cX10_ring 172 = .ok (.invokevirtual 390, 3)) ∧ (decode cX10_ring 175 = .ok (.ifCond .eq 19, 3)) ∧ (decode cX10_ring 178 = .ok (.aload_n 0, 1)) ∧ (decode cX10_ring 179 = .ok (.getfield 124, 3)) ∧ (decode cX10_ring 182 = .ok (.iload 5, 2)) ∧ (decode cX10_ring 184 = .ok (.aload_n 0, 1)) ∧ (decode cX10_ring 185 = .ok (.getfield 124, 3)) ∧ (decode cX10_ring 188 = .ok (.iload 4, 2)) ∧ (decode cX10_ring 190 = .ok (.iaload, 1)) := by decide +kernel
theorem dX10_ring_168 : decode cX10_ring 168 = .ok (.imul, 1) := gX10_ring_96.1
theorem dX10_ring_169 : decode cX10_ring 169 = .ok (.iload 5, 2) := gX10_ring_96.2.1
theorem dX10_ring_171 : decode cX10_ring 171 = .ok (.iadd, 1) := gX10_ring_96.2.2.1
theorem dX10_ring_172 : decode cX10_ring 172 = .ok (.invokevirtual 390, 3) := gX10_ring_96.2.2.2.1
theorem dX10_ring_175 : decode cX10_ring 175 = .ok (.ifCond .eq 19, 3) := gX10_ring_96.2.2.2.2.1
theorem dX10_ring_178 : decode cX10_ring 178 = .ok (.aload_n 0, 1) := gX10_ring_96.2.2.2.2.2.1
theorem dX10_ring_179 : decode cX10_ring 179 = .ok (.getfield 124, 3) := gX10_ring_96.2.2.2.2.2.2.1
theorem dX10_ring_182 : decode cX10_ring 182 = .ok (.iload 5, 2) := gX10_ring_96.2.2.2.2.2.2.2.1
theorem dX10_ring_184 : decode cX10_ring 184 = .ok (.aload_n 0, 1) := gX10_ring_96.2.2.2.2.2.2.2.2.1
theorem dX10_ring_185 : decode cX10_ring 185 = .ok (.getfield 124, 3) := gX10_ring_96.2.2.2.2.2.2.2.2.2.1
theorem dX10_ring_188 : decode cX10_ring 188 = .ok (.iload 4, 2) := gX10_ring_96.2.2.2.2.2.2.2.2.2.2.1
theorem dX10_ring_190 : decode cX10_ring 190 = .ok (.iaload, 1) := gX10_ring_96.2.2.2.2.2.2.2.2.2.2.2
theorem gX10_ring_108 : (decode cX10_ring 191 = .ok (.iastore, 1)) ∧ (decode cX10_ring 192 = .ok (.iconst 1, 1)) ∧ (decode cX10_ring 193 = .ok (.istore_n 3, 1)) ∧ (decode cX10_ring 194 = .ok (.iinc 5 1, 3)) ∧ (decode cX10_ring 197 = .ok (.goto (-113), 3)) ∧ (decode cX10_ring 200 = .ok (.iinc 4 1, 3)) ∧ (decode cX10_ring 203 = .ok (.goto (-129), 3)) ∧ (decode cX10_ring 206 = .ok (.goto (-141), 3)) ∧ (decode cX10_ring 209 = .ok (.aload_n 0, 1)) ∧ (decode cX10_ring 210 = .ok (.getfield 124, 3)) ∧ (decode cX10_ring 213 = .ok (.iload_n 2, 1)) ∧ (decode cX10_ring 214 = .ok (.iaload, 1)) := by decide +kernel
theorem dX10_ring_191 : decode cX10_ring 191 = .ok (.iastore, 1) := gX10_ring_108.1
theorem dX10_ring_192 : decode cX10_ring 192 = .ok (.iconst 1, 1) := gX10_ring_108.2.1
theorem dX10_ring_193 : decode cX10_ring 193 = .ok (.istore_n 3, 1) := gX10_ring_108.2.2.1
theorem dX10_ring_194 : decode cX10_ring 194 = .ok (.iinc 5 1, 3) := gX10_ring_108.2.2.2.1
theorem dX10_ring_197 : decode cX10_ring 197 = .ok (.goto (-113), 3) := gX10_ring_108.2.2.2.2.1
theorem dX10_ring_200 : decode cX10_ring 200 = .ok (.iinc 4 1, 3) := gX10_ring_108.2.2.2.2.2.1
theorem dX10_ring_203 : decode cX10_ring 203 = .ok (.goto (-129), 3) := gX10_ring_108.2.2.2.2.2.2.1
theorem dX10_ring_206 : decode cX10_ring 206 = .ok (.goto (-141), 3) := gX10_ring_108.2.2.2.2.2.2.2.1
theorem dX10_ring_209 : decode cX10_ring 209 = .ok (.aload_n 0, 1) := gX10_ring_108.2.2.2.2.2.2.2.2.1
theorem dX10_ring_210 : decode cX10_ring 210 = .ok (.getfield 124, 3) := gX10_ring_108.2.2.2.2.2.2.2.2.2.1
theorem dX10_ring_213 : decode cX10_ring 213 = .ok (.iload_n 2, 1) := gX10_ring_108.2.2.2.2.2.2.2.2.2.2.1
theorem dX10_ring_214 : decode cX10_ring 214 = .ok (.iaload, 1) := gX10_ring_108.2.2.2.2.2.2.2.2.2.2.2
theorem gX10_ring_120 : (decode cX10_ring 215 = .ok (.ireturn, 1)) := by decide +kernel
theorem dX10_ring_215 : decode cX10_ring 215 = .ok (.ireturn, 1) := gX10_ring_120
theorem gX10_memberOf_0 : (decode cX10_memberOf 0 = .ok (.iconst 0, 1)) ∧ (decode cX10_memberOf 1 = .ok (.istore_n 2, 1)) ∧ (decode cX10_memberOf 2 = .ok (.iload_n 2, 1)) ∧ (decode cX10_memberOf 3 = .ok (.aload_n 0, 1)) ∧ (decode cX10_memberOf 4 = .ok (.getfield 394, 3)) ∧ (decode cX10_memberOf 7 = .ok (.if_icmp .ge 21, 3)) ∧ (decode cX10_memberOf 10 = .ok (.aload_n 0, 1)) ∧ (decode cX10_memberOf 11 = .ok (.getfield 127, 3)) ∧ (decode cX10_memberOf 14 = .ok (.iload_n 2, 1)) ∧ (decode cX10_memberOf 15 = .ok (.iaload, 1)) ∧ (decode cX10_memberOf 16 = .ok (.iload_n 1, 1)) ∧ (decode cX10_memberOf 17 = .ok (.if_icmp .ne 5, 3)) := by decide +kernel
theorem dX10_memberOf_0 : decode cX10_memberOf 0 = .ok (.iconst 0, 1) := gX10_memberOf_0.1
theorem dX10_memberOf_1 : decode cX10_memberOf 1 = .ok (.istore_n 2, 1) := gX10_memberOf_0.2.1
theorem dX10_memberOf_2 : decode cX10_memberOf 2 = .ok (.iload_n 2, 1) := gX10_memberOf_0.2.2.1
theorem dX10_memberOf_3 : decode cX10_memberOf 3 = .ok (.aload_n 0, 1) := gX10_memberOf_0.2.2.2.1
theorem dX10_memberOf_4 : decode cX10_memberOf 4 = .ok (.getfield 394, 3) := gX10_memberOf_0.2.2.2.2.1
theorem dX10_memberOf_7 : decode cX10_memberOf 7 = .ok (.if_icmp .ge 21, 3) := gX10_memberOf_0.2.2.2.2.2.1
theorem dX10_memberOf_10 : decode cX10_memberOf 10 = .ok (.aload_n 0, 1) := gX10_memberOf_0.2.2.2.2.2.2.1
theorem dX10_memberOf_11 : decode cX10_memberOf 11 = .ok (.getfield 127, 3) := gX10_memberOf_0.2.2.2.2.2.2.2.1
theorem dX10_memberOf_14 : decode cX10_memberOf 14 = .ok (.iload_n 2, 1) := gX10_memberOf_0.2.2.2.2.2.2.2.2.1
theorem dX10_memberOf_15 : decode cX10_memberOf 15 = .ok (.iaload, 1) := gX10_memberOf_0.2.2.2.2.2.2.2.2.2.1
theorem dX10_memberOf_16 : decode cX10_memberOf 16 = .ok (.iload_n 1, 1) := gX10_memberOf_0.2.2.2.2.2.2.2.2.2.2.1
theorem dX10_memberOf_17 : decode cX10_memberOf 17 = .ok (.if_icmp .ne 5, 3) := gX10_memberOf_0.2.2.2.2.2.2.2.2.2.2.2
theorem gX10_memberOf_12 : (decode cX10_memberOf 20 = .ok (.iload_n 2, 1)) ∧ (decode cX10_memberOf 21 = .ok (.ireturn, 1)) ∧ (decode cX10_memberOf 22 = .ok (.iinc 2 1, 3)) ∧ (decode cX10_memberOf 25 = .ok (.goto (-23), 3)) ∧ (decode cX10_memberOf 28 = .ok (.iconst (-1), 1)) ∧ (decode cX10_memberOf 29 = .ok (.ireturn, 1)) := by decide +kernel
theorem dX10_memberOf_20 : decode cX10_memberOf 20 = .ok (.iload_n 2, 1) := gX10_memberOf_12.1
theorem dX10_memberOf_21 : decode cX10_memberOf 21 = .ok (.ireturn, 1) := gX10_memberOf_12.2.1
theorem dX10_memberOf_22 : decode cX10_memberOf 22 = .ok (.iinc 2 1, 3) := gX10_memberOf_12.2.2.1
theorem dX10_memberOf_25 : decode cX10_memberOf 25 = .ok (.goto (-23), 3) := gX10_memberOf_12.2.2.2.1
theorem dX10_memberOf_28 : decode cX10_memberOf 28 = .ok (.iconst (-1), 1) := gX10_memberOf_12.2.2.2.2.1
theorem dX10_memberOf_29 : decode cX10_memberOf 29 = .ok (.ireturn, 1) := gX10_memberOf_12.2.2.2.2.2
theorem gX10_join_0 : (decode cX10_join 0 = .ok (.iload_n 1, 1)) ∧ (decode cX10_join 1 = .ok (.invokestatic 166, 3)) ∧ (decode cX10_join 4 = .ok (.ifCond .ne 9, 3)) ∧ (decode cX10_join 7 = .ok (.aload_n 0, 1)) ∧ (decode cX10_join 8 = .ok (.iconst (-1), 1)) ∧ (decode cX10_join 9 = .ok (.invokevirtual 151, 3)) ∧ (decode cX10_join 12 = .ok (.ireturn, 1)) ∧ (decode cX10_join 13 = .ok (.aload_n 0, 1)) ∧ (decode cX10_join 14 = .ok (.iload_n 1, 1)) ∧ (decode cX10_join 15 = .ok (.invokevirtual 397, 3)) ∧ (decode cX10_join 18 = .ok (.ifCond .lt 10, 3)) ∧ (decode cX10_join 21 = .ok (.aload_n 0, 1)) := by decide +kernel
theorem dX10_join_0 : decode cX10_join 0 = .ok (.iload_n 1, 1) := gX10_join_0.1
theorem dX10_join_1 : decode cX10_join 1 = .ok (.invokestatic 166, 3) := gX10_join_0.2.1
theorem dX10_join_4 : decode cX10_join 4 = .ok (.ifCond .ne 9, 3) := gX10_join_0.2.2.1
theorem dX10_join_7 : decode cX10_join 7 = .ok (.aload_n 0, 1) := gX10_join_0.2.2.2.1
theorem dX10_join_8 : decode cX10_join 8 = .ok (.iconst (-1), 1) := gX10_join_0.2.2.2.2.1
theorem dX10_join_9 : decode cX10_join 9 = .ok (.invokevirtual 151, 3) := gX10_join_0.2.2.2.2.2.1
theorem dX10_join_12 : decode cX10_join 12 = .ok (.ireturn, 1) := gX10_join_0.2.2.2.2.2.2.1
theorem dX10_join_13 : decode cX10_join 13 = .ok (.aload_n 0, 1) := gX10_join_0.2.2.2.2.2.2.2.1
theorem dX10_join_14 : decode cX10_join 14 = .ok (.iload_n 1, 1) := gX10_join_0.2.2.2.2.2.2.2.2.1
theorem dX10_join_15 : decode cX10_join 15 = .ok (.invokevirtual 397, 3) := gX10_join_0.2.2.2.2.2.2.2.2.2.1
theorem dX10_join_18 : decode cX10_join 18 = .ok (.ifCond .lt 10, 3) := gX10_join_0.2.2.2.2.2.2.2.2.2.2.1
theorem dX10_join_21 : decode cX10_join 21 = .ok (.aload_n 0, 1) := gX10_join_0.2.2.2.2.2.2.2.2.2.2.2
theorem gX10_join_12 : (decode cX10_join 22 = .ok (.bipush (-3), 2)) ∧ (decode cX10_join 24 = .ok (.invokevirtual 151, 3)) ∧ (decode cX10_join 27 = .ok (.ireturn, 1)) ∧ (decode cX10_join 28 = .ok (.iload_n 2, 1)) ∧ (decode cX10_join 29 = .ok (.iconst 1, 1)) ∧ (decode cX10_join 30 = .ok (.if_icmp .ge 10, 3)) ∧ (decode cX10_join 33 = .ok (.aload_n 0, 1)) ∧ (decode cX10_join 34 = .ok (.bipush (-4), 2)) ∧ (decode cX10_join 36 = .ok (.invokevirtual 151, 3)) ∧ (decode cX10_join 39 = .ok (.ireturn, 1)) ∧ (decode cX10_join 40 = .ok (.iload_n 2, 1)) ∧ (decode cX10_join 41 = .ok (.sipush 999, 3)) := by decide +kernel
theorem dX10_join_22 : decode cX10_join 22 = .ok (.bipush (-3), 2) := gX10_join_12.1
theorem dX10_join_24 : decode cX10_join 24 = .ok (.invokevirtual 151, 3) := gX10_join_12.2.1
theorem dX10_join_27 : decode cX10_join 27 = .ok (.ireturn, 1) := gX10_join_12.2.2.1
theorem dX10_join_28 : decode cX10_join 28 = .ok (.iload_n 2, 1) := gX10_join_12.2.2.2.1
theorem dX10_join_29 : decode cX10_join 29 = .ok (.iconst 1, 1) := gX10_join_12.2.2.2.2.1
theorem dX10_join_30 : decode cX10_join 30 = .ok (.if_icmp .ge 10, 3) := gX10_join_12.2.2.2.2.2.1
theorem dX10_join_33 : decode cX10_join 33 = .ok (.aload_n 0, 1) := gX10_join_12.2.2.2.2.2.2.1
theorem dX10_join_34 : decode cX10_join 34 = .ok (.bipush (-4), 2) := gX10_join_12.2.2.2.2.2.2.2.1
theorem dX10_join_36 : decode cX10_join 36 = .ok (.invokevirtual 151, 3) := gX10_join_12.2.2.2.2.2.2.2.2.1
theorem dX10_join_39 : decode cX10_join 39 = .ok (.ireturn, 1) := gX10_join_12.2.2.2.2.2.2.2.2.2.1
theorem dX10_join_40 : decode cX10_join 40 = .ok (.iload_n 2, 1) := gX10_join_12.2.2.2.2.2.2.2.2.2.2.1
theorem dX10_join_41 : decode cX10_join 41 = .ok (.sipush 999, 3) := gX10_join_12.2.2.2.2.2.2.2.2.2.2.2
theorem gX10_join_24 : (decode cX10_join 44 = .ok (.if_icmp .le 10, 3)) ∧ (decode cX10_join 47 = .ok (.aload_n 0, 1)) ∧ (decode cX10_join 48 = .ok (.bipush (-6), 2)) ∧ (decode cX10_join 50 = .ok (.invokevirtual 151, 3)) ∧ (decode cX10_join 53 = .ok (.ireturn, 1)) ∧ (decode cX10_join 54 = .ok (.aload_n 0, 1)) ∧ (decode cX10_join 55 = .ok (.getfield 127, 3)) ∧ (decode cX10_join 58 = .ok (.aload_n 0, 1)) ∧ (decode cX10_join 59 = .ok (.getfield 394, 3)) ∧ (decode cX10_join 62 = .ok (.iload_n 1, 1)) ∧ (decode cX10_join 63 = .ok (.iastore, 1)) ∧ (decode cX10_join 64 = .ok (.aload_n 0, 1)) := by decide +kernel
theorem dX10_join_44 : decode cX10_join 44 = .ok (.if_icmp .le 10, 3) := gX10_join_24.1
theorem dX10_join_47 : decode cX10_join 47 = .ok (.aload_n 0, 1) := gX10_join_24.2.1
theorem dX10_join_48 : decode cX10_join 48 = .ok (.bipush (-6), 2) := gX10_join_24.2.2.1
theorem dX10_join_50 : decode cX10_join 50 = .ok (.invokevirtual 151, 3) := gX10_join_24.2.2.2.1
theorem dX10_join_53 : decode cX10_join 53 = .ok (.ireturn, 1) := gX10_join_24.2.2.2.2.1
theorem dX10_join_54 : decode cX10_join 54 = .ok (.aload_n 0, 1) := gX10_join_24.2.2.2.2.2.1
theorem dX10_join_55 : decode cX10_join 55 = .ok (.getfield 127, 3) := gX10_join_24.2.2.2.2.2.2.1
theorem dX10_join_58 : decode cX10_join 58 = .ok (.aload_n 0, 1) := gX10_join_24.2.2.2.2.2.2.2.1
theorem dX10_join_59 : decode cX10_join 59 = .ok (.getfield 394, 3) := gX10_join_24.2.2.2.2.2.2.2.2.1
theorem dX10_join_62 : decode cX10_join 62 = .ok (.iload_n 1, 1) := gX10_join_24.2.2.2.2.2.2.2.2.2.1
theorem dX10_join_63 : decode cX10_join 63 = .ok (.iastore, 1) := gX10_join_24.2.2.2.2.2.2.2.2.2.2.1
theorem dX10_join_64 : decode cX10_join 64 = .ok (.aload_n 0, 1) := gX10_join_24.2.2.2.2.2.2.2.2.2.2.2
theorem gX10_join_36 : (decode cX10_join 65 = .ok (.getfield 130, 3)) ∧ (decode cX10_join 68 = .ok (.aload_n 0, 1)) ∧ (decode cX10_join 69 = .ok (.getfield 394, 3)) ∧ (decode cX10_join 72 = .ok (.iload_n 2, 1)) ∧ (decode cX10_join 73 = .ok (.iastore, 1)) ∧ (decode cX10_join 74 = .ok (.aload_n 0, 1)) ∧ (decode cX10_join 75 = .ok (.dup, 1)) ∧ (decode cX10_join 76 = .ok (.getfield 394, 3)) ∧ (decode cX10_join 79 = .ok (.iconst 1, 1)) ∧ (decode cX10_join 80 = .ok (.iadd, 1)) ∧ (decode cX10_join 81 = .ok (.putfield 394, 3)) ∧ (decode cX10_join 84 = .ok (.aload_n 0, 1)) := by decide +kernel
theorem dX10_join_65 : decode cX10_join 65 = .ok (.getfield 130, 3) := gX10_join_36.1
theorem dX10_join_68 : decode cX10_join 68 = .ok (.aload_n 0, 1) := gX10_join_36.2.1
theorem dX10_join_69 : decode cX10_join 69 = .ok (.getfield 394, 3) := gX10_join_36.2.2.1
theorem dX10_join_72 : decode cX10_join 72 = .ok (.iload_n 2, 1) := gX10_join_36.2.2.2.1
theorem dX10_join_73 : decode cX10_join 73 = .ok (.iastore, 1) := gX10_join_36.2.2.2.2.1
theorem dX10_join_74 : decode cX10_join 74 = .ok (.aload_n 0, 1) := gX10_join_36.2.2.2.2.2.1
theorem dX10_join_75 : decode cX10_join 75 = .ok (.dup, 1) := gX10_join_36.2.2.2.2.2.2.1
theorem dX10_join_76 : decode cX10_join 76 = .ok (.getfield 394, 3) := gX10_join_36.2.2.2.2.2.2.2.1
theorem dX10_join_79 : decode cX10_join 79 = .ok (.iconst 1, 1) := gX10_join_36.2.2.2.2.2.2.2.2.1
theorem dX10_join_80 : decode cX10_join 80 = .ok (.iadd, 1) := gX10_join_36.2.2.2.2.2.2.2.2.2.1
theorem dX10_join_81 : decode cX10_join 81 = .ok (.putfield 394, 3) := gX10_join_36.2.2.2.2.2.2.2.2.2.2.1
theorem dX10_join_84 : decode cX10_join 84 = .ok (.aload_n 0, 1) := gX10_join_36.2.2.2.2.2.2.2.2.2.2.2
theorem gX10_join_48 : (decode cX10_join 85 = .ok (.getfield 394, 3)) ∧ (decode cX10_join 88 = .ok (.ireturn, 1)) := by decide +kernel
theorem dX10_join_85 : decode cX10_join 85 = .ok (.getfield 394, 3) := gX10_join_48.1
theorem dX10_join_88 : decode cX10_join 88 = .ok (.ireturn, 1) := gX10_join_48.2
theorem gX10_call_0 : (decode cX10_call 0 = .ok (.iload_n 1, 1)) ∧ (decode cX10_call 1 = .ok (.iconst 1, 1)) ∧ (decode cX10_call 2 = .ok (.if_icmp .ge 10, 3)) ∧ (decode cX10_call 5 = .ok (.aload_n 0, 1)) ∧ (decode cX10_call 6 = .ok (.bipush (-4), 2)) ∧ (decode cX10_call 8 = .ok (.invokevirtual 151, 3)) ∧ (decode cX10_call 11 = .ok (.ireturn, 1)) ∧ (decode cX10_call 12 = .ok (.iload_n 1, 1)) ∧ (decode cX10_call 13 = .ok (.sipush 999, 3)) ∧ (decode cX10_call 16 = .ok (.if_icmp .le 10, 3)) ∧ (decode cX10_call 19 = .ok (.aload_n 0, 1)) ∧ (decode cX10_call 20 = .ok (.bipush (-6), 2)) := by decide +kernel
theorem dX10_call_0 : decode cX10_call 0 = .ok (.iload_n 1, 1) := gX10_call_0.1
theorem dX10_call_1 : decode cX10_call 1 = .ok (.iconst 1, 1) := gX10_call_0.2.1
theorem dX10_call_2 : decode cX10_call 2 = .ok (.if_icmp .ge 10, 3) := gX10_call_0.2.2.1
theorem dX10_call_5 : decode cX10_call 5 = .ok (.aload_n 0, 1) := gX10_call_0.2.2.2.1
theorem dX10_call_6 : decode cX10_call 6 = .ok (.bipush (-4), 2) := gX10_call_0.2.2.2.2.1
theorem dX10_call_8 : decode cX10_call 8 = .ok (.invokevirtual 151, 3) := gX10_call_0.2.2.2.2.2.1
theorem dX10_call_11 : decode cX10_call 11 = .ok (.ireturn, 1) := gX10_call_0.2.2.2.2.2.2.1
theorem dX10_call_12 : decode cX10_call 12 = .ok (.iload_n 1, 1) := gX10_call_0.2.2.2.2.2.2.2.1
theorem dX10_call_13 : decode cX10_call 13 = .ok (.sipush 999, 3) := gX10_call_0.2.2.2.2.2.2.2.2.1
theorem dX10_call_16 : decode cX10_call 16 = .ok (.if_icmp .le 10, 3) := gX10_call_0.2.2.2.2.2.2.2.2.2.1
theorem dX10_call_19 : decode cX10_call 19 = .ok (.aload_n 0, 1) := gX10_call_0.2.2.2.2.2.2.2.2.2.2.1
theorem dX10_call_20 : decode cX10_call 20 = .ok (.bipush (-6), 2) := gX10_call_0.2.2.2.2.2.2.2.2.2.2.2
theorem gX10_call_12 : (decode cX10_call 22 = .ok (.invokevirtual 151, 3)) ∧ (decode cX10_call 25 = .ok (.ireturn, 1)) ∧ (decode cX10_call 26 = .ok (.aload_n 0, 1)) ∧ (decode cX10_call 27 = .ok (.iconst (-1), 1)) ∧ (decode cX10_call 28 = .ok (.putfield 136, 3)) ∧ (decode cX10_call 31 = .ok (.aload_n 0, 1)) ∧ (decode cX10_call 32 = .ok (.iload_n 1, 1)) ∧ (decode cX10_call 33 = .ok (.putfield 400, 3)) ∧ (decode cX10_call 36 = .ok (.iconst 1, 1)) ∧ (decode cX10_call 37 = .ok (.istore_n 2, 1)) ∧ (decode cX10_call 38 = .ok (.iload_n 2, 1)) ∧ (decode cX10_call 39 = .ok (.aload_n 0, 1)) := by decide +kernel
theorem dX10_call_22 : decode cX10_call 22 = .ok (.invokevirtual 151, 3) := gX10_call_12.1
theorem dX10_call_25 : decode cX10_call 25 = .ok (.ireturn, 1) := gX10_call_12.2.1
theorem dX10_call_26 : decode cX10_call 26 = .ok (.aload_n 0, 1) := gX10_call_12.2.2.1
theorem dX10_call_27 : decode cX10_call 27 = .ok (.iconst (-1), 1) := gX10_call_12.2.2.2.1
theorem dX10_call_28 : decode cX10_call 28 = .ok (.putfield 136, 3) := gX10_call_12.2.2.2.2.1
theorem dX10_call_31 : decode cX10_call 31 = .ok (.aload_n 0, 1) := gX10_call_12.2.2.2.2.2.1
theorem dX10_call_32 : decode cX10_call 32 = .ok (.iload_n 1, 1) := gX10_call_12.2.2.2.2.2.2.1
theorem dX10_call_33 : decode cX10_call 33 = .ok (.putfield 400, 3) := gX10_call_12.2.2.2.2.2.2.2.1
theorem dX10_call_36 : decode cX10_call 36 = .ok (.iconst 1, 1) := gX10_call_12.2.2.2.2.2.2.2.2.1
theorem dX10_call_37 : decode cX10_call 37 = .ok (.istore_n 2, 1) := gX10_call_12.2.2.2.2.2.2.2.2.2.1
theorem dX10_call_38 : decode cX10_call 38 = .ok (.iload_n 2, 1) := gX10_call_12.2.2.2.2.2.2.2.2.2.2.1
theorem dX10_call_39 : decode cX10_call 39 = .ok (.aload_n 0, 1) := gX10_call_12.2.2.2.2.2.2.2.2.2.2.2
theorem gX10_call_24 : (decode cX10_call 40 = .ok (.getfield 394, 3)) ∧ (decode cX10_call 43 = .ok (.if_icmp .gt 47, 3)) ∧ (decode cX10_call 46 = .ok (.aload_n 0, 1)) ∧ (decode cX10_call 47 = .ok (.getfield 136, 3)) ∧ (decode cX10_call 50 = .ok (.ifCond .ge 40, 3)) ∧ (decode cX10_call 53 = .ok (.aload_n 0, 1)) ∧ (decode cX10_call 54 = .ok (.getfield 133, 3)) ∧ (decode cX10_call 57 = .ok (.iload_n 2, 1)) ∧ (decode cX10_call 58 = .ok (.iadd, 1)) ∧ (decode cX10_call 59 = .ok (.aload_n 0, 1)) ∧ (decode cX10_call 60 = .ok (.getfield 394, 3)) ∧ (decode cX10_call 63 = .ok (.irem, 1)) := by decide +kernel
theorem dX10_call_40 : decode cX10_call 40 = .ok (.getfield 394, 3) := gX10_call_24.1
theorem dX10_call_43 : decode cX10_call 43 = .ok (.if_icmp .gt 47, 3) := gX10_call_24.2.1
theorem dX10_call_46 : decode cX10_call 46 = .ok (.aload_n 0, 1) := gX10_call_24.2.2.1
theorem dX10_call_47 : decode cX10_call 47 = .ok (.getfield 136, 3) := gX10_call_24.2.2.2.1
theorem dX10_call_50 : decode cX10_call 50 = .ok (.ifCond .ge 40, 3) := gX10_call_24.2.2.2.2.1
theorem dX10_call_53 : decode cX10_call 53 = .ok (.aload_n 0, 1) := gX10_call_24.2.2.2.2.2.1
theorem dX10_call_54 : decode cX10_call 54 = .ok (.getfield 133, 3) := gX10_call_24.2.2.2.2.2.2.1
theorem dX10_call_57 : decode cX10_call 57 = .ok (.iload_n 2, 1) := gX10_call_24.2.2.2.2.2.2.2.1
theorem dX10_call_58 : decode cX10_call 58 = .ok (.iadd, 1) := gX10_call_24.2.2.2.2.2.2.2.2.1
theorem dX10_call_59 : decode cX10_call 59 = .ok (.aload_n 0, 1) := gX10_call_24.2.2.2.2.2.2.2.2.2.1
theorem dX10_call_60 : decode cX10_call 60 = .ok (.getfield 394, 3) := gX10_call_24.2.2.2.2.2.2.2.2.2.2.1
theorem dX10_call_63 : decode cX10_call 63 = .ok (.irem, 1) := gX10_call_24.2.2.2.2.2.2.2.2.2.2.2
theorem gX10_call_36 : (decode cX10_call 64 = .ok (.istore_n 3, 1)) ∧ (decode cX10_call 65 = .ok (.aload_n 0, 1)) ∧ (decode cX10_call 66 = .ok (.aload_n 0, 1)) ∧ (decode cX10_call 67 = .ok (.getfield 130, 3)) ∧ (decode cX10_call 70 = .ok (.iload_n 3, 1)) ∧ (decode cX10_call 71 = .ok (.iaload, 1)) ∧ (decode cX10_call 72 = .ok (.iload_n 1, 1)) ∧ (decode cX10_call 73 = .ok (.if_icmp .lt 7, 3)) ∧ (decode cX10_call 76 = .ok (.iload_n 3, 1)) ∧ (decode cX10_call 77 = .ok (.goto 4, 3)) ∧ (decode cX10_call 80 = .ok (.iconst (-1), 1)) ∧ (decode cX10_call 81 = .ok (.putfield 136, 3)) := by decide +kernel
theorem dX10_call_64 : decode cX10_call 64 = .ok (.istore_n 3, 1) := gX10_call_36.1
theorem dX10_call_65 : decode cX10_call 65 = .ok (.aload_n 0, 1) := gX10_call_36.2.1
theorem dX10_call_66 : decode cX10_call 66 = .ok (.aload_n 0, 1) := gX10_call_36.2.2.1
theorem dX10_call_67 : decode cX10_call 67 = .ok (.getfield 130, 3) := gX10_call_36.2.2.2.1
theorem dX10_call_70 : decode cX10_call 70 = .ok (.iload_n 3, 1) := gX10_call_36.2.2.2.2.1
theorem dX10_call_71 : decode cX10_call 71 = .ok (.iaload, 1) := gX10_call_36.2.2.2.2.2.1
theorem dX10_call_72 : decode cX10_call 72 = .ok (.iload_n 1, 1) := gX10_call_36.2.2.2.2.2.2.1
theorem dX10_call_73 : decode cX10_call 73 = .ok (.if_icmp .lt 7, 3) := gX10_call_36.2.2.2.2.2.2.2.1
theorem dX10_call_76 : decode cX10_call 76 = .ok (.iload_n 3, 1) := gX10_call_36.2.2.2.2.2.2.2.2.1
theorem dX10_call_77 : decode cX10_call 77 = .ok (.goto 4, 3) := gX10_call_36.2.2.2.2.2.2.2.2.2.1
theorem dX10_call_80 : decode cX10_call 80 = .ok (.iconst (-1), 1) := gX10_call_36.2.2.2.2.2.2.2.2.2.2.1
theorem dX10_call_81 : decode cX10_call 81 = .ok (.putfield 136, 3) := gX10_call_36.2.2.2.2.2.2.2.2.2.2.2
theorem gX10_call_48 : (decode cX10_call 84 = .ok (.iinc 2 1, 3)) ∧ (decode cX10_call 87 = .ok (.goto (-49), 3)) ∧ (decode cX10_call 90 = .ok (.aload_n 0, 1)) ∧ (decode cX10_call 91 = .ok (.getfield 136, 3)) ∧ (decode cX10_call 94 = .ok (.ifCond .ge 6, 3)) ∧ (decode cX10_call 97 = .ok (.bipush (-9), 2)) ∧ (decode cX10_call 99 = .ok (.ireturn, 1)) ∧ (decode cX10_call 100 = .ok (.aload_n 0, 1)) ∧ (decode cX10_call 101 = .ok (.aload_n 0, 1)) ∧ (decode cX10_call 102 = .ok (.getfield 136, 3)) ∧ (decode cX10_call 105 = .ok (.putfield 403, 3)) ∧ (decode cX10_call 108 = .ok (.aload_n 0, 1)) := by decide +kernel
theorem dX10_call_84 : decode cX10_call 84 = .ok (.iinc 2 1, 3) := gX10_call_48.1
theorem dX10_call_87 : decode cX10_call 87 = .ok (.goto (-49), 3) := gX10_call_48.2.1
theorem dX10_call_90 : decode cX10_call 90 = .ok (.aload_n 0, 1) := gX10_call_48.2.2.1
theorem dX10_call_91 : decode cX10_call 91 = .ok (.getfield 136, 3) := gX10_call_48.2.2.2.1
theorem dX10_call_94 : decode cX10_call 94 = .ok (.ifCond .ge 6, 3) := gX10_call_48.2.2.2.2.1
theorem dX10_call_97 : decode cX10_call 97 = .ok (.bipush (-9), 2) := gX10_call_48.2.2.2.2.2.1
theorem dX10_call_99 : decode cX10_call 99 = .ok (.ireturn, 1) := gX10_call_48.2.2.2.2.2.2.1
theorem dX10_call_100 : decode cX10_call 100 = .ok (.aload_n 0, 1) := gX10_call_48.2.2.2.2.2.2.2.1
theorem dX10_call_101 : decode cX10_call 101 = .ok (.aload_n 0, 1) := gX10_call_48.2.2.2.2.2.2.2.2.1
theorem dX10_call_102 : decode cX10_call 102 = .ok (.getfield 136, 3) := gX10_call_48.2.2.2.2.2.2.2.2.2.1
theorem dX10_call_105 : decode cX10_call 105 = .ok (.putfield 403, 3) := gX10_call_48.2.2.2.2.2.2.2.2.2.2.1
theorem dX10_call_108 : decode cX10_call 108 = .ok (.aload_n 0, 1) := gX10_call_48.2.2.2.2.2.2.2.2.2.2.2
theorem gX10_call_60 : (decode cX10_call 109 = .ok (.aload_n 0, 1)) ∧ (decode cX10_call 110 = .ok (.getfield 136, 3)) ∧ (decode cX10_call 113 = .ok (.putfield 133, 3)) ∧ (decode cX10_call 116 = .ok (.aload_n 0, 1)) ∧ (decode cX10_call 117 = .ok (.getfield 130, 3)) ∧ (decode cX10_call 120 = .ok (.aload_n 0, 1)) ∧ (decode cX10_call 121 = .ok (.getfield 136, 3)) ∧ (decode cX10_call 124 = .ok (.dup2, 1)) ∧ (decode cX10_call 125 = .ok (.iaload, 1)) ∧ (decode cX10_call 126 = .ok (.iload_n 1, 1)) ∧ (decode cX10_call 127 = .ok (.isub, 1)) ∧ (decode cX10_call 128 = .ok (.iastore, 1)) := by decide +kernel
theorem dX10_call_109 : decode cX10_call 109 = .ok (.aload_n 0, 1) := gX10_call_60.1
theorem dX10_call_110 : decode cX10_call 110 = .ok (.getfield 136, 3) := gX10_call_60.2.1
theorem dX10_call_113 : decode cX10_call 113 = .ok (.putfield 133, 3) := gX10_call_60.2.2.1
theorem dX10_call_116 : decode cX10_call 116 = .ok (.aload_n 0, 1) := gX10_call_60.2.2.2.1
theorem dX10_call_117 : decode cX10_call 117 = .ok (.getfield 130, 3) := gX10_call_60.2.2.2.2.1
theorem dX10_call_120 : decode cX10_call 120 = .ok (.aload_n 0, 1) := gX10_call_60.2.2.2.2.2.1
theorem dX10_call_121 : decode cX10_call 121 = .ok (.getfield 136, 3) := gX10_call_60.2.2.2.2.2.2.1
theorem dX10_call_124 : decode cX10_call 124 = .ok (.dup2, 1) := gX10_call_60.2.2.2.2.2.2.2.1
theorem dX10_call_125 : decode cX10_call 125 = .ok (.iaload, 1) := gX10_call_60.2.2.2.2.2.2.2.2.1
theorem dX10_call_126 : decode cX10_call 126 = .ok (.iload_n 1, 1) := gX10_call_60.2.2.2.2.2.2.2.2.2.1
theorem dX10_call_127 : decode cX10_call 127 = .ok (.isub, 1) := gX10_call_60.2.2.2.2.2.2.2.2.2.2.1
theorem dX10_call_128 : decode cX10_call 128 = .ok (.iastore, 1) := gX10_call_60.2.2.2.2.2.2.2.2.2.2.2
theorem gX10_call_72 : (decode cX10_call 129 = .ok (.aload_n 0, 1)) ∧ (decode cX10_call 130 = .ok (.getfield 127, 3)) ∧ (decode cX10_call 133 = .ok (.aload_n 0, 1)) ∧ (decode cX10_call 134 = .ok (.getfield 136, 3)) ∧ (decode cX10_call 137 = .ok (.iaload, 1)) ∧ (decode cX10_call 138 = .ok (.ireturn, 1)) := by decide +kernel
theorem dX10_call_129 : decode cX10_call 129 = .ok (.aload_n 0, 1) := gX10_call_72.1
theorem dX10_call_130 : decode cX10_call 130 = .ok (.getfield 127, 3) := gX10_call_72.2.1
theorem dX10_call_133 : decode cX10_call 133 = .ok (.aload_n 0, 1) := gX10_call_72.2.2.1
theorem dX10_call_134 : decode cX10_call 134 = .ok (.getfield 136, 3) := gX10_call_72.2.2.2.1
theorem dX10_call_137 : decode cX10_call 137 = .ok (.iaload, 1) := gX10_call_72.2.2.2.2.1
theorem dX10_call_138 : decode cX10_call 138 = .ok (.ireturn, 1) := gX10_call_72.2.2.2.2.2
theorem gX10_decline_0 : (decode cX10_decline 0 = .ok (.aload_n 0, 1)) ∧ (decode cX10_decline 1 = .ok (.getfield 136, 3)) ∧ (decode cX10_decline 4 = .ok (.ifCond .ge 10, 3)) ∧ (decode cX10_decline 7 = .ok (.aload_n 0, 1)) ∧ (decode cX10_decline 8 = .ok (.bipush (-3), 2)) ∧ (decode cX10_decline 10 = .ok (.invokevirtual 151, 3)) ∧ (decode cX10_decline 13 = .ok (.ireturn, 1)) ∧ (decode cX10_decline 14 = .ok (.aload_n 0, 1)) ∧ (decode cX10_decline 15 = .ok (.getfield 130, 3)) ∧ (decode cX10_decline 18 = .ok (.aload_n 0, 1)) ∧ (decode cX10_decline 19 = .ok (.getfield 136, 3)) ∧ (decode cX10_decline 22 = .ok (.dup2, 1)) := by decide +kernel
theorem dX10_decline_0 : decode cX10_decline 0 = .ok (.aload_n 0, 1) := gX10_decline_0.1
theorem dX10_decline_1 : decode cX10_decline 1 = .ok (.getfield 136, 3) := gX10_decline_0.2.1
theorem dX10_decline_4 : decode cX10_decline 4 = .ok (.ifCond .ge 10, 3) := gX10_decline_0.2.2.1
theorem dX10_decline_7 : decode cX10_decline 7 = .ok (.aload_n 0, 1) := gX10_decline_0.2.2.2.1
theorem dX10_decline_8 : decode cX10_decline 8 = .ok (.bipush (-3), 2) := gX10_decline_0.2.2.2.2.1
theorem dX10_decline_10 : decode cX10_decline 10 = .ok (.invokevirtual 151, 3) := gX10_decline_0.2.2.2.2.2.1
theorem dX10_decline_13 : decode cX10_decline 13 = .ok (.ireturn, 1) := gX10_decline_0.2.2.2.2.2.2.1
theorem dX10_decline_14 : decode cX10_decline 14 = .ok (.aload_n 0, 1) := gX10_decline_0.2.2.2.2.2.2.2.1
theorem dX10_decline_15 : decode cX10_decline 15 = .ok (.getfield 130, 3) := gX10_decline_0.2.2.2.2.2.2.2.2.1
theorem dX10_decline_18 : decode cX10_decline 18 = .ok (.aload_n 0, 1) := gX10_decline_0.2.2.2.2.2.2.2.2.2.1
theorem dX10_decline_19 : decode cX10_decline 19 = .ok (.getfield 136, 3) := gX10_decline_0.2.2.2.2.2.2.2.2.2.2.1
theorem dX10_decline_22 : decode cX10_decline 22 = .ok (.dup2, 1) := gX10_decline_0.2.2.2.2.2.2.2.2.2.2.2
theorem gX10_decline_12 : (decode cX10_decline 23 = .ok (.iaload, 1)) ∧ (decode cX10_decline 24 = .ok (.aload_n 0, 1)) ∧ (decode cX10_decline 25 = .ok (.getfield 400, 3)) ∧ (decode cX10_decline 28 = .ok (.iadd, 1)) ∧ (decode cX10_decline 29 = .ok (.iastore, 1)) ∧ (decode cX10_decline 30 = .ok (.aload_n 0, 1)) ∧ (decode cX10_decline 31 = .ok (.getfield 136, 3)) ∧ (decode cX10_decline 34 = .ok (.istore_n 1, 1)) ∧ (decode cX10_decline 35 = .ok (.aload_n 0, 1)) ∧ (decode cX10_decline 36 = .ok (.iconst (-1), 1)) ∧ (decode cX10_decline 37 = .ok (.putfield 136, 3)) ∧ (decode cX10_decline 40 = .ok (.iconst 1, 1)) := by decide +kernel
theorem dX10_decline_23 : decode cX10_decline 23 = .ok (.iaload, 1) := gX10_decline_12.1
theorem dX10_decline_24 : decode cX10_decline 24 = .ok (.aload_n 0, 1) := gX10_decline_12.2.1
theorem dX10_decline_25 : decode cX10_decline 25 = .ok (.getfield 400, 3) := gX10_decline_12.2.2.1
theorem dX10_decline_28 : decode cX10_decline 28 = .ok (.iadd, 1) := gX10_decline_12.2.2.2.1
theorem dX10_decline_29 : decode cX10_decline 29 = .ok (.iastore, 1) := gX10_decline_12.2.2.2.2.1
theorem dX10_decline_30 : decode cX10_decline 30 = .ok (.aload_n 0, 1) := gX10_decline_12.2.2.2.2.2.1
theorem dX10_decline_31 : decode cX10_decline 31 = .ok (.getfield 136, 3) := gX10_decline_12.2.2.2.2.2.2.1
theorem dX10_decline_34 : decode cX10_decline 34 = .ok (.istore_n 1, 1) := gX10_decline_12.2.2.2.2.2.2.2.1
theorem dX10_decline_35 : decode cX10_decline 35 = .ok (.aload_n 0, 1) := gX10_decline_12.2.2.2.2.2.2.2.2.1
theorem dX10_decline_36 : decode cX10_decline 36 = .ok (.iconst (-1), 1) := gX10_decline_12.2.2.2.2.2.2.2.2.2.1
theorem dX10_decline_37 : decode cX10_decline 37 = .ok (.putfield 136, 3) := gX10_decline_12.2.2.2.2.2.2.2.2.2.2.1
theorem dX10_decline_40 : decode cX10_decline 40 = .ok (.iconst 1, 1) := gX10_decline_12.2.2.2.2.2.2.2.2.2.2.2
theorem gX10_decline_24 : (decode cX10_decline 41 = .ok (.istore_n 2, 1)) ∧ (decode cX10_decline 42 = .ok (.iload_n 2, 1)) ∧ (decode cX10_decline 43 = .ok (.aload_n 0, 1)) ∧ (decode cX10_decline 44 = .ok (.getfield 394, 3)) ∧ (decode cX10_decline 47 = .ok (.if_icmp .ge 58, 3)) ∧ (decode cX10_decline 50 = .ok (.aload_n 0, 1)) ∧ (decode cX10_decline 51 = .ok (.getfield 136, 3)) ∧ (decode cX10_decline 54 = .ok (.ifCond .ge 51, 3)) ∧ (decode cX10_decline 57 = .ok (.iload_n 1, 1)) ∧ (decode cX10_decline 58 = .ok (.iload_n 2, 1)) ∧ (decode cX10_decline 59 = .ok (.iadd, 1)) ∧ (decode cX10_decline 60 = .ok (.aload_n 0, 1)) := by decide +kernel
theorem dX10_decline_41 : decode cX10_decline 41 = .ok (.istore_n 2, 1) := gX10_decline_24.1
theorem dX10_decline_42 : decode cX10_decline 42 = .ok (.iload_n 2, 1) := gX10_decline_24.2.1
theorem dX10_decline_43 : decode cX10_decline 43 = .ok (.aload_n 0, 1) := gX10_decline_24.2.2.1
theorem dX10_decline_44 : decode cX10_decline 44 = .ok (.getfield 394, 3) := gX10_decline_24.2.2.2.1
theorem dX10_decline_47 : decode cX10_decline 47 = .ok (.if_icmp .ge 58, 3) := gX10_decline_24.2.2.2.2.1
theorem dX10_decline_50 : decode cX10_decline 50 = .ok (.aload_n 0, 1) := gX10_decline_24.2.2.2.2.2.1
theorem dX10_decline_51 : decode cX10_decline 51 = .ok (.getfield 136, 3) := gX10_decline_24.2.2.2.2.2.2.1
theorem dX10_decline_54 : decode cX10_decline 54 = .ok (.ifCond .ge 51, 3) := gX10_decline_24.2.2.2.2.2.2.2.1
theorem dX10_decline_57 : decode cX10_decline 57 = .ok (.iload_n 1, 1) := gX10_decline_24.2.2.2.2.2.2.2.2.1
theorem dX10_decline_58 : decode cX10_decline 58 = .ok (.iload_n 2, 1) := gX10_decline_24.2.2.2.2.2.2.2.2.2.1
theorem dX10_decline_59 : decode cX10_decline 59 = .ok (.iadd, 1) := gX10_decline_24.2.2.2.2.2.2.2.2.2.2.1
theorem dX10_decline_60 : decode cX10_decline 60 = .ok (.aload_n 0, 1) := gX10_decline_24.2.2.2.2.2.2.2.2.2.2.2
theorem gX10_decline_36 : (decode cX10_decline 61 = .ok (.getfield 394, 3)) ∧ (decode cX10_decline 64 = .ok (.irem, 1)) ∧ (decode cX10_decline 65 = .ok (.istore_n 3, 1)) ∧ (decode cX10_decline 66 = .ok (.iload_n 3, 1)) ∧ (decode cX10_decline 67 = .ok (.aload_n 0, 1)) ∧ (decode cX10_decline 68 = .ok (.getfield 403, 3)) ∧ (decode cX10_decline 71 = .ok (.if_icmp .ne 6, 3)) ∧ (decode cX10_decline 74 = .ok (.bipush (-9), 2)) ∧ (decode cX10_decline 76 = .ok (.ireturn, 1)) ∧ (decode cX10_decline 77 = .ok (.aload_n 0, 1)) ∧ (decode cX10_decline 78 = .ok (.aload_n 0, 1)) ∧ (decode cX10_decline 79 = .ok (.getfield 130, 3)) := by decide +kernel
theorem dX10_decline_61 : decode cX10_decline 61 = .ok (.getfield 394, 3) := gX10_decline_36.1
theorem dX10_decline_64 : decode cX10_decline 64 = .ok (.irem, 1) := gX10_decline_36.2.1
theorem dX10_decline_65 : decode cX10_decline 65 = .ok (.istore_n 3, 1) := gX10_decline_36.2.2.1
theorem dX10_decline_66 : decode cX10_decline 66 = .ok (.iload_n 3, 1) := gX10_decline_36.2.2.2.1
theorem dX10_decline_67 : decode cX10_decline 67 = .ok (.aload_n 0, 1) := gX10_decline_36.2.2.2.2.1
theorem dX10_decline_68 : decode cX10_decline 68 = .ok (.getfield 403, 3) := gX10_decline_36.2.2.2.2.2.1
theorem dX10_decline_71 : decode cX10_decline 71 = .ok (.if_icmp .ne 6, 3) := gX10_decline_36.2.2.2.2.2.2.1
theorem dX10_decline_74 : decode cX10_decline 74 = .ok (.bipush (-9), 2) := gX10_decline_36.2.2.2.2.2.2.2.1
theorem dX10_decline_76 : decode cX10_decline 76 = .ok (.ireturn, 1) := gX10_decline_36.2.2.2.2.2.2.2.2.1
theorem dX10_decline_77 : decode cX10_decline 77 = .ok (.aload_n 0, 1) := gX10_decline_36.2.2.2.2.2.2.2.2.2.1
theorem dX10_decline_78 : decode cX10_decline 78 = .ok (.aload_n 0, 1) := gX10_decline_36.2.2.2.2.2.2.2.2.2.2.1
theorem dX10_decline_79 : decode cX10_decline 79 = .ok (.getfield 130, 3) := gX10_decline_36.2.2.2.2.2.2.2.2.2.2.2
theorem gX10_decline_48 : (decode cX10_decline 82 = .ok (.iload_n 3, 1)) ∧ (decode cX10_decline 83 = .ok (.iaload, 1)) ∧ (decode cX10_decline 84 = .ok (.aload_n 0, 1)) ∧ (decode cX10_decline 85 = .ok (.getfield 400, 3)) ∧ (decode cX10_decline 88 = .ok (.if_icmp .lt 7, 3)) ∧ (decode cX10_decline 91 = .ok (.iload_n 3, 1)) ∧ (decode cX10_decline 92 = .ok (.goto 4, 3)) ∧ (decode cX10_decline 95 = .ok (.iconst (-1), 1)) ∧ (decode cX10_decline 96 = .ok (.putfield 136, 3)) ∧ (decode cX10_decline 99 = .ok (.iinc 2 1, 3)) ∧ (decode cX10_decline 102 = .ok (.goto (-60), 3)) ∧ (decode cX10_decline 105 = .ok (.aload_n 0, 1)) := by decide +kernel
theorem dX10_decline_82 : decode cX10_decline 82 = .ok (.iload_n 3, 1) := gX10_decline_48.1
theorem dX10_decline_83 : decode cX10_decline 83 = .ok (.iaload, 1) := gX10_decline_48.2.1
theorem dX10_decline_84 : decode cX10_decline 84 = .ok (.aload_n 0, 1) := gX10_decline_48.2.2.1
theorem dX10_decline_85 : decode cX10_decline 85 = .ok (.getfield 400, 3) := gX10_decline_48.2.2.2.1
theorem dX10_decline_88 : decode cX10_decline 88 = .ok (.if_icmp .lt 7, 3) := gX10_decline_48.2.2.2.2.1
theorem dX10_decline_91 : decode cX10_decline 91 = .ok (.iload_n 3, 1) := gX10_decline_48.2.2.2.2.2.1
theorem dX10_decline_92 : decode cX10_decline 92 = .ok (.goto 4, 3) := gX10_decline_48.2.2.2.2.2.2.1
theorem dX10_decline_95 : decode cX10_decline 95 = .ok (.iconst (-1), 1) := gX10_decline_48.2.2.2.2.2.2.2.1
theorem dX10_decline_96 : decode cX10_decline 96 = .ok (.putfield 136, 3) := gX10_decline_48.2.2.2.2.2.2.2.2.1
theorem dX10_decline_99 : decode cX10_decline 99 = .ok (.iinc 2 1, 3) := gX10_decline_48.2.2.2.2.2.2.2.2.2.1
theorem dX10_decline_102 : decode cX10_decline 102 = .ok (.goto (-60), 3) := gX10_decline_48.2.2.2.2.2.2.2.2.2.2.1
theorem dX10_decline_105 : decode cX10_decline 105 = .ok (.aload_n 0, 1) := gX10_decline_48.2.2.2.2.2.2.2.2.2.2.2
theorem gX10_decline_60 : (decode cX10_decline 106 = .ok (.getfield 136, 3)) ∧ (decode cX10_decline 109 = .ok (.ifCond .ge 6, 3)) ∧ (decode cX10_decline 112 = .ok (.bipush (-9), 2)) ∧ (decode cX10_decline 114 = .ok (.ireturn, 1)) ∧ (decode cX10_decline 115 = .ok (.aload_n 0, 1)) ∧ (decode cX10_decline 116 = .ok (.aload_n 0, 1)) ∧ (decode cX10_decline 117 = .ok (.getfield 136, 3)) ∧ (decode cX10_decline 120 = .ok (.putfield 133, 3)) ∧ (decode cX10_decline 123 = .ok (.aload_n 0, 1)) ∧ (decode cX10_decline 124 = .ok (.getfield 130, 3)) ∧ (decode cX10_decline 127 = .ok (.aload_n 0, 1)) ∧ (decode cX10_decline 128 = .ok (.getfield 136, 3)) := by decide +kernel
theorem dX10_decline_106 : decode cX10_decline 106 = .ok (.getfield 136, 3) := gX10_decline_60.1
theorem dX10_decline_109 : decode cX10_decline 109 = .ok (.ifCond .ge 6, 3) := gX10_decline_60.2.1
theorem dX10_decline_112 : decode cX10_decline 112 = .ok (.bipush (-9), 2) := gX10_decline_60.2.2.1
theorem dX10_decline_114 : decode cX10_decline 114 = .ok (.ireturn, 1) := gX10_decline_60.2.2.2.1
theorem dX10_decline_115 : decode cX10_decline 115 = .ok (.aload_n 0, 1) := gX10_decline_60.2.2.2.2.1
theorem dX10_decline_116 : decode cX10_decline 116 = .ok (.aload_n 0, 1) := gX10_decline_60.2.2.2.2.2.1
theorem dX10_decline_117 : decode cX10_decline 117 = .ok (.getfield 136, 3) := gX10_decline_60.2.2.2.2.2.2.1
theorem dX10_decline_120 : decode cX10_decline 120 = .ok (.putfield 133, 3) := gX10_decline_60.2.2.2.2.2.2.2.1
theorem dX10_decline_123 : decode cX10_decline 123 = .ok (.aload_n 0, 1) := gX10_decline_60.2.2.2.2.2.2.2.2.1
theorem dX10_decline_124 : decode cX10_decline 124 = .ok (.getfield 130, 3) := gX10_decline_60.2.2.2.2.2.2.2.2.2.1
theorem dX10_decline_127 : decode cX10_decline 127 = .ok (.aload_n 0, 1) := gX10_decline_60.2.2.2.2.2.2.2.2.2.2.1
theorem dX10_decline_128 : decode cX10_decline 128 = .ok (.getfield 136, 3) := gX10_decline_60.2.2.2.2.2.2.2.2.2.2.2
theorem gX10_decline_72 : (decode cX10_decline 131 = .ok (.dup2, 1)) ∧ (decode cX10_decline 132 = .ok (.iaload, 1)) ∧ (decode cX10_decline 133 = .ok (.aload_n 0, 1)) ∧ (decode cX10_decline 134 = .ok (.getfield 400, 3)) ∧ (decode cX10_decline 137 = .ok (.isub, 1)) ∧ (decode cX10_decline 138 = .ok (.iastore, 1)) ∧ (decode cX10_decline 139 = .ok (.aload_n 0, 1)) ∧ (decode cX10_decline 140 = .ok (.getfield 127, 3)) ∧ (decode cX10_decline 143 = .ok (.aload_n 0, 1)) ∧ (decode cX10_decline 144 = .ok (.getfield 136, 3)) ∧ (decode cX10_decline 147 = .ok (.iaload, 1)) ∧ (decode cX10_decline 148 = .ok (.ireturn, 1)) := by decide +kernel
theorem dX10_decline_131 : decode cX10_decline 131 = .ok (.dup2, 1) := gX10_decline_72.1
theorem dX10_decline_132 : decode cX10_decline 132 = .ok (.iaload, 1) := gX10_decline_72.2.1
theorem dX10_decline_133 : decode cX10_decline 133 = .ok (.aload_n 0, 1) := gX10_decline_72.2.2.1
theorem dX10_decline_134 : decode cX10_decline 134 = .ok (.getfield 400, 3) := gX10_decline_72.2.2.2.1
theorem dX10_decline_137 : decode cX10_decline 137 = .ok (.isub, 1) := gX10_decline_72.2.2.2.2.1
theorem dX10_decline_138 : decode cX10_decline 138 = .ok (.iastore, 1) := gX10_decline_72.2.2.2.2.2.1
theorem dX10_decline_139 : decode cX10_decline 139 = .ok (.aload_n 0, 1) := gX10_decline_72.2.2.2.2.2.2.1
theorem dX10_decline_140 : decode cX10_decline 140 = .ok (.getfield 127, 3) := gX10_decline_72.2.2.2.2.2.2.2.1
theorem dX10_decline_143 : decode cX10_decline 143 = .ok (.aload_n 0, 1) := gX10_decline_72.2.2.2.2.2.2.2.2.1
theorem dX10_decline_144 : decode cX10_decline 144 = .ok (.getfield 136, 3) := gX10_decline_72.2.2.2.2.2.2.2.2.2.1
theorem dX10_decline_147 : decode cX10_decline 147 = .ok (.iaload, 1) := gX10_decline_72.2.2.2.2.2.2.2.2.2.2.1
theorem dX10_decline_148 : decode cX10_decline 148 = .ok (.ireturn, 1) := gX10_decline_72.2.2.2.2.2.2.2.2.2.2.2
theorem gX10_room_0 : (decode cX10_room 0 = .ok (.iload_n 1, 1)) ∧ (decode cX10_room 1 = .ok (.invokestatic 166, 3)) ∧ (decode cX10_room 4 = .ok (.ifCond .ne 9, 3)) ∧ (decode cX10_room 7 = .ok (.aload_n 0, 1)) ∧ (decode cX10_room 8 = .ok (.iconst (-1), 1)) ∧ (decode cX10_room 9 = .ok (.invokevirtual 151, 3)) ∧ (decode cX10_room 12 = .ok (.ireturn, 1)) ∧ (decode cX10_room 13 = .ok (.aload_n 0, 1)) ∧ (decode cX10_room 14 = .ok (.iload_n 1, 1)) ∧ (decode cX10_room 15 = .ok (.invokevirtual 397, 3)) ∧ (decode cX10_room 18 = .ok (.istore_n 2, 1)) ∧ (decode cX10_room 19 = .ok (.iload_n 2, 1)) := by decide +kernel
theorem dX10_room_0 : decode cX10_room 0 = .ok (.iload_n 1, 1) := gX10_room_0.1
theorem dX10_room_1 : decode cX10_room 1 = .ok (.invokestatic 166, 3) := gX10_room_0.2.1
theorem dX10_room_4 : decode cX10_room 4 = .ok (.ifCond .ne 9, 3) := gX10_room_0.2.2.1
theorem dX10_room_7 : decode cX10_room 7 = .ok (.aload_n 0, 1) := gX10_room_0.2.2.2.1
theorem dX10_room_8 : decode cX10_room 8 = .ok (.iconst (-1), 1) := gX10_room_0.2.2.2.2.1
theorem dX10_room_9 : decode cX10_room 9 = .ok (.invokevirtual 151, 3) := gX10_room_0.2.2.2.2.2.1
theorem dX10_room_12 : decode cX10_room 12 = .ok (.ireturn, 1) := gX10_room_0.2.2.2.2.2.2.1
theorem dX10_room_13 : decode cX10_room 13 = .ok (.aload_n 0, 1) := gX10_room_0.2.2.2.2.2.2.2.1
theorem dX10_room_14 : decode cX10_room 14 = .ok (.iload_n 1, 1) := gX10_room_0.2.2.2.2.2.2.2.2.1
theorem dX10_room_15 : decode cX10_room 15 = .ok (.invokevirtual 397, 3) := gX10_room_0.2.2.2.2.2.2.2.2.2.1
theorem dX10_room_18 : decode cX10_room 18 = .ok (.istore_n 2, 1) := gX10_room_0.2.2.2.2.2.2.2.2.2.2.1
theorem dX10_room_19 : decode cX10_room 19 = .ok (.iload_n 2, 1) := gX10_room_0.2.2.2.2.2.2.2.2.2.2.2
theorem gX10_room_12 : (decode cX10_room 20 = .ok (.ifCond .ge 12, 3)) ∧ (decode cX10_room 23 = .ok (.aload_n 0, 1)) ∧ (decode cX10_room 24 = .ok (.bipush (-3), 2)) ∧ (decode cX10_room 26 = .ok (.invokevirtual 151, 3)) ∧ (decode cX10_room 29 = .ok (.goto 9, 3)) ∧ (decode cX10_room 32 = .ok (.aload_n 0, 1)) ∧ (decode cX10_room 33 = .ok (.getfield 130, 3)) ∧ (decode cX10_room 36 = .ok (.iload_n 2, 1)) ∧ (decode cX10_room 37 = .ok (.iaload, 1)) ∧ (decode cX10_room 38 = .ok (.ireturn, 1)) := by decide +kernel
theorem dX10_room_20 : decode cX10_room 20 = .ok (.ifCond .ge 12, 3) := gX10_room_12.1
theorem dX10_room_23 : decode cX10_room 23 = .ok (.aload_n 0, 1) := gX10_room_12.2.1
theorem dX10_room_24 : decode cX10_room 24 = .ok (.bipush (-3), 2) := gX10_room_12.2.2.1
theorem dX10_room_26 : decode cX10_room 26 = .ok (.invokevirtual 151, 3) := gX10_room_12.2.2.2.1
theorem dX10_room_29 : decode cX10_room 29 = .ok (.goto 9, 3) := gX10_room_12.2.2.2.2.1
theorem dX10_room_32 : decode cX10_room 32 = .ok (.aload_n 0, 1) := gX10_room_12.2.2.2.2.2.1
theorem dX10_room_33 : decode cX10_room 33 = .ok (.getfield 130, 3) := gX10_room_12.2.2.2.2.2.2.1
theorem dX10_room_36 : decode cX10_room 36 = .ok (.iload_n 2, 1) := gX10_room_12.2.2.2.2.2.2.2.1
theorem dX10_room_37 : decode cX10_room 37 = .ok (.iaload, 1) := gX10_room_12.2.2.2.2.2.2.2.2.1
theorem dX10_room_38 : decode cX10_room 38 = .ok (.ireturn, 1) := gX10_room_12.2.2.2.2.2.2.2.2.2
theorem gX10_count_0 : (decode cX10_count 0 = .ok (.iconst 0, 1)) ∧ (decode cX10_count 1 = .ok (.istore_n 2, 1)) ∧ (decode cX10_count 2 = .ok (.iload_n 1, 1)) ∧ (decode cX10_count 3 = .ok (.tableswitch 171 0 9 #[53, 58, 63, 63, 117, 122, 135, 148, 161, 166], 53)) ∧ (decode cX10_count 56 = .ok (.aload_n 0, 1)) ∧ (decode cX10_count 57 = .ok (.getfield 148, 3)) ∧ (decode cX10_count 60 = .ok (.ireturn, 1)) ∧ (decode cX10_count 61 = .ok (.aload_n 0, 1)) ∧ (decode cX10_count 62 = .ok (.getfield 17, 3)) ∧ (decode cX10_count 65 = .ok (.ireturn, 1)) ∧ (decode cX10_count 66 = .ok (.iconst 0, 1)) ∧ (decode cX10_count 67 = .ok (.istore_n 3, 1)) := by decide +kernel
theorem dX10_count_0 : decode cX10_count 0 = .ok (.iconst 0, 1) := gX10_count_0.1
theorem dX10_count_1 : decode cX10_count 1 = .ok (.istore_n 2, 1) := gX10_count_0.2.1
theorem dX10_count_2 : decode cX10_count 2 = .ok (.iload_n 1, 1) := gX10_count_0.2.2.1
theorem dX10_count_3 : decode cX10_count 3 = .ok (.tableswitch 171 0 9 #[53, 58, 63, 63, 117, 122, 135, 148, 161, 166], 53) := gX10_count_0.2.2.2.1
theorem dX10_count_56 : decode cX10_count 56 = .ok (.aload_n 0, 1) := gX10_count_0.2.2.2.2.1
theorem dX10_count_57 : decode cX10_count 57 = .ok (.getfield 148, 3) := gX10_count_0.2.2.2.2.2.1
theorem dX10_count_60 : decode cX10_count 60 = .ok (.ireturn, 1) := gX10_count_0.2.2.2.2.2.2.1
theorem dX10_count_61 : decode cX10_count 61 = .ok (.aload_n 0, 1) := gX10_count_0.2.2.2.2.2.2.2.1
theorem dX10_count_62 : decode cX10_count 62 = .ok (.getfield 17, 3) := gX10_count_0.2.2.2.2.2.2.2.2.1
theorem dX10_count_65 : decode cX10_count 65 = .ok (.ireturn, 1) := gX10_count_0.2.2.2.2.2.2.2.2.2.1
theorem dX10_count_66 : decode cX10_count 66 = .ok (.iconst 0, 1) := gX10_count_0.2.2.2.2.2.2.2.2.2.2.1
theorem dX10_count_67 : decode cX10_count 67 = .ok (.istore_n 3, 1) := gX10_count_0.2.2.2.2.2.2.2.2.2.2.2
theorem gX10_count_12 : (decode cX10_count 68 = .ok (.iload_n 3, 1)) ∧ (decode cX10_count 69 = .ok (.bipush 8, 2)) ∧ (decode cX10_count 71 = .ok (.aload_n 0, 1)) ∧ (decode cX10_count 72 = .ok (.getfield 17, 3)) ∧ (decode cX10_count 75 = .ok (.imul, 1)) ∧ (decode cX10_count 76 = .ok (.if_icmp .ge 42, 3)) ∧ (decode cX10_count 79 = .ok (.iload_n 2, 1)) ∧ (decode cX10_count 80 = .ok (.iload_n 1, 1)) ∧ (decode cX10_count 81 = .ok (.iconst 2, 1)) ∧ (decode cX10_count 82 = .ok (.if_icmp .ne 15, 3)) ∧ (decode cX10_count 85 = .ok (.aload_n 0, 1)) ∧ (decode cX10_count 86 = .ok (.getfield 20, 3)) := by decide +kernel
theorem dX10_count_68 : decode cX10_count 68 = .ok (.iload_n 3, 1) := gX10_count_12.1
theorem dX10_count_69 : decode cX10_count 69 = .ok (.bipush 8, 2) := gX10_count_12.2.1
theorem dX10_count_71 : decode cX10_count 71 = .ok (.aload_n 0, 1) := gX10_count_12.2.2.1
theorem dX10_count_72 : decode cX10_count 72 = .ok (.getfield 17, 3) := gX10_count_12.2.2.2.1
theorem dX10_count_75 : decode cX10_count 75 = .ok (.imul, 1) := gX10_count_12.2.2.2.2.1
theorem dX10_count_76 : decode cX10_count 76 = .ok (.if_icmp .ge 42, 3) := gX10_count_12.2.2.2.2.2.1
theorem dX10_count_79 : decode cX10_count 79 = .ok (.iload_n 2, 1) := gX10_count_12.2.2.2.2.2.2.1
theorem dX10_count_80 : decode cX10_count 80 = .ok (.iload_n 1, 1) := gX10_count_12.2.2.2.2.2.2.2.1
theorem dX10_count_81 : decode cX10_count 81 = .ok (.iconst 2, 1) := gX10_count_12.2.2.2.2.2.2.2.2.1
theorem dX10_count_82 : decode cX10_count 82 = .ok (.if_icmp .ne 15, 3) := gX10_count_12.2.2.2.2.2.2.2.2.2.1
theorem dX10_count_85 : decode cX10_count 85 = .ok (.aload_n 0, 1) := gX10_count_12.2.2.2.2.2.2.2.2.2.2.1
theorem dX10_count_86 : decode cX10_count 86 = .ok (.getfield 20, 3) := gX10_count_12.2.2.2.2.2.2.2.2.2.2.2
theorem gX10_count_24 : (decode cX10_count 89 = .ok (.iload_n 3, 1)) ∧ (decode cX10_count 90 = .ok (.baload, 1)) ∧ (decode cX10_count 91 = .ok (.ifCond .eq 18, 3)) ∧ (decode cX10_count 94 = .ok (.goto 11, 3)) ∧ (decode cX10_count 97 = .ok (.aload_n 0, 1)) ∧ (decode cX10_count 98 = .ok (.iload_n 3, 1)) ∧ (decode cX10_count 99 = .ok (.invokevirtual 197, 3)) ∧ (decode cX10_count 102 = .ok (.ifCond .eq 7, 3)) ∧ (decode cX10_count 105 = .ok (.iconst 1, 1)) ∧ (decode cX10_count 106 = .ok (.goto 4, 3)) ∧ (decode cX10_count 109 = .ok (.iconst 0, 1)) ∧ (decode cX10_count 110 = .ok (.iadd, 1)) := by decide +kernel
theorem dX10_count_89 : decode cX10_count 89 = .ok (.iload_n 3, 1) := gX10_count_24.1
theorem dX10_count_90 : decode cX10_count 90 = .ok (.baload, 1) := gX10_count_24.2.1
theorem dX10_count_91 : decode cX10_count 91 = .ok (.ifCond .eq 18, 3) := gX10_count_24.2.2.1
theorem dX10_count_94 : decode cX10_count 94 = .ok (.goto 11, 3) := gX10_count_24.2.2.2.1
theorem dX10_count_97 : decode cX10_count 97 = .ok (.aload_n 0, 1) := gX10_count_24.2.2.2.2.1
theorem dX10_count_98 : decode cX10_count 98 = .ok (.iload_n 3, 1) := gX10_count_24.2.2.2.2.2.1
theorem dX10_count_99 : decode cX10_count 99 = .ok (.invokevirtual 197, 3) := gX10_count_24.2.2.2.2.2.2.1
theorem dX10_count_102 : decode cX10_count 102 = .ok (.ifCond .eq 7, 3) := gX10_count_24.2.2.2.2.2.2.2.1
theorem dX10_count_105 : decode cX10_count 105 = .ok (.iconst 1, 1) := gX10_count_24.2.2.2.2.2.2.2.2.1
theorem dX10_count_106 : decode cX10_count 106 = .ok (.goto 4, 3) := gX10_count_24.2.2.2.2.2.2.2.2.2.1
theorem dX10_count_109 : decode cX10_count 109 = .ok (.iconst 0, 1) := gX10_count_24.2.2.2.2.2.2.2.2.2.2.1
theorem dX10_count_110 : decode cX10_count 110 = .ok (.iadd, 1) := gX10_count_24.2.2.2.2.2.2.2.2.2.2.2
theorem gX10_count_36 : (decode cX10_count 111 = .ok (.istore_n 2, 1)) ∧ (decode cX10_count 112 = .ok (.iinc 3 1, 3)) ∧ (decode cX10_count 115 = .ok (.goto (-47), 3)) ∧ (decode cX10_count 118 = .ok (.iload_n 2, 1)) ∧ (decode cX10_count 119 = .ok (.ireturn, 1)) ∧ (decode cX10_count 120 = .ok (.aload_n 0, 1)) ∧ (decode cX10_count 121 = .ok (.getfield 177, 3)) ∧ (decode cX10_count 124 = .ok (.ireturn, 1)) ∧ (decode cX10_count 125 = .ok (.aload_n 0, 1)) ∧ (decode cX10_count 126 = .ok (.invokevirtual 160, 3)) ∧ (decode cX10_count 129 = .ok (.ifCond .eq 7, 3)) ∧ (decode cX10_count 132 = .ok (.iconst 1, 1)) := by decide +kernel
theorem dX10_count_111 : decode cX10_count 111 = .ok (.istore_n 2, 1) := gX10_count_36.1
theorem dX10_count_112 : decode cX10_count 112 = .ok (.iinc 3 1, 3) := gX10_count_36.2.1
theorem dX10_count_115 : decode cX10_count 115 = .ok (.goto (-47), 3) := gX10_count_36.2.2.1
theorem dX10_count_118 : decode cX10_count 118 = .ok (.iload_n 2, 1) := gX10_count_36.2.2.2.1
theorem dX10_count_119 : decode cX10_count 119 = .ok (.ireturn, 1) := gX10_count_36.2.2.2.2.1
theorem dX10_count_120 : decode cX10_count 120 = .ok (.aload_n 0, 1) := gX10_count_36.2.2.2.2.2.1
theorem dX10_count_121 : decode cX10_count 121 = .ok (.getfield 177, 3) := gX10_count_36.2.2.2.2.2.2.1
theorem dX10_count_124 : decode cX10_count 124 = .ok (.ireturn, 1) := gX10_count_36.2.2.2.2.2.2.2.1
theorem dX10_count_125 : decode cX10_count 125 = .ok (.aload_n 0, 1) := gX10_count_36.2.2.2.2.2.2.2.2.1
theorem dX10_count_126 : decode cX10_count 126 = .ok (.invokevirtual 160, 3) := gX10_count_36.2.2.2.2.2.2.2.2.2.1
theorem dX10_count_129 : decode cX10_count 129 = .ok (.ifCond .eq 7, 3) := gX10_count_36.2.2.2.2.2.2.2.2.2.2.1
theorem dX10_count_132 : decode cX10_count 132 = .ok (.iconst 1, 1) := gX10_count_36.2.2.2.2.2.2.2.2.2.2.2
theorem gX10_count_48 : (decode cX10_count 133 = .ok (.goto 4, 3)) ∧ (decode cX10_count 136 = .ok (.iconst 0, 1)) ∧ (decode cX10_count 137 = .ok (.ireturn, 1)) ∧ (decode cX10_count 138 = .ok (.aload_n 0, 1)) ∧ (decode cX10_count 139 = .ok (.getfield 356, 3)) ∧ (decode cX10_count 142 = .ok (.ifCond .eq 7, 3)) ∧ (decode cX10_count 145 = .ok (.iconst 1, 1)) ∧ (decode cX10_count 146 = .ok (.goto 4, 3)) ∧ (decode cX10_count 149 = .ok (.iconst 0, 1)) ∧ (decode cX10_count 150 = .ok (.ireturn, 1)) ∧ (decode cX10_count 151 = .ok (.aload_n 0, 1)) ∧ (decode cX10_count 152 = .ok (.getfield 362, 3)) := by decide +kernel
theorem dX10_count_133 : decode cX10_count 133 = .ok (.goto 4, 3) := gX10_count_48.1
theorem dX10_count_136 : decode cX10_count 136 = .ok (.iconst 0, 1) := gX10_count_48.2.1
theorem dX10_count_137 : decode cX10_count 137 = .ok (.ireturn, 1) := gX10_count_48.2.2.1
theorem dX10_count_138 : decode cX10_count 138 = .ok (.aload_n 0, 1) := gX10_count_48.2.2.2.1
theorem dX10_count_139 : decode cX10_count 139 = .ok (.getfield 356, 3) := gX10_count_48.2.2.2.2.1
theorem dX10_count_142 : decode cX10_count 142 = .ok (.ifCond .eq 7, 3) := gX10_count_48.2.2.2.2.2.1
theorem dX10_count_145 : decode cX10_count 145 = .ok (.iconst 1, 1) := gX10_count_48.2.2.2.2.2.2.1
theorem dX10_count_146 : decode cX10_count 146 = .ok (.goto 4, 3) := gX10_count_48.2.2.2.2.2.2.2.1
theorem dX10_count_149 : decode cX10_count 149 = .ok (.iconst 0, 1) := gX10_count_48.2.2.2.2.2.2.2.2.1
theorem dX10_count_150 : decode cX10_count 150 = .ok (.ireturn, 1) := gX10_count_48.2.2.2.2.2.2.2.2.2.1
theorem dX10_count_151 : decode cX10_count 151 = .ok (.aload_n 0, 1) := gX10_count_48.2.2.2.2.2.2.2.2.2.2.1
theorem dX10_count_152 : decode cX10_count 152 = .ok (.getfield 362, 3) := gX10_count_48.2.2.2.2.2.2.2.2.2.2.2
theorem gX10_count_60 : (decode cX10_count 155 = .ok (.ifCond .eq 7, 3)) ∧ (decode cX10_count 158 = .ok (.iconst 1, 1)) ∧ (decode cX10_count 159 = .ok (.goto 4, 3)) ∧ (decode cX10_count 162 = .ok (.iconst 0, 1)) ∧ (decode cX10_count 163 = .ok (.ireturn, 1)) ∧ (decode cX10_count 164 = .ok (.aload_n 0, 1)) ∧ (decode cX10_count 165 = .ok (.invokevirtual 371, 3)) ∧ (decode cX10_count 168 = .ok (.ireturn, 1)) ∧ (decode cX10_count 169 = .ok (.aload_n 0, 1)) ∧ (decode cX10_count 170 = .ok (.getfield 223, 3)) ∧ (decode cX10_count 173 = .ok (.ireturn, 1)) ∧ (decode cX10_count 174 = .ok (.iload_n 1, 1)) := by decide +kernel
theorem dX10_count_155 : decode cX10_count 155 = .ok (.ifCond .eq 7, 3) := gX10_count_60.1
theorem dX10_count_158 : decode cX10_count 158 = .ok (.iconst 1, 1) := gX10_count_60.2.1
theorem dX10_count_159 : decode cX10_count 159 = .ok (.goto 4, 3) := gX10_count_60.2.2.1
theorem dX10_count_162 : decode cX10_count 162 = .ok (.iconst 0, 1) := gX10_count_60.2.2.2.1
theorem dX10_count_163 : decode cX10_count 163 = .ok (.ireturn, 1) := gX10_count_60.2.2.2.2.1
theorem dX10_count_164 : decode cX10_count 164 = .ok (.aload_n 0, 1) := gX10_count_60.2.2.2.2.2.1
theorem dX10_count_165 : decode cX10_count 165 = .ok (.invokevirtual 371, 3) := gX10_count_60.2.2.2.2.2.2.1
theorem dX10_count_168 : decode cX10_count 168 = .ok (.ireturn, 1) := gX10_count_60.2.2.2.2.2.2.2.1
theorem dX10_count_169 : decode cX10_count 169 = .ok (.aload_n 0, 1) := gX10_count_60.2.2.2.2.2.2.2.2.1
theorem dX10_count_170 : decode cX10_count 170 = .ok (.getfield 223, 3) := gX10_count_60.2.2.2.2.2.2.2.2.2.1
theorem dX10_count_173 : decode cX10_count 173 = .ok (.ireturn, 1) := gX10_count_60.2.2.2.2.2.2.2.2.2.2.1
theorem dX10_count_174 : decode cX10_count 174 = .ok (.iload_n 1, 1) := gX10_count_60.2.2.2.2.2.2.2.2.2.2.2
theorem gX10_count_72 : (decode cX10_count 175 = .ok (.bipush 11, 2)) ∧ (decode cX10_count 177 = .ok (.bipush 17, 2)) ∧ (decode cX10_count 179 = .ok (.invokestatic 144, 3)) ∧ (decode cX10_count 182 = .ok (.ifCond .eq 15, 3)) ∧ (decode cX10_count 185 = .ok (.aload_n 0, 1)) ∧ (decode cX10_count 186 = .ok (.getfield 51, 3)) ∧ (decode cX10_count 189 = .ok (.iload_n 1, 1)) ∧ (decode cX10_count 190 = .ok (.bipush 10, 2)) ∧ (decode cX10_count 192 = .ok (.isub, 1)) ∧ (decode cX10_count 193 = .ok (.iaload, 1)) ∧ (decode cX10_count 194 = .ok (.goto 5, 3)) ∧ (decode cX10_count 197 = .ok (.bipush (-9), 2)) := by decide +kernel
theorem dX10_count_175 : decode cX10_count 175 = .ok (.bipush 11, 2) := gX10_count_72.1
theorem dX10_count_177 : decode cX10_count 177 = .ok (.bipush 17, 2) := gX10_count_72.2.1
theorem dX10_count_179 : decode cX10_count 179 = .ok (.invokestatic 144, 3) := gX10_count_72.2.2.1
theorem dX10_count_182 : decode cX10_count 182 = .ok (.ifCond .eq 15, 3) := gX10_count_72.2.2.2.1
theorem dX10_count_185 : decode cX10_count 185 = .ok (.aload_n 0, 1) := gX10_count_72.2.2.2.2.1
theorem dX10_count_186 : decode cX10_count 186 = .ok (.getfield 51, 3) := gX10_count_72.2.2.2.2.2.1
theorem dX10_count_189 : decode cX10_count 189 = .ok (.iload_n 1, 1) := gX10_count_72.2.2.2.2.2.2.1
theorem dX10_count_190 : decode cX10_count 190 = .ok (.bipush 10, 2) := gX10_count_72.2.2.2.2.2.2.2.1
theorem dX10_count_192 : decode cX10_count 192 = .ok (.isub, 1) := gX10_count_72.2.2.2.2.2.2.2.2.1
theorem dX10_count_193 : decode cX10_count 193 = .ok (.iaload, 1) := gX10_count_72.2.2.2.2.2.2.2.2.2.1
theorem dX10_count_194 : decode cX10_count 194 = .ok (.goto 5, 3) := gX10_count_72.2.2.2.2.2.2.2.2.2.2.1
theorem dX10_count_197 : decode cX10_count 197 = .ok (.bipush (-9), 2) := gX10_count_72.2.2.2.2.2.2.2.2.2.2.2
theorem gX10_count_84 : (decode cX10_count 199 = .ok (.ireturn, 1)) := by decide +kernel
theorem dX10_count_199 : decode cX10_count 199 = .ok (.ireturn, 1) := gX10_count_84
