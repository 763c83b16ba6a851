theorem gX10_init_0 : (decode cX10_init 0 = .ok (.aload_n 0, 1)) ∧ (decode cX10_init 1 = .ok (.invokespecial 1, 3)) ∧ (decode cX10_init 4 = .ok (.aload_n 0, 1)) ∧ (decode cX10_init 5 = .ok (.iconst (-1), 1)) ∧ (decode cX10_init 6 = .ok (.putfield 7, 3)) ∧ (decode cX10_init 9 = .ok (.aload_n 0, 1)) ∧ (decode cX10_init 10 = .ok (.iconst 4, 1)) ∧ (decode cX10_init 11 = .ok (.newarray .int, 2)) ∧ (decode cX10_init 13 = .ok (.dup, 1)) ∧ (decode cX10_init 14 = .ok (.iconst 0, 1)) ∧ (decode cX10_init 15 = .ok (.sipush 1000, 3)) ∧ (decode cX10_init 18 = .ok (.iastore, 1)) := by decide +kernel
theorem dX10_init_0 : decode cX10_init 0 = .ok (.aload_n 0, 1) := gX10_init_0.1
theorem dX10_init_1 : decode cX10_init 1 = .ok (.invokespecial 1, 3) := gX10_init_0.2.1
theorem dX10_init_4 : decode cX10_init 4 = .ok (.aload_n 0, 1) := gX10_init_0.2.2.1
theorem dX10_init_5 : decode cX10_init 5 = .ok (.iconst (-1), 1) := gX10_init_0.2.2.2.1
theorem dX10_init_6 : decode cX10_init 6 = .ok (.putfield 7, 3) := gX10_init_0.2.2.2.2.1
theorem dX10_init_9 : decode cX10_init 9 = .ok (.aload_n 0, 1) := gX10_init_0.2.2.2.2.2.1
theorem dX10_init_10 : decode cX10_init 10 = .ok (.iconst 4, 1) := gX10_init_0.2.2.2.2.2.2.1
theorem dX10_init_11 : decode cX10_init 11 = .ok (.newarray .int, 2) := gX10_init_0.2.2.2.2.2.2.2.1
theorem dX10_init_13 : decode cX10_init 13 = .ok (.dup, 1) := gX10_init_0.2.2.2.2.2.2.2.2.1
theorem dX10_init_14 : decode cX10_init 14 = .ok (.iconst 0, 1) := gX10_init_0.2.2.2.2.2.2.2.2.2.1
theorem dX10_init_15 : decode cX10_init 15 = .ok (.sipush 1000, 3) := gX10_init_0.2.2.2.2.2.2.2.2.2.2.1
theorem dX10_init_18 : decode cX10_init 18 = .ok (.iastore, 1) := gX10_init_0.2.2.2.2.2.2.2.2.2.2.2
theorem gX10_init_12 : (decode cX10_init 19 = .ok (.dup, 1)) ∧ (decode cX10_init 20 = .ok (.iconst 1, 1)) ∧ (decode cX10_init 21 = .ok (.sipush 1000, 3)) ∧ (decode cX10_init 24 = .ok (.iastore, 1)) ∧ (decode cX10_init 25 = .ok (.dup, 1)) ∧ (decode cX10_init 26 = .ok (.iconst 2, 1)) ∧ (decode cX10_init 27 = .ok (.sipush 1000, 3)) ∧ (decode cX10_init 30 = .ok (.iastore, 1)) ∧ (decode cX10_init 31 = .ok (.dup, 1)) ∧ (decode cX10_init 32 = .ok (.iconst 3, 1)) ∧ (decode cX10_init 33 = .ok (.sipush 1000, 3)) ∧ (decode cX10_init 36 = .ok (.iastore, 1)) := by decide +kernel
theorem dX10_init_19 : decode cX10_init 19 = .ok (.dup, 1) := gX10_init_12.1
theorem dX10_init_20 : decode cX10_init 20 = .ok (.iconst 1, 1) := gX10_init_12.2.1
theorem dX10_init_21 : decode cX10_init 21 = .ok (.sipush 1000, 3) := gX10_init_12.2.2.1
theorem dX10_init_24 : decode cX10_init 24 = .ok (.iastore, 1) := gX10_init_12.2.2.2.1
theorem dX10_init_25 : decode cX10_init 25 = .ok (.dup, 1) := gX10_init_12.2.2.2.2.1
theorem dX10_init_26 : decode cX10_init 26 = .ok (.iconst 2, 1) := gX10_init_12.2.2.2.2.2.1
theorem dX10_init_27 : decode cX10_init 27 = .ok (.sipush 1000, 3) := gX10_init_12.2.2.2.2.2.2.1
theorem dX10_init_30 : decode cX10_init 30 = .ok (.iastore, 1) := gX10_init_12.2.2.2.2.2.2.2.1
theorem dX10_init_31 : decode cX10_init 31 = .ok (.dup, 1) := gX10_init_12.2.2.2.2.2.2.2.2.1
theorem dX10_init_32 : decode cX10_init 32 = .ok (.iconst 3, 1) := gX10_init_12.2.2.2.2.2.2.2.2.2.1
theorem dX10_init_33 : decode cX10_init 33 = .ok (.sipush 1000, 3) := gX10_init_12.2.2.2.2.2.2.2.2.2.2.1
theorem dX10_init_36 : decode cX10_init 36 = .ok (.iastore, 1) := gX10_init_12.2.2.2.2.2.2.2.2.2.2.2
theorem gX10_init_24 : (decode cX10_init 37 = .ok (.putfield 13, 3)) ∧ (decode cX10_init 40 = .ok (.aload_n 0, 1)) ∧ (decode cX10_init 41 = .ok (.iconst 1, 1)) ∧ (decode cX10_init 42 = .ok (.putfield 17, 3)) ∧ (decode cX10_init 45 = .ok (.aload_n 0, 1)) ∧ (decode cX10_init 46 = .ok (.bipush 48, 2)) ∧ (decode cX10_init 48 = .ok (.newarray .boolean, 2)) ∧ (decode cX10_init 50 = .ok (.putfield 20, 3)) ∧ (decode cX10_init 53 = .ok (.aload_n 0, 1)) ∧ (decode cX10_init 54 = .ok (.bipush 48, 2)) ∧ (decode cX10_init 56 = .ok (.newarray .int, 2)) ∧ (decode cX10_init 58 = .ok (.putfield 24, 3)) := by decide +kernel
theorem dX10_init_37 : decode cX10_init 37 = .ok (.putfield 13, 3) := gX10_init_24.1
theorem dX10_init_40 : decode cX10_init 40 = .ok (.aload_n 0, 1) := gX10_init_24.2.1
theorem dX10_init_41 : decode cX10_init 41 = .ok (.iconst 1, 1) := gX10_init_24.2.2.1
theorem dX10_init_42 : decode cX10_init 42 = .ok (.putfield 17, 3) := gX10_init_24.2.2.2.1
theorem dX10_init_45 : decode cX10_init 45 = .ok (.aload_n 0, 1) := gX10_init_24.2.2.2.2.1
theorem dX10_init_46 : decode cX10_init 46 = .ok (.bipush 48, 2) := gX10_init_24.2.2.2.2.2.1
theorem dX10_init_48 : decode cX10_init 48 = .ok (.newarray .boolean, 2) := gX10_init_24.2.2.2.2.2.2.1
theorem dX10_init_50 : decode cX10_init 50 = .ok (.putfield 20, 3) := gX10_init_24.2.2.2.2.2.2.2.1
theorem dX10_init_53 : decode cX10_init 53 = .ok (.aload_n 0, 1) := gX10_init_24.2.2.2.2.2.2.2.2.1
theorem dX10_init_54 : decode cX10_init 54 = .ok (.bipush 48, 2) := gX10_init_24.2.2.2.2.2.2.2.2.2.1
theorem dX10_init_56 : decode cX10_init 56 = .ok (.newarray .int, 2) := gX10_init_24.2.2.2.2.2.2.2.2.2.2.1
theorem dX10_init_58 : decode cX10_init 58 = .ok (.putfield 24, 3) := gX10_init_24.2.2.2.2.2.2.2.2.2.2.2
theorem gX10_init_36 : (decode cX10_init 61 = .ok (.aload_n 0, 1)) ∧ (decode cX10_init 62 = .ok (.sipush 192, 3)) ∧ (decode cX10_init 65 = .ok (.newarray .int, 2)) ∧ (decode cX10_init 67 = .ok (.putfield 27, 3)) ∧ (decode cX10_init 70 = .ok (.aload_n 0, 1)) ∧ (decode cX10_init 71 = .ok (.bipush 48, 2)) ∧ (decode cX10_init 73 = .ok (.newarray .int, 2)) ∧ (decode cX10_init 75 = .ok (.putfield 30, 3)) ∧ (decode cX10_init 78 = .ok (.aload_n 0, 1)) ∧ (decode cX10_init 79 = .ok (.bipush 48, 2)) ∧ (decode cX10_init 81 = .ok (.newarray .int, 2)) ∧ (decode cX10_init 83 = .ok (.putfield 33, 3)) := by decide +kernel
theorem dX10_init_61 : decode cX10_init 61 = .ok (.aload_n 0, 1) := gX10_init_36.1
theorem dX10_init_62 : decode cX10_init 62 = .ok (.sipush 192, 3) := gX10_init_36.2.1
theorem dX10_init_65 : decode cX10_init 65 = .ok (.newarray .int, 2) := gX10_init_36.2.2.1
theorem dX10_init_67 : decode cX10_init 67 = .ok (.putfield 27, 3) := gX10_init_36.2.2.2.1
theorem dX10_init_70 : decode cX10_init 70 = .ok (.aload_n 0, 1) := gX10_init_36.2.2.2.2.1
theorem dX10_init_71 : decode cX10_init 71 = .ok (.bipush 48, 2) := gX10_init_36.2.2.2.2.2.1
theorem dX10_init_73 : decode cX10_init 73 = .ok (.newarray .int, 2) := gX10_init_36.2.2.2.2.2.2.1
theorem dX10_init_75 : decode cX10_init 75 = .ok (.putfield 30, 3) := gX10_init_36.2.2.2.2.2.2.2.1
theorem dX10_init_78 : decode cX10_init 78 = .ok (.aload_n 0, 1) := gX10_init_36.2.2.2.2.2.2.2.2.1
theorem dX10_init_79 : decode cX10_init 79 = .ok (.bipush 48, 2) := gX10_init_36.2.2.2.2.2.2.2.2.2.1
theorem dX10_init_81 : decode cX10_init 81 = .ok (.newarray .int, 2) := gX10_init_36.2.2.2.2.2.2.2.2.2.2.1
theorem dX10_init_83 : decode cX10_init 83 = .ok (.putfield 33, 3) := gX10_init_36.2.2.2.2.2.2.2.2.2.2.2
theorem gX10_init_48 : (decode cX10_init 86 = .ok (.aload_n 0, 1)) ∧ (decode cX10_init 87 = .ok (.bipush 48, 2)) ∧ (decode cX10_init 89 = .ok (.newarray .boolean, 2)) ∧ (decode cX10_init 91 = .ok (.putfield 36, 3)) ∧ (decode cX10_init 94 = .ok (.aload_n 0, 1)) ∧ (decode cX10_init 95 = .ok (.bipush 48, 2)) ∧ (decode cX10_init 97 = .ok (.newarray .int, 2)) ∧ (decode cX10_init 99 = .ok (.putfield 39, 3)) ∧ (decode cX10_init 102 = .ok (.aload_n 0, 1)) ∧ (decode cX10_init 103 = .ok (.iconst 4, 1)) ∧ (decode cX10_init 104 = .ok (.newarray .int, 2)) ∧ (decode cX10_init 106 = .ok (.dup, 1)) := by decide +kernel
theorem dX10_init_86 : decode cX10_init 86 = .ok (.aload_n 0, 1) := gX10_init_48.1
theorem dX10_init_87 : decode cX10_init 87 = .ok (.bipush 48, 2) := gX10_init_48.2.1
theorem dX10_init_89 : decode cX10_init 89 = .ok (.newarray .boolean, 2) := gX10_init_48.2.2.1
theorem dX10_init_91 : decode cX10_init 91 = .ok (.putfield 36, 3) := gX10_init_48.2.2.2.1
theorem dX10_init_94 : decode cX10_init 94 = .ok (.aload_n 0, 1) := gX10_init_48.2.2.2.2.1
theorem dX10_init_95 : decode cX10_init 95 = .ok (.bipush 48, 2) := gX10_init_48.2.2.2.2.2.1
theorem dX10_init_97 : decode cX10_init 97 = .ok (.newarray .int, 2) := gX10_init_48.2.2.2.2.2.2.1
theorem dX10_init_99 : decode cX10_init 99 = .ok (.putfield 39, 3) := gX10_init_48.2.2.2.2.2.2.2.1
theorem dX10_init_102 : decode cX10_init 102 = .ok (.aload_n 0, 1) := gX10_init_48.2.2.2.2.2.2.2.2.1
theorem dX10_init_103 : decode cX10_init 103 = .ok (.iconst 4, 1) := gX10_init_48.2.2.2.2.2.2.2.2.2.1
theorem dX10_init_104 : decode cX10_init 104 = .ok (.newarray .int, 2) := gX10_init_48.2.2.2.2.2.2.2.2.2.2.1
theorem dX10_init_106 : decode cX10_init 106 = .ok (.dup, 1) := gX10_init_48.2.2.2.2.2.2.2.2.2.2.2
theorem gX10_init_60 : (decode cX10_init 107 = .ok (.iconst 0, 1)) ∧ (decode cX10_init 108 = .ok (.iconst 0, 1)) ∧ (decode cX10_init 109 = .ok (.iastore, 1)) ∧ (decode cX10_init 110 = .ok (.dup, 1)) ∧ (decode cX10_init 111 = .ok (.iconst 1, 1)) ∧ (decode cX10_init 112 = .ok (.iconst 0, 1)) ∧ (decode cX10_init 113 = .ok (.iastore, 1)) ∧ (decode cX10_init 114 = .ok (.dup, 1)) ∧ (decode cX10_init 115 = .ok (.iconst 2, 1)) ∧ (decode cX10_init 116 = .ok (.iconst 0, 1)) ∧ (decode cX10_init 117 = .ok (.iastore, 1)) ∧ (decode cX10_init 118 = .ok (.dup, 1)) := by decide +kernel
theorem dX10_init_107 : decode cX10_init 107 = .ok (.iconst 0, 1) := gX10_init_60.1
theorem dX10_init_108 : decode cX10_init 108 = .ok (.iconst 0, 1) := gX10_init_60.2.1
theorem dX10_init_109 : decode cX10_init 109 = .ok (.iastore, 1) := gX10_init_60.2.2.1
theorem dX10_init_110 : decode cX10_init 110 = .ok (.dup, 1) := gX10_init_60.2.2.2.1
theorem dX10_init_111 : decode cX10_init 111 = .ok (.iconst 1, 1) := gX10_init_60.2.2.2.2.1
theorem dX10_init_112 : decode cX10_init 112 = .ok (.iconst 0, 1) := gX10_init_60.2.2.2.2.2.1
theorem dX10_init_113 : decode cX10_init 113 = .ok (.iastore, 1) := gX10_init_60.2.2.2.2.2.2.1
theorem dX10_init_114 : decode cX10_init 114 = .ok (.dup, 1) := gX10_init_60.2.2.2.2.2.2.2.1
theorem dX10_init_115 : decode cX10_init 115 = .ok (.iconst 2, 1) := gX10_init_60.2.2.2.2.2.2.2.2.1
theorem dX10_init_116 : decode cX10_init 116 = .ok (.iconst 0, 1) := gX10_init_60.2.2.2.2.2.2.2.2.2.1
theorem dX10_init_117 : decode cX10_init 117 = .ok (.iastore, 1) := gX10_init_60.2.2.2.2.2.2.2.2.2.2.1
theorem dX10_init_118 : decode cX10_init 118 = .ok (.dup, 1) := gX10_init_60.2.2.2.2.2.2.2.2.2.2.2
theorem gX10_init_72 : (decode cX10_init 119 = .ok (.iconst 3, 1)) ∧ (decode cX10_init 120 = .ok (.bipush 50, 2)) ∧ (decode cX10_init 122 = .ok (.iastore, 1)) ∧ (decode cX10_init 123 = .ok (.putfield 42, 3)) ∧ (decode cX10_init 126 = .ok (.aload_n 0, 1)) ∧ (decode cX10_init 127 = .ok (.sipush 288, 3)) ∧ (decode cX10_init 130 = .ok (.newarray .int, 2)) ∧ (decode cX10_init 132 = .ok (.putfield 45, 3)) ∧ (decode cX10_init 135 = .ok (.aload_n 0, 1)) ∧ (decode cX10_init 136 = .ok (.bipush 48, 2)) ∧ (decode cX10_init 138 = .ok (.newarray .boolean, 2)) ∧ (decode cX10_init 140 = .ok (.putfield 48, 3)) := by decide +kernel
theorem dX10_init_119 : decode cX10_init 119 = .ok (.iconst 3, 1) := gX10_init_72.1
theorem dX10_init_120 : decode cX10_init 120 = .ok (.bipush 50, 2) := gX10_init_72.2.1
theorem dX10_init_122 : decode cX10_init 122 = .ok (.iastore, 1) := gX10_init_72.2.2.1
theorem dX10_init_123 : decode cX10_init 123 = .ok (.putfield 42, 3) := gX10_init_72.2.2.2.1
theorem dX10_init_126 : decode cX10_init 126 = .ok (.aload_n 0, 1) := gX10_init_72.2.2.2.2.1
theorem dX10_init_127 : decode cX10_init 127 = .ok (.sipush 288, 3) := gX10_init_72.2.2.2.2.2.1
theorem dX10_init_130 : decode cX10_init 130 = .ok (.newarray .int, 2) := gX10_init_72.2.2.2.2.2.2.1
theorem dX10_init_132 : decode cX10_init 132 = .ok (.putfield 45, 3) := gX10_init_72.2.2.2.2.2.2.2.1
theorem dX10_init_135 : decode cX10_init 135 = .ok (.aload_n 0, 1) := gX10_init_72.2.2.2.2.2.2.2.2.1
theorem dX10_init_136 : decode cX10_init 136 = .ok (.bipush 48, 2) := gX10_init_72.2.2.2.2.2.2.2.2.2.1
theorem dX10_init_138 : decode cX10_init 138 = .ok (.newarray .boolean, 2) := gX10_init_72.2.2.2.2.2.2.2.2.2.2.1
theorem dX10_init_140 : decode cX10_init 140 = .ok (.putfield 48, 3) := gX10_init_72.2.2.2.2.2.2.2.2.2.2.2
theorem gX10_init_84 : (decode cX10_init 143 = .ok (.aload_n 0, 1)) ∧ (decode cX10_init 144 = .ok (.bipush 8, 2)) ∧ (decode cX10_init 146 = .ok (.newarray .int, 2)) ∧ (decode cX10_init 148 = .ok (.putfield 51, 3)) ∧ (decode cX10_init 151 = .ok (.aload_n 0, 1)) ∧ (decode cX10_init 152 = .ok (.bipush 80, 2)) ∧ (decode cX10_init 154 = .ok (.newarray .int, 2)) ∧ (decode cX10_init 156 = .ok (.putfield 54, 3)) ∧ (decode cX10_init 159 = .ok (.aload_n 0, 1)) ∧ (decode cX10_init 160 = .ok (.bipush 80, 2)) ∧ (decode cX10_init 162 = .ok (.newarray .int, 2)) ∧ (decode cX10_init 164 = .ok (.putfield 57, 3)) := by decide +kernel
theorem dX10_init_143 : decode cX10_init 143 = .ok (.aload_n 0, 1) := gX10_init_84.1
theorem dX10_init_144 : decode cX10_init 144 = .ok (.bipush 8, 2) := gX10_init_84.2.1
theorem dX10_init_146 : decode cX10_init 146 = .ok (.newarray .int, 2) := gX10_init_84.2.2.1
theorem dX10_init_148 : decode cX10_init 148 = .ok (.putfield 51, 3) := gX10_init_84.2.2.2.1
theorem dX10_init_151 : decode cX10_init 151 = .ok (.aload_n 0, 1) := gX10_init_84.2.2.2.2.1
theorem dX10_init_152 : decode cX10_init 152 = .ok (.bipush 80, 2) := gX10_init_84.2.2.2.2.2.1
theorem dX10_init_154 : decode cX10_init 154 = .ok (.newarray .int, 2) := gX10_init_84.2.2.2.2.2.2.1
theorem dX10_init_156 : decode cX10_init 156 = .ok (.putfield 54, 3) := gX10_init_84.2.2.2.2.2.2.2.1
theorem dX10_init_159 : decode cX10_init 159 = .ok (.aload_n 0, 1) := gX10_init_84.2.2.2.2.2.2.2.2.1
theorem dX10_init_160 : decode cX10_init 160 = .ok (.bipush 80, 2) := gX10_init_84.2.2.2.2.2.2.2.2.2.1
theorem dX10_init_162 : decode cX10_init 162 = .ok (.newarray .int, 2) := gX10_init_84.2.2.2.2.2.2.2.2.2.2.1
theorem dX10_init_164 : decode cX10_init 164 = .ok (.putfield 57, 3) := gX10_init_84.2.2.2.2.2.2.2.2.2.2.2
theorem gX10_init_96 : (decode cX10_init 167 = .ok (.aload_n 0, 1)) ∧ (decode cX10_init 168 = .ok (.bipush 7, 2)) ∧ (decode cX10_init 170 = .ok (.newarray .long, 2)) ∧ (decode cX10_init 172 = .ok (.putfield 60, 3)) ∧ (decode cX10_init 175 = .ok (.aload_n 0, 1)) ∧ (decode cX10_init 176 = .ok (.bipush 7, 2)) ∧ (decode cX10_init 178 = .ok (.newarray .long, 2)) ∧ (decode cX10_init 180 = .ok (.putfield 64, 3)) ∧ (decode cX10_init 183 = .ok (.aload_n 0, 1)) ∧ (decode cX10_init 184 = .ok (.bipush 100, 2)) ∧ (decode cX10_init 186 = .ok (.newarray .long, 2)) ∧ (decode cX10_init 188 = .ok (.putfield 67, 3)) := by decide +kernel
theorem dX10_init_167 : decode cX10_init 167 = .ok (.aload_n 0, 1) := gX10_init_96.1
theorem dX10_init_168 : decode cX10_init 168 = .ok (.bipush 7, 2) := gX10_init_96.2.1
theorem dX10_init_170 : decode cX10_init 170 = .ok (.newarray .long, 2) := gX10_init_96.2.2.1
theorem dX10_init_172 : decode cX10_init 172 = .ok (.putfield 60, 3) := gX10_init_96.2.2.2.1
theorem dX10_init_175 : decode cX10_init 175 = .ok (.aload_n 0, 1) := gX10_init_96.2.2.2.2.1
theorem dX10_init_176 : decode cX10_init 176 = .ok (.bipush 7, 2) := gX10_init_96.2.2.2.2.2.1
theorem dX10_init_178 : decode cX10_init 178 = .ok (.newarray .long, 2) := gX10_init_96.2.2.2.2.2.2.1
theorem dX10_init_180 : decode cX10_init 180 = .ok (.putfield 64, 3) := gX10_init_96.2.2.2.2.2.2.2.1
theorem dX10_init_183 : decode cX10_init 183 = .ok (.aload_n 0, 1) := gX10_init_96.2.2.2.2.2.2.2.2.1
theorem dX10_init_184 : decode cX10_init 184 = .ok (.bipush 100, 2) := gX10_init_96.2.2.2.2.2.2.2.2.2.1
theorem dX10_init_186 : decode cX10_init 186 = .ok (.newarray .long, 2) := gX10_init_96.2.2.2.2.2.2.2.2.2.2.1
theorem dX10_init_188 : decode cX10_init 188 = .ok (.putfield 67, 3) := gX10_init_96.2.2.2.2.2.2.2.2.2.2.2
theorem gX10_init_108 : (decode cX10_init 191 = .ok (.aload_n 0, 1)) ∧ (decode cX10_init 192 = .ok (.bipush 100, 2)) ∧ (decode cX10_init 194 = .ok (.newarray .long, 2)) ∧ (decode cX10_init 196 = .ok (.putfield 70, 3)) ∧ (decode cX10_init 199 = .ok (.aload_n 0, 1)) ∧ (decode cX10_init 200 = .ok (.bipush 100, 2)) ∧ (decode cX10_init 202 = .ok (.newarray .int, 2)) ∧ (decode cX10_init 204 = .ok (.putfield 73, 3)) ∧ (decode cX10_init 207 = .ok (.aload_n 0, 1)) ∧ (decode cX10_init 208 = .ok (.bipush 8, 2)) ∧ (decode cX10_init 210 = .ok (.newarray .int, 2)) ∧ (decode cX10_init 212 = .ok (.putfield 76, 3)) := by decide +kernel
theorem dX10_init_191 : decode cX10_init 191 = .ok (.aload_n 0, 1) := gX10_init_108.1
theorem dX10_init_192 : decode cX10_init 192 = .ok (.bipush 100, 2) := gX10_init_108.2.1
theorem dX10_init_194 : decode cX10_init 194 = .ok (.newarray .long, 2) := gX10_init_108.2.2.1
theorem dX10_init_196 : decode cX10_init 196 = .ok (.putfield 70, 3) := gX10_init_108.2.2.2.1
theorem dX10_init_199 : decode cX10_init 199 = .ok (.aload_n 0, 1) := gX10_init_108.2.2.2.2.1
theorem dX10_init_200 : decode cX10_init 200 = .ok (.bipush 100, 2) := gX10_init_108.2.2.2.2.2.1
theorem dX10_init_202 : decode cX10_init 202 = .ok (.newarray .int, 2) := gX10_init_108.2.2.2.2.2.2.1
theorem dX10_init_204 : decode cX10_init 204 = .ok (.putfield 73, 3) := gX10_init_108.2.2.2.2.2.2.2.1
theorem dX10_init_207 : decode cX10_init 207 = .ok (.aload_n 0, 1) := gX10_init_108.2.2.2.2.2.2.2.2.1
theorem dX10_init_208 : decode cX10_init 208 = .ok (.bipush 8, 2) := gX10_init_108.2.2.2.2.2.2.2.2.2.1
theorem dX10_init_210 : decode cX10_init 210 = .ok (.newarray .int, 2) := gX10_init_108.2.2.2.2.2.2.2.2.2.2.1
theorem dX10_init_212 : decode cX10_init 212 = .ok (.putfield 76, 3) := gX10_init_108.2.2.2.2.2.2.2.2.2.2.2
theorem gX10_init_120 : (decode cX10_init 215 = .ok (.aload_n 0, 1)) ∧ (decode cX10_init 216 = .ok (.bipush 8, 2)) ∧ (decode cX10_init 218 = .ok (.newarray .int, 2)) ∧ (decode cX10_init 220 = .ok (.putfield 79, 3)) ∧ (decode cX10_init 223 = .ok (.aload_n 0, 1)) ∧ (decode cX10_init 224 = .ok (.bipush 56, 2)) ∧ (decode cX10_init 226 = .ok (.newarray .int, 2)) ∧ (decode cX10_init 228 = .ok (.putfield 82, 3)) ∧ (decode cX10_init 231 = .ok (.aload_n 0, 1)) ∧ (decode cX10_init 232 = .ok (.bipush 6, 2)) ∧ (decode cX10_init 234 = .ok (.newarray .int, 2)) ∧ (decode cX10_init 236 = .ok (.putfield 85, 3)) := by decide +kernel
theorem dX10_init_215 : decode cX10_init 215 = .ok (.aload_n 0, 1) := gX10_init_120.1
theorem dX10_init_216 : decode cX10_init 216 = .ok (.bipush 8, 2) := gX10_init_120.2.1
theorem dX10_init_218 : decode cX10_init 218 = .ok (.newarray .int, 2) := gX10_init_120.2.2.1
theorem dX10_init_220 : decode cX10_init 220 = .ok (.putfield 79, 3) := gX10_init_120.2.2.2.1
theorem dX10_init_223 : decode cX10_init 223 = .ok (.aload_n 0, 1) := gX10_init_120.2.2.2.2.1
theorem dX10_init_224 : decode cX10_init 224 = .ok (.bipush 56, 2) := gX10_init_120.2.2.2.2.2.1
theorem dX10_init_226 : decode cX10_init 226 = .ok (.newarray .int, 2) := gX10_init_120.2.2.2.2.2.2.1
theorem dX10_init_228 : decode cX10_init 228 = .ok (.putfield 82, 3) := gX10_init_120.2.2.2.2.2.2.2.1
theorem dX10_init_231 : decode cX10_init 231 = .ok (.aload_n 0, 1) := gX10_init_120.2.2.2.2.2.2.2.2.1
theorem dX10_init_232 : decode cX10_init 232 = .ok (.bipush 6, 2) := gX10_init_120.2.2.2.2.2.2.2.2.2.1
theorem dX10_init_234 : decode cX10_init 234 = .ok (.newarray .int, 2) := gX10_init_120.2.2.2.2.2.2.2.2.2.2.1
theorem dX10_init_236 : decode cX10_init 236 = .ok (.putfield 85, 3) := gX10_init_120.2.2.2.2.2.2.2.2.2.2.2
theorem gX10_init_132 : (decode cX10_init 239 = .ok (.aload_n 0, 1)) ∧ (decode cX10_init 240 = .ok (.bipush 48, 2)) ∧ (decode cX10_init 242 = .ok (.newarray .int, 2)) ∧ (decode cX10_init 244 = .ok (.putfield 88, 3)) ∧ (decode cX10_init 247 = .ok (.aload_n 0, 1)) ∧ (decode cX10_init 248 = .ok (.bipush 6, 2)) ∧ (decode cX10_init 250 = .ok (.newarray .int, 2)) ∧ (decode cX10_init 252 = .ok (.putfield 91, 3)) ∧ (decode cX10_init 255 = .ok (.aload_n 0, 1)) ∧ (decode cX10_init 256 = .ok (.bipush 6, 2)) ∧ (decode cX10_init 258 = .ok (.newarray .int, 2)) ∧ (decode cX10_init 260 = .ok (.putfield 94, 3)) := by decide +kernel
theorem dX10_init_239 : decode cX10_init 239 = .ok (.aload_n 0, 1) := gX10_init_132.1
theorem dX10_init_240 : decode cX10_init 240 = .ok (.bipush 48, 2) := gX10_init_132.2.1
theorem dX10_init_242 : decode cX10_init 242 = .ok (.newarray .int, 2) := gX10_init_132.2.2.1
theorem dX10_init_244 : decode cX10_init 244 = .ok (.putfield 88, 3) := gX10_init_132.2.2.2.1
theorem dX10_init_247 : decode cX10_init 247 = .ok (.aload_n 0, 1) := gX10_init_132.2.2.2.2.1
theorem dX10_init_248 : decode cX10_init 248 = .ok (.bipush 6, 2) := gX10_init_132.2.2.2.2.2.1
theorem dX10_init_250 : decode cX10_init 250 = .ok (.newarray .int, 2) := gX10_init_132.2.2.2.2.2.2.1
theorem dX10_init_252 : decode cX10_init 252 = .ok (.putfield 91, 3) := gX10_init_132.2.2.2.2.2.2.2.1
theorem dX10_init_255 : decode cX10_init 255 = .ok (.aload_n 0, 1) := gX10_init_132.2.2.2.2.2.2.2.2.1
theorem dX10_init_256 : decode cX10_init 256 = .ok (.bipush 6, 2) := gX10_init_132.2.2.2.2.2.2.2.2.2.1
theorem dX10_init_258 : decode cX10_init 258 = .ok (.newarray .int, 2) := gX10_init_132.2.2.2.2.2.2.2.2.2.2.1
theorem dX10_init_260 : decode cX10_init 260 = .ok (.putfield 94, 3) := gX10_init_132.2.2.2.2.2.2.2.2.2.2.2
theorem gX10_init_144 : (decode cX10_init 263 = .ok (.aload_n 0, 1)) ∧ (decode cX10_init 264 = .ok (.bipush 8, 2)) ∧ (decode cX10_init 266 = .ok (.newarray .int, 2)) ∧ (decode cX10_init 268 = .ok (.putfield 97, 3)) ∧ (decode cX10_init 271 = .ok (.aload_n 0, 1)) ∧ (decode cX10_init 272 = .ok (.bipush 8, 2)) ∧ (decode cX10_init 274 = .ok (.newarray .int, 2)) ∧ (decode cX10_init 276 = .ok (.putfield 100, 3)) ∧ (decode cX10_init 279 = .ok (.aload_n 0, 1)) ∧ (decode cX10_init 280 = .ok (.bipush 6, 2)) ∧ (decode cX10_init 282 = .ok (.newarray .int, 2)) ∧ (decode cX10_init 284 = .ok (.putfield 103, 3)) := by decide +kernel
theorem dX10_init_263 : decode cX10_init 263 = .ok (.aload_n 0, 1) := gX10_init_144.1
theorem dX10_init_264 : decode cX10_init 264 = .ok (.bipush 8, 2) := gX10_init_144.2.1
theorem dX10_init_266 : decode cX10_init 266 = .ok (.newarray .int, 2) := gX10_init_144.2.2.1
theorem dX10_init_268 : decode cX10_init 268 = .ok (.putfield 97, 3) := gX10_init_144.2.2.2.1
theorem dX10_init_271 : decode cX10_init 271 = .ok (.aload_n 0, 1) := gX10_init_144.2.2.2.2.1
theorem dX10_init_272 : decode cX10_init 272 = .ok (.bipush 8, 2) := gX10_init_144.2.2.2.2.2.1
theorem dX10_init_274 : decode cX10_init 274 = .ok (.newarray .int, 2) := gX10_init_144.2.2.2.2.2.2.1
theorem dX10_init_276 : decode cX10_init 276 = .ok (.putfield 100, 3) := gX10_init_144.2.2.2.2.2.2.2.1
theorem dX10_init_279 : decode cX10_init 279 = .ok (.aload_n 0, 1) := gX10_init_144.2.2.2.2.2.2.2.2.1
theorem dX10_init_280 : decode cX10_init 280 = .ok (.bipush 6, 2) := gX10_init_144.2.2.2.2.2.2.2.2.2.1
theorem dX10_init_282 : decode cX10_init 282 = .ok (.newarray .int, 2) := gX10_init_144.2.2.2.2.2.2.2.2.2.2.1
theorem dX10_init_284 : decode cX10_init 284 = .ok (.putfield 103, 3) := gX10_init_144.2.2.2.2.2.2.2.2.2.2.2
theorem gX10_init_156 : (decode cX10_init 287 = .ok (.aload_n 0, 1)) ∧ (decode cX10_init 288 = .ok (.bipush 6, 2)) ∧ (decode cX10_init 290 = .ok (.newarray .int, 2)) ∧ (decode cX10_init 292 = .ok (.putfield 106, 3)) ∧ (decode cX10_init 295 = .ok (.aload_n 0, 1)) ∧ (decode cX10_init 296 = .ok (.bipush 6, 2)) ∧ (decode cX10_init 298 = .ok (.newarray .int, 2)) ∧ (decode cX10_init 300 = .ok (.putfield 109, 3)) ∧ (decode cX10_init 303 = .ok (.aload_n 0, 1)) ∧ (decode cX10_init 304 = .ok (.bipush 20, 2)) ∧ (decode cX10_init 306 = .ok (.newarray .int, 2)) ∧ (decode cX10_init 308 = .ok (.putfield 112, 3)) := by decide +kernel
theorem dX10_init_287 : decode cX10_init 287 = .ok (.aload_n 0, 1) := gX10_init_156.1
theorem dX10_init_288 : decode cX10_init 288 = .ok (.bipush 6, 2) := gX10_init_156.2.1
theorem dX10_init_290 : decode cX10_init 290 = .ok (.newarray .int, 2) := gX10_init_156.2.2.1
theorem dX10_init_292 : decode cX10_init 292 = .ok (.putfield 106, 3) := gX10_init_156.2.2.2.1
theorem dX10_init_295 : decode cX10_init 295 = .ok (.aload_n 0, 1) := gX10_init_156.2.2.2.2.1
theorem dX10_init_296 : decode cX10_init 296 = .ok (.bipush 6, 2) := gX10_init_156.2.2.2.2.2.1
theorem dX10_init_298 : decode cX10_init 298 = .ok (.newarray .int, 2) := gX10_init_156.2.2.2.2.2.2.1
theorem dX10_init_300 : decode cX10_init 300 = .ok (.putfield 109, 3) := gX10_init_156.2.2.2.2.2.2.2.1
theorem dX10_init_303 : decode cX10_init 303 = .ok (.aload_n 0, 1) := gX10_init_156.2.2.2.2.2.2.2.2.1
theorem dX10_init_304 : decode cX10_init 304 = .ok (.bipush 20, 2) := gX10_init_156.2.2.2.2.2.2.2.2.2.1
theorem dX10_init_306 : decode cX10_init 306 = .ok (.newarray .int, 2) := gX10_init_156.2.2.2.2.2.2.2.2.2.2.1
theorem dX10_init_308 : decode cX10_init 308 = .ok (.putfield 112, 3) := gX10_init_156.2.2.2.2.2.2.2.2.2.2.2
theorem gX10_init_168 : (decode cX10_init 311 = .ok (.aload_n 0, 1)) ∧ (decode cX10_init 312 = .ok (.bipush 20, 2)) ∧ (decode cX10_init 314 = .ok (.newarray .int, 2)) ∧ (decode cX10_init 316 = .ok (.putfield 115, 3)) ∧ (decode cX10_init 319 = .ok (.aload_n 0, 1)) ∧ (decode cX10_init 320 = .ok (.bipush 20, 2)) ∧ (decode cX10_init 322 = .ok (.newarray .boolean, 2)) ∧ (decode cX10_init 324 = .ok (.putfield 118, 3)) ∧ (decode cX10_init 327 = .ok (.aload_n 0, 1)) ∧ (decode cX10_init 328 = .ok (.iconst 4, 1)) ∧ (decode cX10_init 329 = .ok (.newarray .int, 2)) ∧ (decode cX10_init 331 = .ok (.putfield 121, 3)) := by decide +kernel
theorem dX10_init_311 : decode cX10_init 311 = .ok (.aload_n 0, 1) := gX10_init_168.1
theorem dX10_init_312 : decode cX10_init 312 = .ok (.bipush 20, 2) := gX10_init_168.2.1
theorem dX10_init_314 : decode cX10_init 314 = .ok (.newarray .int, 2) := gX10_init_168.2.2.1
theorem dX10_init_316 : decode cX10_init 316 = .ok (.putfield 115, 3) := gX10_init_168.2.2.2.1
theorem dX10_init_319 : decode cX10_init 319 = .ok (.aload_n 0, 1) := gX10_init_168.2.2.2.2.1
theorem dX10_init_320 : decode cX10_init 320 = .ok (.bipush 20, 2) := gX10_init_168.2.2.2.2.2.1
theorem dX10_init_322 : decode cX10_init 322 = .ok (.newarray .boolean, 2) := gX10_init_168.2.2.2.2.2.2.1
theorem dX10_init_324 : decode cX10_init 324 = .ok (.putfield 118, 3) := gX10_init_168.2.2.2.2.2.2.2.1
theorem dX10_init_327 : decode cX10_init 327 = .ok (.aload_n 0, 1) := gX10_init_168.2.2.2.2.2.2.2.2.1
theorem dX10_init_328 : decode cX10_init 328 = .ok (.iconst 4, 1) := gX10_init_168.2.2.2.2.2.2.2.2.2.1
theorem dX10_init_329 : decode cX10_init 329 = .ok (.newarray .int, 2) := gX10_init_168.2.2.2.2.2.2.2.2.2.2.1
theorem dX10_init_331 : decode cX10_init 331 = .ok (.putfield 121, 3) := gX10_init_168.2.2.2.2.2.2.2.2.2.2.2
theorem gX10_init_180 : (decode cX10_init 334 = .ok (.aload_n 0, 1)) ∧ (decode cX10_init 335 = .ok (.bipush 8, 2)) ∧ (decode cX10_init 337 = .ok (.newarray .int, 2)) ∧ (decode cX10_init 339 = .ok (.putfield 124, 3)) ∧ (decode cX10_init 342 = .ok (.aload_n 0, 1)) ∧ (decode cX10_init 343 = .ok (.bipush 8, 2)) ∧ (decode cX10_init 345 = .ok (.newarray .int, 2)) ∧ (decode cX10_init 347 = .ok (.putfield 127, 3)) ∧ (decode cX10_init 350 = .ok (.aload_n 0, 1)) ∧ (decode cX10_init 351 = .ok (.bipush 8, 2)) ∧ (decode cX10_init 353 = .ok (.newarray .int, 2)) ∧ (decode cX10_init 355 = .ok (.putfield 130, 3)) := by decide +kernel
theorem dX10_init_334 : decode cX10_init 334 = .ok (.aload_n 0, 1) := gX10_init_180.1
theorem dX10_init_335 : decode cX10_init 335 = .ok (.bipush 8, 2) := gX10_init_180.2.1
theorem dX10_init_337 : decode cX10_init 337 = .ok (.newarray .int, 2) := gX10_init_180.2.2.1
theorem dX10_init_339 : decode cX10_init 339 = .ok (.putfield 124, 3) := gX10_init_180.2.2.2.1
theorem dX10_init_342 : decode cX10_init 342 = .ok (.aload_n 0, 1) := gX10_init_180.2.2.2.2.1
theorem dX10_init_343 : decode cX10_init 343 = .ok (.bipush 8, 2) := gX10_init_180.2.2.2.2.2.1
theorem dX10_init_345 : decode cX10_init 345 = .ok (.newarray .int, 2) := gX10_init_180.2.2.2.2.2.2.1
theorem dX10_init_347 : decode cX10_init 347 = .ok (.putfield 127, 3) := gX10_init_180.2.2.2.2.2.2.2.1
theorem dX10_init_350 : decode cX10_init 350 = .ok (.aload_n 0, 1) := gX10_init_180.2.2.2.2.2.2.2.2.1
theorem dX10_init_351 : decode cX10_init 351 = .ok (.bipush 8, 2) := gX10_init_180.2.2.2.2.2.2.2.2.2.1
theorem dX10_init_353 : decode cX10_init 353 = .ok (.newarray .int, 2) := gX10_init_180.2.2.2.2.2.2.2.2.2.2.1
theorem dX10_init_355 : decode cX10_init 355 = .ok (.putfield 130, 3) := gX10_init_180.2.2.2.2.2.2.2.2.2.2.2
theorem gX10_init_192 : (decode cX10_init 358 = .ok (.aload_n 0, 1)) ∧ (decode cX10_init 359 = .ok (.iconst (-1), 1)) ∧ (decode cX10_init 360 = .ok (.putfield 133, 3)) ∧ (decode cX10_init 363 = .ok (.aload_n 0, 1)) ∧ (decode cX10_init 364 = .ok (.iconst (-1), 1)) ∧ (decode cX10_init 365 = .ok (.putfield 136, 3)) ∧ (decode cX10_init 368 = .ok (.iconst 0, 1)) ∧ (decode cX10_init 369 = .ok (.istore_n 1, 1)) ∧ (decode cX10_init 370 = .ok (.iload_n 1, 1)) ∧ (decode cX10_init 371 = .ok (.bipush 48, 2)) ∧ (decode cX10_init 373 = .ok (.if_icmp .ge 16, 3)) ∧ (decode cX10_init 376 = .ok (.aload_n 0, 1)) := by decide +kernel
theorem dX10_init_358 : decode cX10_init 358 = .ok (.aload_n 0, 1) := gX10_init_192.1
theorem dX10_init_359 : decode cX10_init 359 = .ok (.iconst (-1), 1) := gX10_init_192.2.1
theorem dX10_init_360 : decode cX10_init 360 = .ok (.putfield 133, 3) := gX10_init_192.2.2.1
theorem dX10_init_363 : decode cX10_init 363 = .ok (.aload_n 0, 1) := gX10_init_192.2.2.2.1
theorem dX10_init_364 : decode cX10_init 364 = .ok (.iconst (-1), 1) := gX10_init_192.2.2.2.2.1
theorem dX10_init_365 : decode cX10_init 365 = .ok (.putfield 136, 3) := gX10_init_192.2.2.2.2.2.1
theorem dX10_init_368 : decode cX10_init 368 = .ok (.iconst 0, 1) := gX10_init_192.2.2.2.2.2.2.1
theorem dX10_init_369 : decode cX10_init 369 = .ok (.istore_n 1, 1) := gX10_init_192.2.2.2.2.2.2.2.1
theorem dX10_init_370 : decode cX10_init 370 = .ok (.iload_n 1, 1) := gX10_init_192.2.2.2.2.2.2.2.2.1
theorem dX10_init_371 : decode cX10_init 371 = .ok (.bipush 48, 2) := gX10_init_192.2.2.2.2.2.2.2.2.2.1
theorem dX10_init_373 : decode cX10_init 373 = .ok (.if_icmp .ge 16, 3) := gX10_init_192.2.2.2.2.2.2.2.2.2.2.1
theorem dX10_init_376 : decode cX10_init 376 = .ok (.aload_n 0, 1) := gX10_init_192.2.2.2.2.2.2.2.2.2.2.2
theorem gX10_init_204 : (decode cX10_init 377 = .ok (.getfield 39, 3)) ∧ (decode cX10_init 380 = .ok (.iload_n 1, 1)) ∧ (decode cX10_init 381 = .ok (.iconst (-1), 1)) ∧ (decode cX10_init 382 = .ok (.iastore, 1)) ∧ (decode cX10_init 383 = .ok (.iinc 1 1, 3)) ∧ (decode cX10_init 386 = .ok (.goto (-16), 3)) ∧ (decode cX10_init 389 = .ok (.iconst 0, 1)) ∧ (decode cX10_init 390 = .ok (.istore_n 1, 1)) ∧ (decode cX10_init 391 = .ok (.iload_n 1, 1)) ∧ (decode cX10_init 392 = .ok (.sipush 288, 3)) ∧ (decode cX10_init 395 = .ok (.if_icmp .ge 16, 3)) ∧ (decode cX10_init 398 = .ok (.aload_n 0, 1)) := by decide +kernel
theorem dX10_init_377 : decode cX10_init 377 = .ok (.getfield 39, 3) := gX10_init_204.1
theorem dX10_init_380 : decode cX10_init 380 = .ok (.iload_n 1, 1) := gX10_init_204.2.1
theorem dX10_init_381 : decode cX10_init 381 = .ok (.iconst (-1), 1) := gX10_init_204.2.2.1
theorem dX10_init_382 : decode cX10_init 382 = .ok (.iastore, 1) := gX10_init_204.2.2.2.1
theorem dX10_init_383 : decode cX10_init 383 = .ok (.iinc 1 1, 3) := gX10_init_204.2.2.2.2.1
theorem dX10_init_386 : decode cX10_init 386 = .ok (.goto (-16), 3) := gX10_init_204.2.2.2.2.2.1
theorem dX10_init_389 : decode cX10_init 389 = .ok (.iconst 0, 1) := gX10_init_204.2.2.2.2.2.2.1
theorem dX10_init_390 : decode cX10_init 390 = .ok (.istore_n 1, 1) := gX10_init_204.2.2.2.2.2.2.2.1
theorem dX10_init_391 : decode cX10_init 391 = .ok (.iload_n 1, 1) := gX10_init_204.2.2.2.2.2.2.2.2.1
theorem dX10_init_392 : decode cX10_init 392 = .ok (.sipush 288, 3) := gX10_init_204.2.2.2.2.2.2.2.2.2.1
theorem dX10_init_395 : decode cX10_init 395 = .ok (.if_icmp .ge 16, 3) := gX10_init_204.2.2.2.2.2.2.2.2.2.2.1
theorem dX10_init_398 : decode cX10_init 398 = .ok (.aload_n 0, 1) := gX10_init_204.2.2.2.2.2.2.2.2.2.2.2
theorem gX10_init_216 : (decode cX10_init 399 = .ok (.getfield 45, 3)) ∧ (decode cX10_init 402 = .ok (.iload_n 1, 1)) ∧ (decode cX10_init 403 = .ok (.iconst (-1), 1)) ∧ (decode cX10_init 404 = .ok (.iastore, 1)) ∧ (decode cX10_init 405 = .ok (.iinc 1 1, 3)) ∧ (decode cX10_init 408 = .ok (.goto (-17), 3)) ∧ (decode cX10_init 411 = .ok (.aload_n 0, 1)) ∧ (decode cX10_init 412 = .ok (.getfield 57, 3)) ∧ (decode cX10_init 415 = .ok (.iconst 0, 1)) ∧ (decode cX10_init 416 = .ok (.bipush 113, 2)) ∧ (decode cX10_init 418 = .ok (.iastore, 1)) ∧ (decode cX10_init 419 = .ok (.aload_n 0, 1)) := by decide +kernel
theorem dX10_init_399 : decode cX10_init 399 = .ok (.getfield 45, 3) := gX10_init_216.1
theorem dX10_init_402 : decode cX10_init 402 = .ok (.iload_n 1, 1) := gX10_init_216.2.1
theorem dX10_init_403 : decode cX10_init 403 = .ok (.iconst (-1), 1) := gX10_init_216.2.2.1
theorem dX10_init_404 : decode cX10_init 404 = .ok (.iastore, 1) := gX10_init_216.2.2.2.1
theorem dX10_init_405 : decode cX10_init 405 = .ok (.iinc 1 1, 3) := gX10_init_216.2.2.2.2.1
theorem dX10_init_408 : decode cX10_init 408 = .ok (.goto (-17), 3) := gX10_init_216.2.2.2.2.2.1
theorem dX10_init_411 : decode cX10_init 411 = .ok (.aload_n 0, 1) := gX10_init_216.2.2.2.2.2.2.1
theorem dX10_init_412 : decode cX10_init 412 = .ok (.getfield 57, 3) := gX10_init_216.2.2.2.2.2.2.2.1
theorem dX10_init_415 : decode cX10_init 415 = .ok (.iconst 0, 1) := gX10_init_216.2.2.2.2.2.2.2.2.1
theorem dX10_init_416 : decode cX10_init 416 = .ok (.bipush 113, 2) := gX10_init_216.2.2.2.2.2.2.2.2.2.1
theorem dX10_init_418 : decode cX10_init 418 = .ok (.iastore, 1) := gX10_init_216.2.2.2.2.2.2.2.2.2.2.1
theorem dX10_init_419 : decode cX10_init 419 = .ok (.aload_n 0, 1) := gX10_init_216.2.2.2.2.2.2.2.2.2.2.2
theorem gX10_init_228 : (decode cX10_init 420 = .ok (.iconst 1, 1)) ∧ (decode cX10_init 421 = .ok (.putfield 139, 3)) ∧ (decode cX10_init 424 = .ok (.iconst 0, 1)) ∧ (decode cX10_init 425 = .ok (.istore_n 1, 1)) ∧ (decode cX10_init 426 = .ok (.iload_n 1, 1)) ∧ (decode cX10_init 427 = .ok (.bipush 8, 2)) ∧ (decode cX10_init 429 = .ok (.if_icmp .ge 17, 3)) ∧ (decode cX10_init 432 = .ok (.aload_n 0, 1)) ∧ (decode cX10_init 433 = .ok (.getfield 79, 3)) ∧ (decode cX10_init 436 = .ok (.iload_n 1, 1)) ∧ (decode cX10_init 437 = .ok (.bipush 6, 2)) ∧ (decode cX10_init 439 = .ok (.iastore, 1)) := by decide +kernel
theorem dX10_init_420 : decode cX10_init 420 = .ok (.iconst 1, 1) := gX10_init_228.1
theorem dX10_init_421 : decode cX10_init 421 = .ok (.putfield 139, 3) := gX10_init_228.2.1
theorem dX10_init_424 : decode cX10_init 424 = .ok (.iconst 0, 1) := gX10_init_228.2.2.1
theorem dX10_init_425 : decode cX10_init 425 = .ok (.istore_n 1, 1) := gX10_init_228.2.2.2.1
theorem dX10_init_426 : decode cX10_init 426 = .ok (.iload_n 1, 1) := gX10_init_228.2.2.2.2.1
theorem dX10_init_427 : decode cX10_init 427 = .ok (.bipush 8, 2) := gX10_init_228.2.2.2.2.2.1
theorem dX10_init_429 : decode cX10_init 429 = .ok (.if_icmp .ge 17, 3) := gX10_init_228.2.2.2.2.2.2.1
theorem dX10_init_432 : decode cX10_init 432 = .ok (.aload_n 0, 1) := gX10_init_228.2.2.2.2.2.2.2.1
theorem dX10_init_433 : decode cX10_init 433 = .ok (.getfield 79, 3) := gX10_init_228.2.2.2.2.2.2.2.2.1
theorem dX10_init_436 : decode cX10_init 436 = .ok (.iload_n 1, 1) := gX10_init_228.2.2.2.2.2.2.2.2.2.1
theorem dX10_init_437 : decode cX10_init 437 = .ok (.bipush 6, 2) := gX10_init_228.2.2.2.2.2.2.2.2.2.2.1
theorem dX10_init_439 : decode cX10_init 439 = .ok (.iastore, 1) := gX10_init_228.2.2.2.2.2.2.2.2.2.2.2
theorem gX10_init_240 : (decode cX10_init 440 = .ok (.iinc 1 1, 3)) ∧ (decode cX10_init 443 = .ok (.goto (-17), 3)) ∧ (decode cX10_init 446 = .ok (.return_, 1)) := by decide +kernel
theorem dX10_init_440 : decode cX10_init 440 = .ok (.iinc 1 1, 3) := gX10_init_240.1
theorem dX10_init_443 : decode cX10_init 443 = .ok (.goto (-17), 3) := gX10_init_240.2.1
theorem dX10_init_446 : decode cX10_init 446 = .ok (.return_, 1) := gX10_init_240.2.2
theorem gX10_in_0 : (decode cX10_in 0 = .ok (.iload_n 0, 1)) ∧ (decode cX10_in 1 = .ok (.iload_n 1, 1)) ∧ (decode cX10_in 2 = .ok (.if_icmp .lt 12, 3)) ∧ (decode cX10_in 5 = .ok (.iload_n 0, 1)) ∧ (decode cX10_in 6 = .ok (.iload_n 2, 1)) ∧ (decode cX10_in 7 = .ok (.if_icmp .gt 7, 3)) ∧ (decode cX10_in 10 = .ok (.iconst 1, 1)) ∧ (decode cX10_in 11 = .ok (.goto 4, 3)) ∧ (decode cX10_in 14 = .ok (.iconst 0, 1)) ∧ (decode cX10_in 15 = .ok (.ireturn, 1)) := by decide +kernel
theorem dX10_in_0 : decode cX10_in 0 = .ok (.iload_n 0, 1) := gX10_in_0.1
theorem dX10_in_1 : decode cX10_in 1 = .ok (.iload_n 1, 1) := gX10_in_0.2.1
theorem dX10_in_2 : decode cX10_in 2 = .ok (.if_icmp .lt 12, 3) := gX10_in_0.2.2.1
theorem dX10_in_5 : decode cX10_in 5 = .ok (.iload_n 0, 1) := gX10_in_0.2.2.2.1
theorem dX10_in_6 : decode cX10_in 6 = .ok (.iload_n 2, 1) := gX10_in_0.2.2.2.2.1
theorem dX10_in_7 : decode cX10_in 7 = .ok (.if_icmp .gt 7, 3) := gX10_in_0.2.2.2.2.2.1
theorem dX10_in_10 : decode cX10_in 10 = .ok (.iconst 1, 1) := gX10_in_0.2.2.2.2.2.2.1
theorem dX10_in_11 : decode cX10_in 11 = .ok (.goto 4, 3) := gX10_in_0.2.2.2.2.2.2.2.1
theorem dX10_in_14 : decode cX10_in 14 = .ok (.iconst 0, 1) := gX10_in_0.2.2.2.2.2.2.2.2.1
theorem dX10_in_15 : decode cX10_in 15 = .ok (.ireturn, 1) := gX10_in_0.2.2.2.2.2.2.2.2.2
theorem gX10_refuse_0 : (decode cX10_refuse 0 = .ok (.aload_n 0, 1)) ∧ (decode cX10_refuse 1 = .ok (.getfield 51, 3)) ∧ (decode cX10_refuse 4 = .ok (.iload_n 1, 1)) ∧ (decode cX10_refuse 5 = .ok (.ineg, 1)) ∧ (decode cX10_refuse 6 = .ok (.dup2, 1)) ∧ (decode cX10_refuse 7 = .ok (.iaload, 1)) ∧ (decode cX10_refuse 8 = .ok (.iconst 1, 1)) ∧ (decode cX10_refuse 9 = .ok (.iadd, 1)) ∧ (decode cX10_refuse 10 = .ok (.iastore, 1)) ∧ (decode cX10_refuse 11 = .ok (.iload_n 1, 1)) ∧ (decode cX10_refuse 12 = .ok (.ireturn, 1)) := by decide +kernel
theorem dX10_refuse_0 : decode cX10_refuse 0 = .ok (.aload_n 0, 1) := gX10_refuse_0.1
theorem dX10_refuse_1 : decode cX10_refuse 1 = .ok (.getfield 51, 3) := gX10_refuse_0.2.1
theorem dX10_refuse_4 : decode cX10_refuse 4 = .ok (.iload_n 1, 1) := gX10_refuse_0.2.2.1
theorem dX10_refuse_5 : decode cX10_refuse 5 = .ok (.ineg, 1) := gX10_refuse_0.2.2.2.1
theorem dX10_refuse_6 : decode cX10_refuse 6 = .ok (.dup2, 1) := gX10_refuse_0.2.2.2.2.1
theorem dX10_refuse_7 : decode cX10_refuse 7 = .ok (.iaload, 1) := gX10_refuse_0.2.2.2.2.2.1
theorem dX10_refuse_8 : decode cX10_refuse 8 = .ok (.iconst 1, 1) := gX10_refuse_0.2.2.2.2.2.2.1
theorem dX10_refuse_9 : decode cX10_refuse 9 = .ok (.iadd, 1) := gX10_refuse_0.2.2.2.2.2.2.2.1
theorem dX10_refuse_10 : decode cX10_refuse 10 = .ok (.iastore, 1) := gX10_refuse_0.2.2.2.2.2.2.2.2.1
theorem dX10_refuse_11 : decode cX10_refuse 11 = .ok (.iload_n 1, 1) := gX10_refuse_0.2.2.2.2.2.2.2.2.2.1
theorem dX10_refuse_12 : decode cX10_refuse 12 = .ok (.ireturn, 1) := gX10_refuse_0.2.2.2.2.2.2.2.2.2.2
theorem gX10_refuseFar_0 : (decode cX10_refuseFar 0 = .ok (.aload_n 0, 1)) ∧ (decode cX10_refuseFar 1 = .ok (.getfield 51, 3)) ∧ (decode cX10_refuseFar 4 = .ok (.iload_n 1, 1)) ∧ (decode cX10_refuseFar 5 = .ok (.ineg, 1)) ∧ (decode cX10_refuseFar 6 = .ok (.dup2, 1)) ∧ (decode cX10_refuseFar 7 = .ok (.iaload, 1)) ∧ (decode cX10_refuseFar 8 = .ok (.iconst 1, 1)) ∧ (decode cX10_refuseFar 9 = .ok (.iadd, 1)) ∧ (decode cX10_refuseFar 10 = .ok (.iastore, 1)) ∧ (decode cX10_refuseFar 11 = .ok (.ldc2_w 142, 3)) ∧ (decode cX10_refuseFar 14 = .ok (.iload_n 1, 1)) ∧ (decode cX10_refuseFar 15 = .ok (.i2l, 1)) := by decide +kernel
theorem dX10_refuseFar_0 : decode cX10_refuseFar 0 = .ok (.aload_n 0, 1) := gX10_refuseFar_0.1
theorem dX10_refuseFar_1 : decode cX10_refuseFar 1 = .ok (.getfield 51, 3) := gX10_refuseFar_0.2.1
theorem dX10_refuseFar_4 : decode cX10_refuseFar 4 = .ok (.iload_n 1, 1) := gX10_refuseFar_0.2.2.1
theorem dX10_refuseFar_5 : decode cX10_refuseFar 5 = .ok (.ineg, 1) := gX10_refuseFar_0.2.2.2.1
theorem dX10_refuseFar_6 : decode cX10_refuseFar 6 = .ok (.dup2, 1) := gX10_refuseFar_0.2.2.2.2.1
theorem dX10_refuseFar_7 : decode cX10_refuseFar 7 = .ok (.iaload, 1) := gX10_refuseFar_0.2.2.2.2.2.1
theorem dX10_refuseFar_8 : decode cX10_refuseFar 8 = .ok (.iconst 1, 1) := gX10_refuseFar_0.2.2.2.2.2.2.1
theorem dX10_refuseFar_9 : decode cX10_refuseFar 9 = .ok (.iadd, 1) := gX10_refuseFar_0.2.2.2.2.2.2.2.1
theorem dX10_refuseFar_10 : decode cX10_refuseFar 10 = .ok (.iastore, 1) := gX10_refuseFar_0.2.2.2.2.2.2.2.2.1
theorem dX10_refuseFar_11 : decode cX10_refuseFar 11 = .ok (.ldc2_w 142, 3) := gX10_refuseFar_0.2.2.2.2.2.2.2.2.2.1
theorem dX10_refuseFar_14 : decode cX10_refuseFar 14 = .ok (.iload_n 1, 1) := gX10_refuseFar_0.2.2.2.2.2.2.2.2.2.2.1
theorem dX10_refuseFar_15 : decode cX10_refuseFar 15 = .ok (.i2l, 1) := gX10_refuseFar_0.2.2.2.2.2.2.2.2.2.2.2
theorem gX10_refuseFar_12 : (decode cX10_refuseFar 16 = .ok (.lsub, 1)) ∧ (decode cX10_refuseFar 17 = .ok (.lreturn, 1)) := by decide +kernel
theorem dX10_refuseFar_16 : decode cX10_refuseFar 16 = .ok (.lsub, 1) := gX10_refuseFar_12.1
theorem dX10_refuseFar_17 : decode cX10_refuseFar 17 = .ok (.lreturn, 1) := gX10_refuseFar_12.2
theorem gX10_isBidder_0 : (decode cX10_isBidder 0 = .ok (.iload_n 0, 1)) ∧ (decode cX10_isBidder 1 = .ok (.iconst 0, 1)) ∧ (decode cX10_isBidder 2 = .ok (.bipush 7, 2)) ∧ (decode cX10_isBidder 4 = .ok (.invokestatic 144, 3)) ∧ (decode cX10_isBidder 7 = .ok (.ireturn, 1)) := by decide +kernel
theorem dX10_isBidder_0 : decode cX10_isBidder 0 = .ok (.iload_n 0, 1) := gX10_isBidder_0.1
theorem dX10_isBidder_1 : decode cX10_isBidder 1 = .ok (.iconst 0, 1) := gX10_isBidder_0.2.1
theorem dX10_isBidder_2 : decode cX10_isBidder 2 = .ok (.bipush 7, 2) := gX10_isBidder_0.2.2.1
theorem dX10_isBidder_4 : decode cX10_isBidder 4 = .ok (.invokestatic 144, 3) := gX10_isBidder_0.2.2.2.1
theorem dX10_isBidder_7 : decode cX10_isBidder 7 = .ok (.ireturn, 1) := gX10_isBidder_0.2.2.2.2
theorem gX10_isLot_0 : (decode cX10_isLot 0 = .ok (.iload_n 1, 1)) ∧ (decode cX10_isLot 1 = .ok (.iconst 0, 1)) ∧ (decode cX10_isLot 2 = .ok (.aload_n 0, 1)) ∧ (decode cX10_isLot 3 = .ok (.getfield 17, 3)) ∧ (decode cX10_isLot 6 = .ok (.iconst 1, 1)) ∧ (decode cX10_isLot 7 = .ok (.isub, 1)) ∧ (decode cX10_isLot 8 = .ok (.invokestatic 144, 3)) ∧ (decode cX10_isLot 11 = .ok (.ireturn, 1)) := by decide +kernel
theorem dX10_isLot_0 : decode cX10_isLot 0 = .ok (.iload_n 1, 1) := gX10_isLot_0.1
theorem dX10_isLot_1 : decode cX10_isLot 1 = .ok (.iconst 0, 1) := gX10_isLot_0.2.1
theorem dX10_isLot_2 : decode cX10_isLot 2 = .ok (.aload_n 0, 1) := gX10_isLot_0.2.2.1
theorem dX10_isLot_3 : decode cX10_isLot 3 = .ok (.getfield 17, 3) := gX10_isLot_0.2.2.2.1
theorem dX10_isLot_6 : decode cX10_isLot 6 = .ok (.iconst 1, 1) := gX10_isLot_0.2.2.2.2.1
theorem dX10_isLot_7 : decode cX10_isLot 7 = .ok (.isub, 1) := gX10_isLot_0.2.2.2.2.2.1
theorem dX10_isLot_8 : decode cX10_isLot 8 = .ok (.invokestatic 144, 3) := gX10_isLot_0.2.2.2.2.2.2.1
theorem dX10_isLot_11 : decode cX10_isLot 11 = .ok (.ireturn, 1) := gX10_isLot_0.2.2.2.2.2.2.2
theorem gX10_isOpen_0 : (decode cX10_isOpen 0 = .ok (.aload_n 0, 1)) ∧ (decode cX10_isOpen 1 = .ok (.getfield 7, 3)) ∧ (decode cX10_isOpen 4 = .ok (.ifCond .lt 14, 3)) ∧ (decode cX10_isOpen 7 = .ok (.aload_n 0, 1)) ∧ (decode cX10_isOpen 8 = .ok (.getfield 148, 3)) ∧ (decode cX10_isOpen 11 = .ok (.aload_n 0, 1)) ∧ (decode cX10_isOpen 12 = .ok (.getfield 7, 3)) ∧ (decode cX10_isOpen 15 = .ok (.if_icmp .gt 7, 3)) ∧ (decode cX10_isOpen 18 = .ok (.iconst 1, 1)) ∧ (decode cX10_isOpen 19 = .ok (.goto 4, 3)) ∧ (decode cX10_isOpen 22 = .ok (.iconst 0, 1)) ∧ (decode cX10_isOpen 23 = .ok (.ireturn, 1)) := by decide +kernel
theorem dX10_isOpen_0 : decode cX10_isOpen 0 = .ok (.aload_n 0, 1) := gX10_isOpen_0.1
theorem dX10_isOpen_1 : decode cX10_isOpen 1 = .ok (.getfield 7, 3) := gX10_isOpen_0.2.1
theorem dX10_isOpen_4 : decode cX10_isOpen 4 = .ok (.ifCond .lt 14, 3) := gX10_isOpen_0.2.2.1
theorem dX10_isOpen_7 : decode cX10_isOpen 7 = .ok (.aload_n 0, 1) := gX10_isOpen_0.2.2.2.1
theorem dX10_isOpen_8 : decode cX10_isOpen 8 = .ok (.getfield 148, 3) := gX10_isOpen_0.2.2.2.2.1
theorem dX10_isOpen_11 : decode cX10_isOpen 11 = .ok (.aload_n 0, 1) := gX10_isOpen_0.2.2.2.2.2.1
theorem dX10_isOpen_12 : decode cX10_isOpen 12 = .ok (.getfield 7, 3) := gX10_isOpen_0.2.2.2.2.2.2.1
theorem dX10_isOpen_15 : decode cX10_isOpen 15 = .ok (.if_icmp .gt 7, 3) := gX10_isOpen_0.2.2.2.2.2.2.2.1
theorem dX10_isOpen_18 : decode cX10_isOpen 18 = .ok (.iconst 1, 1) := gX10_isOpen_0.2.2.2.2.2.2.2.2.1
theorem dX10_isOpen_19 : decode cX10_isOpen 19 = .ok (.goto 4, 3) := gX10_isOpen_0.2.2.2.2.2.2.2.2.2.1
theorem dX10_isOpen_22 : decode cX10_isOpen 22 = .ok (.iconst 0, 1) := gX10_isOpen_0.2.2.2.2.2.2.2.2.2.2.1
theorem dX10_isOpen_23 : decode cX10_isOpen 23 = .ok (.ireturn, 1) := gX10_isOpen_0.2.2.2.2.2.2.2.2.2.2.2
theorem gX10_time_0 : (decode cX10_time 0 = .ok (.iload_n 1, 1)) ∧ (decode cX10_time 1 = .ok (.iconst 1, 1)) ∧ (decode cX10_time 2 = .ok (.if_icmp .ge 10, 3)) ∧ (decode cX10_time 5 = .ok (.aload_n 0, 1)) ∧ (decode cX10_time 6 = .ok (.bipush (-4), 2)) ∧ (decode cX10_time 8 = .ok (.invokevirtual 151, 3)) ∧ (decode cX10_time 11 = .ok (.ireturn, 1)) ∧ (decode cX10_time 12 = .ok (.iload_n 1, 1)) ∧ (decode cX10_time 13 = .ok (.ldc 155, 2)) ∧ (decode cX10_time 15 = .ok (.aload_n 0, 1)) ∧ (decode cX10_time 16 = .ok (.getfield 148, 3)) ∧ (decode cX10_time 19 = .ok (.isub, 1)) := by decide +kernel
theorem dX10_time_0 : decode cX10_time 0 = .ok (.iload_n 1, 1) := gX10_time_0.1
theorem dX10_time_1 : decode cX10_time 1 = .ok (.iconst 1, 1) := gX10_time_0.2.1
theorem dX10_time_2 : decode cX10_time 2 = .ok (.if_icmp .ge 10, 3) := gX10_time_0.2.2.1
theorem dX10_time_5 : decode cX10_time 5 = .ok (.aload_n 0, 1) := gX10_time_0.2.2.2.1
theorem dX10_time_6 : decode cX10_time 6 = .ok (.bipush (-4), 2) := gX10_time_0.2.2.2.2.1
theorem dX10_time_8 : decode cX10_time 8 = .ok (.invokevirtual 151, 3) := gX10_time_0.2.2.2.2.2.1
theorem dX10_time_11 : decode cX10_time 11 = .ok (.ireturn, 1) := gX10_time_0.2.2.2.2.2.2.1
theorem dX10_time_12 : decode cX10_time 12 = .ok (.iload_n 1, 1) := gX10_time_0.2.2.2.2.2.2.2.1
theorem dX10_time_13 : decode cX10_time 13 = .ok (.ldc 155, 2) := gX10_time_0.2.2.2.2.2.2.2.2.1
theorem dX10_time_15 : decode cX10_time 15 = .ok (.aload_n 0, 1) := gX10_time_0.2.2.2.2.2.2.2.2.2.1
theorem dX10_time_16 : decode cX10_time 16 = .ok (.getfield 148, 3) := gX10_time_0.2.2.2.2.2.2.2.2.2.2.1
theorem dX10_time_19 : decode cX10_time 19 = .ok (.isub, 1) := gX10_time_0.2.2.2.2.2.2.2.2.2.2.2
theorem gX10_time_12 : (decode cX10_time 20 = .ok (.if_icmp .le 10, 3)) ∧ (decode cX10_time 23 = .ok (.aload_n 0, 1)) ∧ (decode cX10_time 24 = .ok (.bipush (-6), 2)) ∧ (decode cX10_time 26 = .ok (.invokevirtual 151, 3)) ∧ (decode cX10_time 29 = .ok (.ireturn, 1)) ∧ (decode cX10_time 30 = .ok (.aload_n 0, 1)) ∧ (decode cX10_time 31 = .ok (.dup, 1)) ∧ (decode cX10_time 32 = .ok (.getfield 148, 3)) ∧ (decode cX10_time 35 = .ok (.iload_n 1, 1)) ∧ (decode cX10_time 36 = .ok (.iadd, 1)) ∧ (decode cX10_time 37 = .ok (.putfield 148, 3)) ∧ (decode cX10_time 40 = .ok (.aload_n 0, 1)) := by decide +kernel
theorem dX10_time_20 : decode cX10_time 20 = .ok (.if_icmp .le 10, 3) := gX10_time_12.1
theorem dX10_time_23 : decode cX10_time 23 = .ok (.aload_n 0, 1) := gX10_time_12.2.1
theorem dX10_time_24 : decode cX10_time 24 = .ok (.bipush (-6), 2) := gX10_time_12.2.2.1
theorem dX10_time_26 : decode cX10_time 26 = .ok (.invokevirtual 151, 3) := gX10_time_12.2.2.2.1
theorem dX10_time_29 : decode cX10_time 29 = .ok (.ireturn, 1) := gX10_time_12.2.2.2.2.1
theorem dX10_time_30 : decode cX10_time 30 = .ok (.aload_n 0, 1) := gX10_time_12.2.2.2.2.2.1
theorem dX10_time_31 : decode cX10_time 31 = .ok (.dup, 1) := gX10_time_12.2.2.2.2.2.2.1
theorem dX10_time_32 : decode cX10_time 32 = .ok (.getfield 148, 3) := gX10_time_12.2.2.2.2.2.2.2.1
theorem dX10_time_35 : decode cX10_time 35 = .ok (.iload_n 1, 1) := gX10_time_12.2.2.2.2.2.2.2.2.1
theorem dX10_time_36 : decode cX10_time 36 = .ok (.iadd, 1) := gX10_time_12.2.2.2.2.2.2.2.2.2.1
theorem dX10_time_37 : decode cX10_time 37 = .ok (.putfield 148, 3) := gX10_time_12.2.2.2.2.2.2.2.2.2.2.1
theorem dX10_time_40 : decode cX10_time 40 = .ok (.aload_n 0, 1) := gX10_time_12.2.2.2.2.2.2.2.2.2.2.2
theorem gX10_time_24 : (decode cX10_time 41 = .ok (.iconst 0, 1)) ∧ (decode cX10_time 42 = .ok (.putfield 156, 3)) ∧ (decode cX10_time 45 = .ok (.aload_n 0, 1)) ∧ (decode cX10_time 46 = .ok (.getfield 148, 3)) ∧ (decode cX10_time 49 = .ok (.ireturn, 1)) := by decide +kernel
theorem dX10_time_41 : decode cX10_time 41 = .ok (.iconst 0, 1) := gX10_time_24.1
theorem dX10_time_42 : decode cX10_time 42 = .ok (.putfield 156, 3) := gX10_time_24.2.1
theorem dX10_time_45 : decode cX10_time 45 = .ok (.aload_n 0, 1) := gX10_time_24.2.2.1
theorem dX10_time_46 : decode cX10_time 46 = .ok (.getfield 148, 3) := gX10_time_24.2.2.2.1
theorem dX10_time_49 : decode cX10_time 49 = .ok (.ireturn, 1) := gX10_time_24.2.2.2.2
theorem gX10_rate_0 : (decode cX10_rate 0 = .ok (.iload_n 1, 1)) ∧ (decode cX10_rate 1 = .ok (.iconst 1, 1)) ∧ (decode cX10_rate 2 = .ok (.iconst 3, 1)) ∧ (decode cX10_rate 3 = .ok (.invokestatic 144, 3)) ∧ (decode cX10_rate 6 = .ok (.ifCond .ne 9, 3)) ∧ (decode cX10_rate 9 = .ok (.aload_n 0, 1)) ∧ (decode cX10_rate 10 = .ok (.iconst (-1), 1)) ∧ (decode cX10_rate 11 = .ok (.invokevirtual 151, 3)) ∧ (decode cX10_rate 14 = .ok (.ireturn, 1)) ∧ (decode cX10_rate 15 = .ok (.aload_n 0, 1)) ∧ (decode cX10_rate 16 = .ok (.invokevirtual 160, 3)) ∧ (decode cX10_rate 19 = .ok (.ifCond .ne 10, 3)) := by decide +kernel
theorem dX10_rate_0 : decode cX10_rate 0 = .ok (.iload_n 1, 1) := gX10_rate_0.1
theorem dX10_rate_1 : decode cX10_rate 1 = .ok (.iconst 1, 1) := gX10_rate_0.2.1
theorem dX10_rate_2 : decode cX10_rate 2 = .ok (.iconst 3, 1) := gX10_rate_0.2.2.1
theorem dX10_rate_3 : decode cX10_rate 3 = .ok (.invokestatic 144, 3) := gX10_rate_0.2.2.2.1
theorem dX10_rate_6 : decode cX10_rate 6 = .ok (.ifCond .ne 9, 3) := gX10_rate_0.2.2.2.2.1
theorem dX10_rate_9 : decode cX10_rate 9 = .ok (.aload_n 0, 1) := gX10_rate_0.2.2.2.2.2.1
theorem dX10_rate_10 : decode cX10_rate 10 = .ok (.iconst (-1), 1) := gX10_rate_0.2.2.2.2.2.2.1
theorem dX10_rate_11 : decode cX10_rate 11 = .ok (.invokevirtual 151, 3) := gX10_rate_0.2.2.2.2.2.2.2.1
theorem dX10_rate_14 : decode cX10_rate 14 = .ok (.ireturn, 1) := gX10_rate_0.2.2.2.2.2.2.2.2.1
theorem dX10_rate_15 : decode cX10_rate 15 = .ok (.aload_n 0, 1) := gX10_rate_0.2.2.2.2.2.2.2.2.2.1
theorem dX10_rate_16 : decode cX10_rate 16 = .ok (.invokevirtual 160, 3) := gX10_rate_0.2.2.2.2.2.2.2.2.2.2.1
theorem dX10_rate_19 : decode cX10_rate 19 = .ok (.ifCond .ne 10, 3) := gX10_rate_0.2.2.2.2.2.2.2.2.2.2.2
theorem gX10_rate_12 : (decode cX10_rate 22 = .ok (.aload_n 0, 1)) ∧ (decode cX10_rate 23 = .ok (.bipush (-3), 2)) ∧ (decode cX10_rate 25 = .ok (.invokevirtual 151, 3)) ∧ (decode cX10_rate 28 = .ok (.ireturn, 1)) ∧ (decode cX10_rate 29 = .ok (.iload_n 2, 1)) ∧ (decode cX10_rate 30 = .ok (.iconst 1, 1)) ∧ (decode cX10_rate 31 = .ok (.if_icmp .ge 10, 3)) ∧ (decode cX10_rate 34 = .ok (.aload_n 0, 1)) ∧ (decode cX10_rate 35 = .ok (.bipush (-4), 2)) ∧ (decode cX10_rate 37 = .ok (.invokevirtual 151, 3)) ∧ (decode cX10_rate 40 = .ok (.ireturn, 1)) ∧ (decode cX10_rate 41 = .ok (.iload_n 2, 1)) := by decide +kernel
theorem dX10_rate_22 : decode cX10_rate 22 = .ok (.aload_n 0, 1) := gX10_rate_12.1
theorem dX10_rate_23 : decode cX10_rate 23 = .ok (.bipush (-3), 2) := gX10_rate_12.2.1
theorem dX10_rate_25 : decode cX10_rate 25 = .ok (.invokevirtual 151, 3) := gX10_rate_12.2.2.1
theorem dX10_rate_28 : decode cX10_rate 28 = .ok (.ireturn, 1) := gX10_rate_12.2.2.2.1
theorem dX10_rate_29 : decode cX10_rate 29 = .ok (.iload_n 2, 1) := gX10_rate_12.2.2.2.2.1
theorem dX10_rate_30 : decode cX10_rate 30 = .ok (.iconst 1, 1) := gX10_rate_12.2.2.2.2.2.1
theorem dX10_rate_31 : decode cX10_rate 31 = .ok (.if_icmp .ge 10, 3) := gX10_rate_12.2.2.2.2.2.2.1
theorem dX10_rate_34 : decode cX10_rate 34 = .ok (.aload_n 0, 1) := gX10_rate_12.2.2.2.2.2.2.2.1
theorem dX10_rate_35 : decode cX10_rate 35 = .ok (.bipush (-4), 2) := gX10_rate_12.2.2.2.2.2.2.2.2.1
theorem dX10_rate_37 : decode cX10_rate 37 = .ok (.invokevirtual 151, 3) := gX10_rate_12.2.2.2.2.2.2.2.2.2.1
theorem dX10_rate_40 : decode cX10_rate 40 = .ok (.ireturn, 1) := gX10_rate_12.2.2.2.2.2.2.2.2.2.2.1
theorem dX10_rate_41 : decode cX10_rate 41 = .ok (.iload_n 2, 1) := gX10_rate_12.2.2.2.2.2.2.2.2.2.2.2
theorem gX10_rate_24 : (decode cX10_rate 42 = .ok (.ldc 164, 2)) ∧ (decode cX10_rate 44 = .ok (.if_icmp .le 10, 3)) ∧ (decode cX10_rate 47 = .ok (.aload_n 0, 1)) ∧ (decode cX10_rate 48 = .ok (.bipush (-6), 2)) ∧ (decode cX10_rate 50 = .ok (.invokevirtual 151, 3)) ∧ (decode cX10_rate 53 = .ok (.ireturn, 1)) ∧ (decode cX10_rate 54 = .ok (.aload_n 0, 1)) ∧ (decode cX10_rate 55 = .ok (.getfield 13, 3)) ∧ (decode cX10_rate 58 = .ok (.iload_n 1, 1)) ∧ (decode cX10_rate 59 = .ok (.iaload, 1)) ∧ (decode cX10_rate 60 = .ok (.istore_n 3, 1)) ∧ (decode cX10_rate 61 = .ok (.aload_n 0, 1)) := by decide +kernel
theorem dX10_rate_42 : decode cX10_rate 42 = .ok (.ldc 164, 2) := gX10_rate_24.1
theorem dX10_rate_44 : decode cX10_rate 44 = .ok (.if_icmp .le 10, 3) := gX10_rate_24.2.1
theorem dX10_rate_47 : decode cX10_rate 47 = .ok (.aload_n 0, 1) := gX10_rate_24.2.2.1
theorem dX10_rate_48 : decode cX10_rate 48 = .ok (.bipush (-6), 2) := gX10_rate_24.2.2.2.1
theorem dX10_rate_50 : decode cX10_rate 50 = .ok (.invokevirtual 151, 3) := gX10_rate_24.2.2.2.2.1
theorem dX10_rate_53 : decode cX10_rate 53 = .ok (.ireturn, 1) := gX10_rate_24.2.2.2.2.2.1
theorem dX10_rate_54 : decode cX10_rate 54 = .ok (.aload_n 0, 1) := gX10_rate_24.2.2.2.2.2.2.1
theorem dX10_rate_55 : decode cX10_rate 55 = .ok (.getfield 13, 3) := gX10_rate_24.2.2.2.2.2.2.2.1
theorem dX10_rate_58 : decode cX10_rate 58 = .ok (.iload_n 1, 1) := gX10_rate_24.2.2.2.2.2.2.2.2.1
theorem dX10_rate_59 : decode cX10_rate 59 = .ok (.iaload, 1) := gX10_rate_24.2.2.2.2.2.2.2.2.2.1
theorem dX10_rate_60 : decode cX10_rate 60 = .ok (.istore_n 3, 1) := gX10_rate_24.2.2.2.2.2.2.2.2.2.2.1
theorem dX10_rate_61 : decode cX10_rate 61 = .ok (.aload_n 0, 1) := gX10_rate_24.2.2.2.2.2.2.2.2.2.2.2
theorem gX10_rate_36 : (decode cX10_rate 62 = .ok (.getfield 13, 3)) ∧ (decode cX10_rate 65 = .ok (.iload_n 1, 1)) ∧ (decode cX10_rate 66 = .ok (.iload_n 2, 1)) ∧ (decode cX10_rate 67 = .ok (.iastore, 1)) ∧ (decode cX10_rate 68 = .ok (.iload_n 3, 1)) ∧ (decode cX10_rate 69 = .ok (.ireturn, 1)) := by decide +kernel
theorem dX10_rate_62 : decode cX10_rate 62 = .ok (.getfield 13, 3) := gX10_rate_36.1
theorem dX10_rate_65 : decode cX10_rate 65 = .ok (.iload_n 1, 1) := gX10_rate_36.2.1
theorem dX10_rate_66 : decode cX10_rate 66 = .ok (.iload_n 2, 1) := gX10_rate_36.2.2.1
theorem dX10_rate_67 : decode cX10_rate 67 = .ok (.iastore, 1) := gX10_rate_36.2.2.2.1
theorem dX10_rate_68 : decode cX10_rate 68 = .ok (.iload_n 3, 1) := gX10_rate_36.2.2.2.2.1
theorem dX10_rate_69 : decode cX10_rate 69 = .ok (.ireturn, 1) := gX10_rate_36.2.2.2.2.2
theorem gX10_lots_0 : (decode cX10_lots 0 = .ok (.aload_n 0, 1)) ∧ (decode cX10_lots 1 = .ok (.invokevirtual 160, 3)) ∧ (decode cX10_lots 4 = .ok (.ifCond .ne 10, 3)) ∧ (decode cX10_lots 7 = .ok (.aload_n 0, 1)) ∧ (decode cX10_lots 8 = .ok (.bipush (-3), 2)) ∧ (decode cX10_lots 10 = .ok (.invokevirtual 151, 3)) ∧ (decode cX10_lots 13 = .ok (.ireturn, 1)) ∧ (decode cX10_lots 14 = .ok (.iload_n 1, 1)) ∧ (decode cX10_lots 15 = .ok (.iconst 1, 1)) ∧ (decode cX10_lots 16 = .ok (.if_icmp .ge 10, 3)) ∧ (decode cX10_lots 19 = .ok (.aload_n 0, 1)) ∧ (decode cX10_lots 20 = .ok (.bipush (-4), 2)) := by decide +kernel
theorem dX10_lots_0 : decode cX10_lots 0 = .ok (.aload_n 0, 1) := gX10_lots_0.1
theorem dX10_lots_1 : decode cX10_lots 1 = .ok (.invokevirtual 160, 3) := gX10_lots_0.2.1
theorem dX10_lots_4 : decode cX10_lots 4 = .ok (.ifCond .ne 10, 3) := gX10_lots_0.2.2.1
theorem dX10_lots_7 : decode cX10_lots 7 = .ok (.aload_n 0, 1) := gX10_lots_0.2.2.2.1
theorem dX10_lots_8 : decode cX10_lots 8 = .ok (.bipush (-3), 2) := gX10_lots_0.2.2.2.2.1
theorem dX10_lots_10 : decode cX10_lots 10 = .ok (.invokevirtual 151, 3) := gX10_lots_0.2.2.2.2.2.1
theorem dX10_lots_13 : decode cX10_lots 13 = .ok (.ireturn, 1) := gX10_lots_0.2.2.2.2.2.2.1
theorem dX10_lots_14 : decode cX10_lots 14 = .ok (.iload_n 1, 1) := gX10_lots_0.2.2.2.2.2.2.2.1
theorem dX10_lots_15 : decode cX10_lots 15 = .ok (.iconst 1, 1) := gX10_lots_0.2.2.2.2.2.2.2.2.1
theorem dX10_lots_16 : decode cX10_lots 16 = .ok (.if_icmp .ge 10, 3) := gX10_lots_0.2.2.2.2.2.2.2.2.2.1
theorem dX10_lots_19 : decode cX10_lots 19 = .ok (.aload_n 0, 1) := gX10_lots_0.2.2.2.2.2.2.2.2.2.2.1
theorem dX10_lots_20 : decode cX10_lots 20 = .ok (.bipush (-4), 2) := gX10_lots_0.2.2.2.2.2.2.2.2.2.2.2
theorem gX10_lots_12 : (decode cX10_lots 22 = .ok (.invokevirtual 151, 3)) ∧ (decode cX10_lots 25 = .ok (.ireturn, 1)) ∧ (decode cX10_lots 26 = .ok (.iload_n 1, 1)) ∧ (decode cX10_lots 27 = .ok (.bipush 6, 2)) ∧ (decode cX10_lots 29 = .ok (.if_icmp .le 10, 3)) ∧ (decode cX10_lots 32 = .ok (.aload_n 0, 1)) ∧ (decode cX10_lots 33 = .ok (.bipush (-6), 2)) ∧ (decode cX10_lots 35 = .ok (.invokevirtual 151, 3)) ∧ (decode cX10_lots 38 = .ok (.ireturn, 1)) ∧ (decode cX10_lots 39 = .ok (.aload_n 0, 1)) ∧ (decode cX10_lots 40 = .ok (.getfield 17, 3)) ∧ (decode cX10_lots 43 = .ok (.istore_n 2, 1)) := by decide +kernel
theorem dX10_lots_22 : decode cX10_lots 22 = .ok (.invokevirtual 151, 3) := gX10_lots_12.1
theorem dX10_lots_25 : decode cX10_lots 25 = .ok (.ireturn, 1) := gX10_lots_12.2.1
theorem dX10_lots_26 : decode cX10_lots 26 = .ok (.iload_n 1, 1) := gX10_lots_12.2.2.1
theorem dX10_lots_27 : decode cX10_lots 27 = .ok (.bipush 6, 2) := gX10_lots_12.2.2.2.1
theorem dX10_lots_29 : decode cX10_lots 29 = .ok (.if_icmp .le 10, 3) := gX10_lots_12.2.2.2.2.1
theorem dX10_lots_32 : decode cX10_lots 32 = .ok (.aload_n 0, 1) := gX10_lots_12.2.2.2.2.2.1
theorem dX10_lots_33 : decode cX10_lots 33 = .ok (.bipush (-6), 2) := gX10_lots_12.2.2.2.2.2.2.1
theorem dX10_lots_35 : decode cX10_lots 35 = .ok (.invokevirtual 151, 3) := gX10_lots_12.2.2.2.2.2.2.2.1
theorem dX10_lots_38 : decode cX10_lots 38 = .ok (.ireturn, 1) := gX10_lots_12.2.2.2.2.2.2.2.2.1
theorem dX10_lots_39 : decode cX10_lots 39 = .ok (.aload_n 0, 1) := gX10_lots_12.2.2.2.2.2.2.2.2.2.1
theorem dX10_lots_40 : decode cX10_lots 40 = .ok (.getfield 17, 3) := gX10_lots_12.2.2.2.2.2.2.2.2.2.2.1
theorem dX10_lots_43 : decode cX10_lots 43 = .ok (.istore_n 2, 1) := gX10_lots_12.2.2.2.2.2.2.2.2.2.2.2
theorem gX10_lots_24 : (decode cX10_lots 44 = .ok (.aload_n 0, 1)) ∧ (decode cX10_lots 45 = .ok (.iload_n 1, 1)) ∧ (decode cX10_lots 46 = .ok (.putfield 17, 3)) ∧ (decode cX10_lots 49 = .ok (.bipush 8, 2)) ∧ (decode cX10_lots 51 = .ok (.iload_n 1, 1)) ∧ (decode cX10_lots 52 = .ok (.imul, 1)) ∧ (decode cX10_lots 53 = .ok (.istore_n 3, 1)) ∧ (decode cX10_lots 54 = .ok (.iload_n 3, 1)) ∧ (decode cX10_lots 55 = .ok (.bipush 48, 2)) ∧ (decode cX10_lots 57 = .ok (.if_icmp .ge 23, 3)) ∧ (decode cX10_lots 60 = .ok (.aload_n 0, 1)) ∧ (decode cX10_lots 61 = .ok (.getfield 20, 3)) := by decide +kernel
theorem dX10_lots_44 : decode cX10_lots 44 = .ok (.aload_n 0, 1) := gX10_lots_24.1
theorem dX10_lots_45 : decode cX10_lots 45 = .ok (.iload_n 1, 1) := gX10_lots_24.2.1
theorem dX10_lots_46 : decode cX10_lots 46 = .ok (.putfield 17, 3) := gX10_lots_24.2.2.1
theorem dX10_lots_49 : decode cX10_lots 49 = .ok (.bipush 8, 2) := gX10_lots_24.2.2.2.1
theorem dX10_lots_51 : decode cX10_lots 51 = .ok (.iload_n 1, 1) := gX10_lots_24.2.2.2.2.1
theorem dX10_lots_52 : decode cX10_lots 52 = .ok (.imul, 1) := gX10_lots_24.2.2.2.2.2.1
theorem dX10_lots_53 : decode cX10_lots 53 = .ok (.istore_n 3, 1) := gX10_lots_24.2.2.2.2.2.2.1
theorem dX10_lots_54 : decode cX10_lots 54 = .ok (.iload_n 3, 1) := gX10_lots_24.2.2.2.2.2.2.2.1
theorem dX10_lots_55 : decode cX10_lots 55 = .ok (.bipush 48, 2) := gX10_lots_24.2.2.2.2.2.2.2.2.1
theorem dX10_lots_57 : decode cX10_lots 57 = .ok (.if_icmp .ge 23, 3) := gX10_lots_24.2.2.2.2.2.2.2.2.2.1
theorem dX10_lots_60 : decode cX10_lots 60 = .ok (.aload_n 0, 1) := gX10_lots_24.2.2.2.2.2.2.2.2.2.2.1
theorem dX10_lots_61 : decode cX10_lots 61 = .ok (.getfield 20, 3) := gX10_lots_24.2.2.2.2.2.2.2.2.2.2.2
theorem gX10_lots_36 : (decode cX10_lots 64 = .ok (.iload_n 3, 1)) ∧ (decode cX10_lots 65 = .ok (.iconst 0, 1)) ∧ (decode cX10_lots 66 = .ok (.bastore, 1)) ∧ (decode cX10_lots 67 = .ok (.aload_n 0, 1)) ∧ (decode cX10_lots 68 = .ok (.getfield 39, 3)) ∧ (decode cX10_lots 71 = .ok (.iload_n 3, 1)) ∧ (decode cX10_lots 72 = .ok (.iconst (-1), 1)) ∧ (decode cX10_lots 73 = .ok (.iastore, 1)) ∧ (decode cX10_lots 74 = .ok (.iinc 3 1, 3)) ∧ (decode cX10_lots 77 = .ok (.goto (-23), 3)) ∧ (decode cX10_lots 80 = .ok (.iload_n 2, 1)) ∧ (decode cX10_lots 81 = .ok (.ireturn, 1)) := by decide +kernel
theorem dX10_lots_64 : decode cX10_lots 64 = .ok (.iload_n 3, 1) := gX10_lots_36.1
theorem dX10_lots_65 : decode cX10_lots 65 = .ok (.iconst 0, 1) := gX10_lots_36.2.1
theorem dX10_lots_66 : decode cX10_lots 66 = .ok (.bastore, 1) := gX10_lots_36.2.2.1
theorem dX10_lots_67 : decode cX10_lots 67 = .ok (.aload_n 0, 1) := gX10_lots_36.2.2.2.1
theorem dX10_lots_68 : decode cX10_lots 68 = .ok (.getfield 39, 3) := gX10_lots_36.2.2.2.2.1
theorem dX10_lots_71 : decode cX10_lots 71 = .ok (.iload_n 3, 1) := gX10_lots_36.2.2.2.2.2.1
theorem dX10_lots_72 : decode cX10_lots 72 = .ok (.iconst (-1), 1) := gX10_lots_36.2.2.2.2.2.2.1
theorem dX10_lots_73 : decode cX10_lots 73 = .ok (.iastore, 1) := gX10_lots_36.2.2.2.2.2.2.2.1
theorem dX10_lots_74 : decode cX10_lots 74 = .ok (.iinc 3 1, 3) := gX10_lots_36.2.2.2.2.2.2.2.2.1
theorem dX10_lots_77 : decode cX10_lots 77 = .ok (.goto (-23), 3) := gX10_lots_36.2.2.2.2.2.2.2.2.2.1
theorem dX10_lots_80 : decode cX10_lots 80 = .ok (.iload_n 2, 1) := gX10_lots_36.2.2.2.2.2.2.2.2.2.2.1
theorem dX10_lots_81 : decode cX10_lots 81 = .ok (.ireturn, 1) := gX10_lots_36.2.2.2.2.2.2.2.2.2.2.2
theorem gX10_closing_0 : (decode cX10_closing 0 = .ok (.aload_n 0, 1)) ∧ (decode cX10_closing 1 = .ok (.getfield 7, 3)) ∧ (decode cX10_closing 4 = .ok (.ifCond .lt 10, 3)) ∧ (decode cX10_closing 7 = .ok (.aload_n 0, 1)) ∧ (decode cX10_closing 8 = .ok (.bipush (-3), 2)) ∧ (decode cX10_closing 10 = .ok (.invokevirtual 151, 3)) ∧ (decode cX10_closing 13 = .ok (.ireturn, 1)) ∧ (decode cX10_closing 14 = .ok (.iload_n 1, 1)) ∧ (decode cX10_closing 15 = .ok (.aload_n 0, 1)) ∧ (decode cX10_closing 16 = .ok (.getfield 148, 3)) ∧ (decode cX10_closing 19 = .ok (.if_icmp .ge 10, 3)) ∧ (decode cX10_closing 22 = .ok (.aload_n 0, 1)) := by decide +kernel
theorem dX10_closing_0 : decode cX10_closing 0 = .ok (.aload_n 0, 1) := gX10_closing_0.1
theorem dX10_closing_1 : decode cX10_closing 1 = .ok (.getfield 7, 3) := gX10_closing_0.2.1
theorem dX10_closing_4 : decode cX10_closing 4 = .ok (.ifCond .lt 10, 3) := gX10_closing_0.2.2.1
theorem dX10_closing_7 : decode cX10_closing 7 = .ok (.aload_n 0, 1) := gX10_closing_0.2.2.2.1
theorem dX10_closing_8 : decode cX10_closing 8 = .ok (.bipush (-3), 2) := gX10_closing_0.2.2.2.2.1
theorem dX10_closing_10 : decode cX10_closing 10 = .ok (.invokevirtual 151, 3) := gX10_closing_0.2.2.2.2.2.1
theorem dX10_closing_13 : decode cX10_closing 13 = .ok (.ireturn, 1) := gX10_closing_0.2.2.2.2.2.2.1
theorem dX10_closing_14 : decode cX10_closing 14 = .ok (.iload_n 1, 1) := gX10_closing_0.2.2.2.2.2.2.2.1
theorem dX10_closing_15 : decode cX10_closing 15 = .ok (.aload_n 0, 1) := gX10_closing_0.2.2.2.2.2.2.2.2.1
theorem dX10_closing_16 : decode cX10_closing 16 = .ok (.getfield 148, 3) := gX10_closing_0.2.2.2.2.2.2.2.2.2.1
theorem dX10_closing_19 : decode cX10_closing 19 = .ok (.if_icmp .ge 10, 3) := gX10_closing_0.2.2.2.2.2.2.2.2.2.2.1
theorem dX10_closing_22 : decode cX10_closing 22 = .ok (.aload_n 0, 1) := gX10_closing_0.2.2.2.2.2.2.2.2.2.2.2
theorem gX10_closing_12 : (decode cX10_closing 23 = .ok (.bipush (-4), 2)) ∧ (decode cX10_closing 25 = .ok (.invokevirtual 151, 3)) ∧ (decode cX10_closing 28 = .ok (.ireturn, 1)) ∧ (decode cX10_closing 29 = .ok (.iload_n 1, 1)) ∧ (decode cX10_closing 30 = .ok (.ldc 155, 2)) ∧ (decode cX10_closing 32 = .ok (.if_icmp .le 10, 3)) ∧ (decode cX10_closing 35 = .ok (.aload_n 0, 1)) ∧ (decode cX10_closing 36 = .ok (.bipush (-6), 2)) ∧ (decode cX10_closing 38 = .ok (.invokevirtual 151, 3)) ∧ (decode cX10_closing 41 = .ok (.ireturn, 1)) ∧ (decode cX10_closing 42 = .ok (.aload_n 0, 1)) ∧ (decode cX10_closing 43 = .ok (.iload_n 1, 1)) := by decide +kernel
theorem dX10_closing_23 : decode cX10_closing 23 = .ok (.bipush (-4), 2) := gX10_closing_12.1
theorem dX10_closing_25 : decode cX10_closing 25 = .ok (.invokevirtual 151, 3) := gX10_closing_12.2.1
theorem dX10_closing_28 : decode cX10_closing 28 = .ok (.ireturn, 1) := gX10_closing_12.2.2.1
theorem dX10_closing_29 : decode cX10_closing 29 = .ok (.iload_n 1, 1) := gX10_closing_12.2.2.2.1
theorem dX10_closing_30 : decode cX10_closing 30 = .ok (.ldc 155, 2) := gX10_closing_12.2.2.2.2.1
theorem dX10_closing_32 : decode cX10_closing 32 = .ok (.if_icmp .le 10, 3) := gX10_closing_12.2.2.2.2.2.1
theorem dX10_closing_35 : decode cX10_closing 35 = .ok (.aload_n 0, 1) := gX10_closing_12.2.2.2.2.2.2.1
theorem dX10_closing_36 : decode cX10_closing 36 = .ok (.bipush (-6), 2) := gX10_closing_12.2.2.2.2.2.2.2.1
theorem dX10_closing_38 : decode cX10_closing 38 = .ok (.invokevirtual 151, 3) := gX10_closing_12.2.2.2.2.2.2.2.2.1
theorem dX10_closing_41 : decode cX10_closing 41 = .ok (.ireturn, 1) := gX10_closing_12.2.2.2.2.2.2.2.2.2.1
theorem dX10_closing_42 : decode cX10_closing 42 = .ok (.aload_n 0, 1) := gX10_closing_12.2.2.2.2.2.2.2.2.2.2.1
theorem dX10_closing_43 : decode cX10_closing 43 = .ok (.iload_n 1, 1) := gX10_closing_12.2.2.2.2.2.2.2.2.2.2.2
theorem gX10_closing_24 : (decode cX10_closing 44 = .ok (.putfield 7, 3)) ∧ (decode cX10_closing 47 = .ok (.iconst 1, 1)) ∧ (decode cX10_closing 48 = .ok (.ireturn, 1)) := by decide +kernel
theorem dX10_closing_44 : decode cX10_closing 44 = .ok (.putfield 7, 3) := gX10_closing_24.1
theorem dX10_closing_47 : decode cX10_closing 47 = .ok (.iconst 1, 1) := gX10_closing_24.2.1
theorem dX10_closing_48 : decode cX10_closing 48 = .ok (.ireturn, 1) := gX10_closing_24.2.2
theorem gX10_wrongBid_0 : (decode cX10_wrongBid 0 = .ok (.iload_n 1, 1)) ∧ (decode cX10_wrongBid 1 = .ok (.iconst 0, 1)) ∧ (decode cX10_wrongBid 2 = .ok (.iconst 3, 1)) ∧ (decode cX10_wrongBid 3 = .ok (.invokestatic 144, 3)) ∧ (decode cX10_wrongBid 6 = .ok (.ifCond .ne 5, 3)) ∧ (decode cX10_wrongBid 9 = .ok (.iconst (-1), 1)) ∧ (decode cX10_wrongBid 10 = .ok (.ireturn, 1)) ∧ (decode cX10_wrongBid 11 = .ok (.iload_n 2, 1)) ∧ (decode cX10_wrongBid 12 = .ok (.ifCond .lt 27, 3)) ∧ (decode cX10_wrongBid 15 = .ok (.iload_n 3, 1)) ∧ (decode cX10_wrongBid 16 = .ok (.ifCond .lt 23, 3)) ∧ (decode cX10_wrongBid 19 = .ok (.iload 4, 2)) := by decide +kernel
theorem dX10_wrongBid_0 : decode cX10_wrongBid 0 = .ok (.iload_n 1, 1) := gX10_wrongBid_0.1
theorem dX10_wrongBid_1 : decode cX10_wrongBid 1 = .ok (.iconst 0, 1) := gX10_wrongBid_0.2.1
theorem dX10_wrongBid_2 : decode cX10_wrongBid 2 = .ok (.iconst 3, 1) := gX10_wrongBid_0.2.2.1
theorem dX10_wrongBid_3 : decode cX10_wrongBid 3 = .ok (.invokestatic 144, 3) := gX10_wrongBid_0.2.2.2.1
theorem dX10_wrongBid_6 : decode cX10_wrongBid 6 = .ok (.ifCond .ne 5, 3) := gX10_wrongBid_0.2.2.2.2.1
theorem dX10_wrongBid_9 : decode cX10_wrongBid 9 = .ok (.iconst (-1), 1) := gX10_wrongBid_0.2.2.2.2.2.1
theorem dX10_wrongBid_10 : decode cX10_wrongBid 10 = .ok (.ireturn, 1) := gX10_wrongBid_0.2.2.2.2.2.2.1
theorem dX10_wrongBid_11 : decode cX10_wrongBid 11 = .ok (.iload_n 2, 1) := gX10_wrongBid_0.2.2.2.2.2.2.2.1
theorem dX10_wrongBid_12 : decode cX10_wrongBid 12 = .ok (.ifCond .lt 27, 3) := gX10_wrongBid_0.2.2.2.2.2.2.2.2.1
theorem dX10_wrongBid_15 : decode cX10_wrongBid 15 = .ok (.iload_n 3, 1) := gX10_wrongBid_0.2.2.2.2.2.2.2.2.2.1
theorem dX10_wrongBid_16 : decode cX10_wrongBid 16 = .ok (.ifCond .lt 23, 3) := gX10_wrongBid_0.2.2.2.2.2.2.2.2.2.2.1
theorem dX10_wrongBid_19 : decode cX10_wrongBid 19 = .ok (.iload 4, 2) := gX10_wrongBid_0.2.2.2.2.2.2.2.2.2.2.2
theorem gX10_wrongBid_12 : (decode cX10_wrongBid 21 = .ok (.ifCond .lt 18, 3)) ∧ (decode cX10_wrongBid 24 = .ok (.iload 5, 2)) ∧ (decode cX10_wrongBid 26 = .ok (.ifCond .lt 13, 3)) ∧ (decode cX10_wrongBid 29 = .ok (.iload 6, 2)) ∧ (decode cX10_wrongBid 31 = .ok (.ifCond .lt 8, 3)) ∧ (decode cX10_wrongBid 34 = .ok (.iload 7, 2)) ∧ (decode cX10_wrongBid 36 = .ok (.ifCond .ge 6, 3)) ∧ (decode cX10_wrongBid 39 = .ok (.bipush (-4), 2)) ∧ (decode cX10_wrongBid 41 = .ok (.ireturn, 1)) ∧ (decode cX10_wrongBid 42 = .ok (.iload_n 2, 1)) ∧ (decode cX10_wrongBid 43 = .ok (.ldc 165, 2)) ∧ (decode cX10_wrongBid 45 = .ok (.if_icmp .gt 37, 3)) := by decide +kernel
theorem dX10_wrongBid_21 : decode cX10_wrongBid 21 = .ok (.ifCond .lt 18, 3) := gX10_wrongBid_12.1
theorem dX10_wrongBid_24 : decode cX10_wrongBid 24 = .ok (.iload 5, 2) := gX10_wrongBid_12.2.1
theorem dX10_wrongBid_26 : decode cX10_wrongBid 26 = .ok (.ifCond .lt 13, 3) := gX10_wrongBid_12.2.2.1
theorem dX10_wrongBid_29 : decode cX10_wrongBid 29 = .ok (.iload 6, 2) := gX10_wrongBid_12.2.2.2.1
theorem dX10_wrongBid_31 : decode cX10_wrongBid 31 = .ok (.ifCond .lt 8, 3) := gX10_wrongBid_12.2.2.2.2.1
theorem dX10_wrongBid_34 : decode cX10_wrongBid 34 = .ok (.iload 7, 2) := gX10_wrongBid_12.2.2.2.2.2.1
theorem dX10_wrongBid_36 : decode cX10_wrongBid 36 = .ok (.ifCond .ge 6, 3) := gX10_wrongBid_12.2.2.2.2.2.2.1
theorem dX10_wrongBid_39 : decode cX10_wrongBid 39 = .ok (.bipush (-4), 2) := gX10_wrongBid_12.2.2.2.2.2.2.2.1
theorem dX10_wrongBid_41 : decode cX10_wrongBid 41 = .ok (.ireturn, 1) := gX10_wrongBid_12.2.2.2.2.2.2.2.2.1
theorem dX10_wrongBid_42 : decode cX10_wrongBid 42 = .ok (.iload_n 2, 1) := gX10_wrongBid_12.2.2.2.2.2.2.2.2.2.1
theorem dX10_wrongBid_43 : decode cX10_wrongBid 43 = .ok (.ldc 165, 2) := gX10_wrongBid_12.2.2.2.2.2.2.2.2.2.2.1
theorem dX10_wrongBid_45 : decode cX10_wrongBid 45 = .ok (.if_icmp .gt 37, 3) := gX10_wrongBid_12.2.2.2.2.2.2.2.2.2.2.2
theorem gX10_wrongBid_24 : (decode cX10_wrongBid 48 = .ok (.iload_n 3, 1)) ∧ (decode cX10_wrongBid 49 = .ok (.ldc 165, 2)) ∧ (decode cX10_wrongBid 51 = .ok (.if_icmp .gt 31, 3)) ∧ (decode cX10_wrongBid 54 = .ok (.iload 4, 2)) ∧ (decode cX10_wrongBid 56 = .ok (.ldc 165, 2)) ∧ (decode cX10_wrongBid 58 = .ok (.if_icmp .gt 24, 3)) ∧ (decode cX10_wrongBid 61 = .ok (.iload 5, 2)) ∧ (decode cX10_wrongBid 63 = .ok (.ldc 165, 2)) ∧ (decode cX10_wrongBid 65 = .ok (.if_icmp .gt 17, 3)) ∧ (decode cX10_wrongBid 68 = .ok (.iload 6, 2)) ∧ (decode cX10_wrongBid 70 = .ok (.ldc 155, 2)) ∧ (decode cX10_wrongBid 72 = .ok (.if_icmp .gt 10, 3)) := by decide +kernel
theorem dX10_wrongBid_48 : decode cX10_wrongBid 48 = .ok (.iload_n 3, 1) := gX10_wrongBid_24.1
theorem dX10_wrongBid_49 : decode cX10_wrongBid 49 = .ok (.ldc 165, 2) := gX10_wrongBid_24.2.1
theorem dX10_wrongBid_51 : decode cX10_wrongBid 51 = .ok (.if_icmp .gt 31, 3) := gX10_wrongBid_24.2.2.1
theorem dX10_wrongBid_54 : decode cX10_wrongBid 54 = .ok (.iload 4, 2) := gX10_wrongBid_24.2.2.2.1
theorem dX10_wrongBid_56 : decode cX10_wrongBid 56 = .ok (.ldc 165, 2) := gX10_wrongBid_24.2.2.2.2.1
theorem dX10_wrongBid_58 : decode cX10_wrongBid 58 = .ok (.if_icmp .gt 24, 3) := gX10_wrongBid_24.2.2.2.2.2.1
theorem dX10_wrongBid_61 : decode cX10_wrongBid 61 = .ok (.iload 5, 2) := gX10_wrongBid_24.2.2.2.2.2.2.1
theorem dX10_wrongBid_63 : decode cX10_wrongBid 63 = .ok (.ldc 165, 2) := gX10_wrongBid_24.2.2.2.2.2.2.2.1
theorem dX10_wrongBid_65 : decode cX10_wrongBid 65 = .ok (.if_icmp .gt 17, 3) := gX10_wrongBid_24.2.2.2.2.2.2.2.2.1
theorem dX10_wrongBid_68 : decode cX10_wrongBid 68 = .ok (.iload 6, 2) := gX10_wrongBid_24.2.2.2.2.2.2.2.2.2.1
theorem dX10_wrongBid_70 : decode cX10_wrongBid 70 = .ok (.ldc 155, 2) := gX10_wrongBid_24.2.2.2.2.2.2.2.2.2.2.1
theorem dX10_wrongBid_72 : decode cX10_wrongBid 72 = .ok (.if_icmp .gt 10, 3) := gX10_wrongBid_24.2.2.2.2.2.2.2.2.2.2.2
theorem gX10_wrongBid_36 : (decode cX10_wrongBid 75 = .ok (.iload 7, 2)) ∧ (decode cX10_wrongBid 77 = .ok (.ldc 165, 2)) ∧ (decode cX10_wrongBid 79 = .ok (.if_icmp .le 8, 3)) ∧ (decode cX10_wrongBid 82 = .ok (.bipush (-6), 2)) ∧ (decode cX10_wrongBid 84 = .ok (.goto 4, 3)) ∧ (decode cX10_wrongBid 87 = .ok (.iconst 0, 1)) ∧ (decode cX10_wrongBid 88 = .ok (.ireturn, 1)) := by decide +kernel
theorem dX10_wrongBid_75 : decode cX10_wrongBid 75 = .ok (.iload 7, 2) := gX10_wrongBid_36.1
theorem dX10_wrongBid_77 : decode cX10_wrongBid 77 = .ok (.ldc 165, 2) := gX10_wrongBid_36.2.1
theorem dX10_wrongBid_79 : decode cX10_wrongBid 79 = .ok (.if_icmp .le 8, 3) := gX10_wrongBid_36.2.2.1
theorem dX10_wrongBid_82 : decode cX10_wrongBid 82 = .ok (.bipush (-6), 2) := gX10_wrongBid_36.2.2.2.1
theorem dX10_wrongBid_84 : decode cX10_wrongBid 84 = .ok (.goto 4, 3) := gX10_wrongBid_36.2.2.2.2.1
theorem dX10_wrongBid_87 : decode cX10_wrongBid 87 = .ok (.iconst 0, 1) := gX10_wrongBid_36.2.2.2.2.2.1
theorem dX10_wrongBid_88 : decode cX10_wrongBid 88 = .ok (.ireturn, 1) := gX10_wrongBid_36.2.2.2.2.2.2
theorem gX10_bid_0 : (decode cX10_bid 0 = .ok (.iload_n 1, 1)) ∧ (decode cX10_bid 1 = .ok (.invokestatic 166, 3)) ∧ (decode cX10_bid 4 = .ok (.ifCond .eq 11, 3)) ∧ (decode cX10_bid 7 = .ok (.aload_n 0, 1)) ∧ (decode cX10_bid 8 = .ok (.iload_n 2, 1)) ∧ (decode cX10_bid 9 = .ok (.invokevirtual 170, 3)) ∧ (decode cX10_bid 12 = .ok (.ifCond .ne 7, 3)) ∧ (decode cX10_bid 15 = .ok (.iconst (-1), 1)) ∧ (decode cX10_bid 16 = .ok (.goto 20, 3)) ∧ (decode cX10_bid 19 = .ok (.aload_n 0, 1)) ∧ (decode cX10_bid 20 = .ok (.iload_n 3, 1)) ∧ (decode cX10_bid 21 = .ok (.iload 4, 2)) := by decide +kernel
theorem dX10_bid_0 : decode cX10_bid 0 = .ok (.iload_n 1, 1) := gX10_bid_0.1
theorem dX10_bid_1 : decode cX10_bid 1 = .ok (.invokestatic 166, 3) := gX10_bid_0.2.1
theorem dX10_bid_4 : decode cX10_bid 4 = .ok (.ifCond .eq 11, 3) := gX10_bid_0.2.2.1
theorem dX10_bid_7 : decode cX10_bid 7 = .ok (.aload_n 0, 1) := gX10_bid_0.2.2.2.1
theorem dX10_bid_8 : decode cX10_bid 8 = .ok (.iload_n 2, 1) := gX10_bid_0.2.2.2.2.1
theorem dX10_bid_9 : decode cX10_bid 9 = .ok (.invokevirtual 170, 3) := gX10_bid_0.2.2.2.2.2.1
theorem dX10_bid_12 : decode cX10_bid 12 = .ok (.ifCond .ne 7, 3) := gX10_bid_0.2.2.2.2.2.2.1
theorem dX10_bid_15 : decode cX10_bid 15 = .ok (.iconst (-1), 1) := gX10_bid_0.2.2.2.2.2.2.2.1
theorem dX10_bid_16 : decode cX10_bid 16 = .ok (.goto 20, 3) := gX10_bid_0.2.2.2.2.2.2.2.2.1
theorem dX10_bid_19 : decode cX10_bid 19 = .ok (.aload_n 0, 1) := gX10_bid_0.2.2.2.2.2.2.2.2.2.1
theorem dX10_bid_20 : decode cX10_bid 20 = .ok (.iload_n 3, 1) := gX10_bid_0.2.2.2.2.2.2.2.2.2.2.1
theorem dX10_bid_21 : decode cX10_bid 21 = .ok (.iload 4, 2) := gX10_bid_0.2.2.2.2.2.2.2.2.2.2.2
theorem gX10_bid_12 : (decode cX10_bid 23 = .ok (.iload 5, 2)) ∧ (decode cX10_bid 25 = .ok (.iload 6, 2)) ∧ (decode cX10_bid 27 = .ok (.iload 7, 2)) ∧ (decode cX10_bid 29 = .ok (.iload 8, 2)) ∧ (decode cX10_bid 31 = .ok (.iload 9, 2)) ∧ (decode cX10_bid 33 = .ok (.invokevirtual 173, 3)) ∧ (decode cX10_bid 36 = .ok (.istore 10, 2)) ∧ (decode cX10_bid 38 = .ok (.iload 10, 2)) ∧ (decode cX10_bid 40 = .ok (.ifCond .ge 10, 3)) ∧ (decode cX10_bid 43 = .ok (.aload_n 0, 1)) ∧ (decode cX10_bid 44 = .ok (.iload 10, 2)) ∧ (decode cX10_bid 46 = .ok (.invokevirtual 151, 3)) := by decide +kernel
theorem dX10_bid_23 : decode cX10_bid 23 = .ok (.iload 5, 2) := gX10_bid_12.1
theorem dX10_bid_25 : decode cX10_bid 25 = .ok (.iload 6, 2) := gX10_bid_12.2.1
theorem dX10_bid_27 : decode cX10_bid 27 = .ok (.iload 7, 2) := gX10_bid_12.2.2.1
theorem dX10_bid_29 : decode cX10_bid 29 = .ok (.iload 8, 2) := gX10_bid_12.2.2.2.1
theorem dX10_bid_31 : decode cX10_bid 31 = .ok (.iload 9, 2) := gX10_bid_12.2.2.2.2.1
theorem dX10_bid_33 : decode cX10_bid 33 = .ok (.invokevirtual 173, 3) := gX10_bid_12.2.2.2.2.2.1
theorem dX10_bid_36 : decode cX10_bid 36 = .ok (.istore 10, 2) := gX10_bid_12.2.2.2.2.2.2.1
theorem dX10_bid_38 : decode cX10_bid 38 = .ok (.iload 10, 2) := gX10_bid_12.2.2.2.2.2.2.2.1
theorem dX10_bid_40 : decode cX10_bid 40 = .ok (.ifCond .ge 10, 3) := gX10_bid_12.2.2.2.2.2.2.2.2.1
theorem dX10_bid_43 : decode cX10_bid 43 = .ok (.aload_n 0, 1) := gX10_bid_12.2.2.2.2.2.2.2.2.2.1
theorem dX10_bid_44 : decode cX10_bid 44 = .ok (.iload 10, 2) := gX10_bid_12.2.2.2.2.2.2.2.2.2.2.1
theorem dX10_bid_46 : decode cX10_bid 46 = .ok (.invokevirtual 151, 3) := gX10_bid_12.2.2.2.2.2.2.2.2.2.2.2
theorem gX10_bid_24 : (decode cX10_bid 49 = .ok (.ireturn, 1)) ∧ (decode cX10_bid 50 = .ok (.aload_n 0, 1)) ∧ (decode cX10_bid 51 = .ok (.invokevirtual 160, 3)) ∧ (decode cX10_bid 54 = .ok (.ifCond .ne 16, 3)) ∧ (decode cX10_bid 57 = .ok (.aload_n 0, 1)) ∧ (decode cX10_bid 58 = .ok (.dup, 1)) ∧ (decode cX10_bid 59 = .ok (.getfield 177, 3)) ∧ (decode cX10_bid 62 = .ok (.iconst 1, 1)) ∧ (decode cX10_bid 63 = .ok (.iadd, 1)) ∧ (decode cX10_bid 64 = .ok (.putfield 177, 3)) ∧ (decode cX10_bid 67 = .ok (.bipush (-9), 2)) ∧ (decode cX10_bid 69 = .ok (.ireturn, 1)) := by decide +kernel
theorem dX10_bid_49 : decode cX10_bid 49 = .ok (.ireturn, 1) := gX10_bid_24.1
theorem dX10_bid_50 : decode cX10_bid 50 = .ok (.aload_n 0, 1) := gX10_bid_24.2.1
theorem dX10_bid_51 : decode cX10_bid 51 = .ok (.invokevirtual 160, 3) := gX10_bid_24.2.2.1
theorem dX10_bid_54 : decode cX10_bid 54 = .ok (.ifCond .ne 16, 3) := gX10_bid_24.2.2.2.1
theorem dX10_bid_57 : decode cX10_bid 57 = .ok (.aload_n 0, 1) := gX10_bid_24.2.2.2.2.1
theorem dX10_bid_58 : decode cX10_bid 58 = .ok (.dup, 1) := gX10_bid_24.2.2.2.2.2.1
theorem dX10_bid_59 : decode cX10_bid 59 = .ok (.getfield 177, 3) := gX10_bid_24.2.2.2.2.2.2.1
theorem dX10_bid_62 : decode cX10_bid 62 = .ok (.iconst 1, 1) := gX10_bid_24.2.2.2.2.2.2.2.1
theorem dX10_bid_63 : decode cX10_bid 63 = .ok (.iadd, 1) := gX10_bid_24.2.2.2.2.2.2.2.2.1
theorem dX10_bid_64 : decode cX10_bid 64 = .ok (.putfield 177, 3) := gX10_bid_24.2.2.2.2.2.2.2.2.2.1
theorem dX10_bid_67 : decode cX10_bid 67 = .ok (.bipush (-9), 2) := gX10_bid_24.2.2.2.2.2.2.2.2.2.2.1
theorem dX10_bid_69 : decode cX10_bid 69 = .ok (.ireturn, 1) := gX10_bid_24.2.2.2.2.2.2.2.2.2.2.2
theorem gX10_bid_36 : (decode cX10_bid 70 = .ok (.bipush 8, 2)) ∧ (decode cX10_bid 72 = .ok (.iload_n 2, 1)) ∧ (decode cX10_bid 73 = .ok (.imul, 1)) ∧ (decode cX10_bid 74 = .ok (.iload_n 1, 1)) ∧ (decode cX10_bid 75 = .ok (.iadd, 1)) ∧ (decode cX10_bid 76 = .ok (.istore 11, 2)) ∧ (decode cX10_bid 78 = .ok (.aload_n 0, 1)) ∧ (decode cX10_bid 79 = .ok (.getfield 20, 3)) ∧ (decode cX10_bid 82 = .ok (.iload 11, 2)) ∧ (decode cX10_bid 84 = .ok (.baload, 1)) ∧ (decode cX10_bid 85 = .ok (.istore 12, 2)) ∧ (decode cX10_bid 87 = .ok (.aload_n 0, 1)) := by decide +kernel
theorem dX10_bid_70 : decode cX10_bid 70 = .ok (.bipush 8, 2) := gX10_bid_36.1
theorem dX10_bid_72 : decode cX10_bid 72 = .ok (.iload_n 2, 1) := gX10_bid_36.2.1
theorem dX10_bid_73 : decode cX10_bid 73 = .ok (.imul, 1) := gX10_bid_36.2.2.1
theorem dX10_bid_74 : decode cX10_bid 74 = .ok (.iload_n 1, 1) := gX10_bid_36.2.2.2.1
theorem dX10_bid_75 : decode cX10_bid 75 = .ok (.iadd, 1) := gX10_bid_36.2.2.2.2.1
theorem dX10_bid_76 : decode cX10_bid 76 = .ok (.istore 11, 2) := gX10_bid_36.2.2.2.2.2.1
theorem dX10_bid_78 : decode cX10_bid 78 = .ok (.aload_n 0, 1) := gX10_bid_36.2.2.2.2.2.2.1
theorem dX10_bid_79 : decode cX10_bid 79 = .ok (.getfield 20, 3) := gX10_bid_36.2.2.2.2.2.2.2.1
theorem dX10_bid_82 : decode cX10_bid 82 = .ok (.iload 11, 2) := gX10_bid_36.2.2.2.2.2.2.2.2.1
theorem dX10_bid_84 : decode cX10_bid 84 = .ok (.baload, 1) := gX10_bid_36.2.2.2.2.2.2.2.2.2.1
theorem dX10_bid_85 : decode cX10_bid 85 = .ok (.istore 12, 2) := gX10_bid_36.2.2.2.2.2.2.2.2.2.2.1
theorem dX10_bid_87 : decode cX10_bid 87 = .ok (.aload_n 0, 1) := gX10_bid_36.2.2.2.2.2.2.2.2.2.2.2
theorem gX10_bid_48 : (decode cX10_bid 88 = .ok (.getfield 20, 3)) ∧ (decode cX10_bid 91 = .ok (.iload 11, 2)) ∧ (decode cX10_bid 93 = .ok (.iconst 1, 1)) ∧ (decode cX10_bid 94 = .ok (.bastore, 1)) ∧ (decode cX10_bid 95 = .ok (.aload_n 0, 1)) ∧ (decode cX10_bid 96 = .ok (.getfield 39, 3)) ∧ (decode cX10_bid 99 = .ok (.iload 11, 2)) ∧ (decode cX10_bid 101 = .ok (.iconst (-1), 1)) ∧ (decode cX10_bid 102 = .ok (.iastore, 1)) ∧ (decode cX10_bid 103 = .ok (.aload_n 0, 1)) ∧ (decode cX10_bid 104 = .ok (.getfield 24, 3)) ∧ (decode cX10_bid 107 = .ok (.iload 11, 2)) := by decide +kernel
theorem dX10_bid_88 : decode cX10_bid 88 = .ok (.getfield 20, 3) := gX10_bid_48.1
theorem dX10_bid_91 : decode cX10_bid 91 = .ok (.iload 11, 2) := gX10_bid_48.2.1
theorem dX10_bid_93 : decode cX10_bid 93 = .ok (.iconst 1, 1) := gX10_bid_48.2.2.1
theorem dX10_bid_94 : decode cX10_bid 94 = .ok (.bastore, 1) := gX10_bid_48.2.2.2.1
theorem dX10_bid_95 : decode cX10_bid 95 = .ok (.aload_n 0, 1) := gX10_bid_48.2.2.2.2.1
theorem dX10_bid_96 : decode cX10_bid 96 = .ok (.getfield 39, 3) := gX10_bid_48.2.2.2.2.2.1
theorem dX10_bid_99 : decode cX10_bid 99 = .ok (.iload 11, 2) := gX10_bid_48.2.2.2.2.2.2.1
theorem dX10_bid_101 : decode cX10_bid 101 = .ok (.iconst (-1), 1) := gX10_bid_48.2.2.2.2.2.2.2.1
theorem dX10_bid_102 : decode cX10_bid 102 = .ok (.iastore, 1) := gX10_bid_48.2.2.2.2.2.2.2.2.1
theorem dX10_bid_103 : decode cX10_bid 103 = .ok (.aload_n 0, 1) := gX10_bid_48.2.2.2.2.2.2.2.2.2.1
theorem dX10_bid_104 : decode cX10_bid 104 = .ok (.getfield 24, 3) := gX10_bid_48.2.2.2.2.2.2.2.2.2.2.1
theorem dX10_bid_107 : decode cX10_bid 107 = .ok (.iload 11, 2) := gX10_bid_48.2.2.2.2.2.2.2.2.2.2.2
theorem gX10_bid_60 : (decode cX10_bid 109 = .ok (.iload_n 3, 1)) ∧ (decode cX10_bid 110 = .ok (.iastore, 1)) ∧ (decode cX10_bid 111 = .ok (.aload_n 0, 1)) ∧ (decode cX10_bid 112 = .ok (.getfield 27, 3)) ∧ (decode cX10_bid 115 = .ok (.iconst 4, 1)) ∧ (decode cX10_bid 116 = .ok (.iload 11, 2)) ∧ (decode cX10_bid 118 = .ok (.imul, 1)) ∧ (decode cX10_bid 119 = .ok (.iload 4, 2)) ∧ (decode cX10_bid 121 = .ok (.iastore, 1)) ∧ (decode cX10_bid 122 = .ok (.aload_n 0, 1)) ∧ (decode cX10_bid 123 = .ok (.getfield 27, 3)) ∧ (decode cX10_bid 126 = .ok (.iconst 4, 1)) := by decide +kernel
theorem dX10_bid_109 : decode cX10_bid 109 = .ok (.iload_n 3, 1) := gX10_bid_60.1
theorem dX10_bid_110 : decode cX10_bid 110 = .ok (.iastore, 1) := gX10_bid_60.2.1
theorem dX10_bid_111 : decode cX10_bid 111 = .ok (.aload_n 0, 1) := gX10_bid_60.2.2.1
theorem dX10_bid_112 : decode cX10_bid 112 = .ok (.getfield 27, 3) := gX10_bid_60.2.2.2.1
theorem dX10_bid_115 : decode cX10_bid 115 = .ok (.iconst 4, 1) := gX10_bid_60.2.2.2.2.1
theorem dX10_bid_116 : decode cX10_bid 116 = .ok (.iload 11, 2) := gX10_bid_60.2.2.2.2.2.1
theorem dX10_bid_118 : decode cX10_bid 118 = .ok (.imul, 1) := gX10_bid_60.2.2.2.2.2.2.1
theorem dX10_bid_119 : decode cX10_bid 119 = .ok (.iload 4, 2) := gX10_bid_60.2.2.2.2.2.2.2.1
theorem dX10_bid_121 : decode cX10_bid 121 = .ok (.iastore, 1) := gX10_bid_60.2.2.2.2.2.2.2.2.1
theorem dX10_bid_122 : decode cX10_bid 122 = .ok (.aload_n 0, 1) := gX10_bid_60.2.2.2.2.2.2.2.2.2.1
theorem dX10_bid_123 : decode cX10_bid 123 = .ok (.getfield 27, 3) := gX10_bid_60.2.2.2.2.2.2.2.2.2.2.1
theorem dX10_bid_126 : decode cX10_bid 126 = .ok (.iconst 4, 1) := gX10_bid_60.2.2.2.2.2.2.2.2.2.2.2
theorem gX10_bid_72 : (decode cX10_bid 127 = .ok (.iload 11, 2)) ∧ (decode cX10_bid 129 = .ok (.imul, 1)) ∧ (decode cX10_bid 130 = .ok (.iconst 1, 1)) ∧ (decode cX10_bid 131 = .ok (.iadd, 1)) ∧ (decode cX10_bid 132 = .ok (.iload 5, 2)) ∧ (decode cX10_bid 134 = .ok (.iastore, 1)) ∧ (decode cX10_bid 135 = .ok (.aload_n 0, 1)) ∧ (decode cX10_bid 136 = .ok (.getfield 27, 3)) ∧ (decode cX10_bid 139 = .ok (.iconst 4, 1)) ∧ (decode cX10_bid 140 = .ok (.iload 11, 2)) ∧ (decode cX10_bid 142 = .ok (.imul, 1)) ∧ (decode cX10_bid 143 = .ok (.iconst 2, 1)) := by decide +kernel
theorem dX10_bid_127 : decode cX10_bid 127 = .ok (.iload 11, 2) := gX10_bid_72.1
theorem dX10_bid_129 : decode cX10_bid 129 = .ok (.imul, 1) := gX10_bid_72.2.1
theorem dX10_bid_130 : decode cX10_bid 130 = .ok (.iconst 1, 1) := gX10_bid_72.2.2.1
theorem dX10_bid_131 : decode cX10_bid 131 = .ok (.iadd, 1) := gX10_bid_72.2.2.2.1
theorem dX10_bid_132 : decode cX10_bid 132 = .ok (.iload 5, 2) := gX10_bid_72.2.2.2.2.1
theorem dX10_bid_134 : decode cX10_bid 134 = .ok (.iastore, 1) := gX10_bid_72.2.2.2.2.2.1
theorem dX10_bid_135 : decode cX10_bid 135 = .ok (.aload_n 0, 1) := gX10_bid_72.2.2.2.2.2.2.1
theorem dX10_bid_136 : decode cX10_bid 136 = .ok (.getfield 27, 3) := gX10_bid_72.2.2.2.2.2.2.2.1
theorem dX10_bid_139 : decode cX10_bid 139 = .ok (.iconst 4, 1) := gX10_bid_72.2.2.2.2.2.2.2.2.1
theorem dX10_bid_140 : decode cX10_bid 140 = .ok (.iload 11, 2) := gX10_bid_72.2.2.2.2.2.2.2.2.2.1
theorem dX10_bid_142 : decode cX10_bid 142 = .ok (.imul, 1) := gX10_bid_72.2.2.2.2.2.2.2.2.2.2.1
theorem dX10_bid_143 : decode cX10_bid 143 = .ok (.iconst 2, 1) := gX10_bid_72.2.2.2.2.2.2.2.2.2.2.2
theorem gX10_bid_84 : (decode cX10_bid 144 = .ok (.iadd, 1)) ∧ (decode cX10_bid 145 = .ok (.iload 6, 2)) ∧ (decode cX10_bid 147 = .ok (.iastore, 1)) ∧ (decode cX10_bid 148 = .ok (.aload_n 0, 1)) ∧ (decode cX10_bid 149 = .ok (.getfield 27, 3)) ∧ (decode cX10_bid 152 = .ok (.iconst 4, 1)) ∧ (decode cX10_bid 153 = .ok (.iload 11, 2)) ∧ (decode cX10_bid 155 = .ok (.imul, 1)) ∧ (decode cX10_bid 156 = .ok (.iconst 3, 1)) ∧ (decode cX10_bid 157 = .ok (.iadd, 1)) ∧ (decode cX10_bid 158 = .ok (.iload 7, 2)) ∧ (decode cX10_bid 160 = .ok (.iastore, 1)) := by decide +kernel
theorem dX10_bid_144 : decode cX10_bid 144 = .ok (.iadd, 1) := gX10_bid_84.1
theorem dX10_bid_145 : decode cX10_bid 145 = .ok (.iload 6, 2) := gX10_bid_84.2.1
theorem dX10_bid_147 : decode cX10_bid 147 = .ok (.iastore, 1) := gX10_bid_84.2.2.1
theorem dX10_bid_148 : decode cX10_bid 148 = .ok (.aload_n 0, 1) := gX10_bid_84.2.2.2.1
theorem dX10_bid_149 : decode cX10_bid 149 = .ok (.getfield 27, 3) := gX10_bid_84.2.2.2.2.1
theorem dX10_bid_152 : decode cX10_bid 152 = .ok (.iconst 4, 1) := gX10_bid_84.2.2.2.2.2.1
theorem dX10_bid_153 : decode cX10_bid 153 = .ok (.iload 11, 2) := gX10_bid_84.2.2.2.2.2.2.1
theorem dX10_bid_155 : decode cX10_bid 155 = .ok (.imul, 1) := gX10_bid_84.2.2.2.2.2.2.2.1
theorem dX10_bid_156 : decode cX10_bid 156 = .ok (.iconst 3, 1) := gX10_bid_84.2.2.2.2.2.2.2.2.1
theorem dX10_bid_157 : decode cX10_bid 157 = .ok (.iadd, 1) := gX10_bid_84.2.2.2.2.2.2.2.2.2.1
theorem dX10_bid_158 : decode cX10_bid 158 = .ok (.iload 7, 2) := gX10_bid_84.2.2.2.2.2.2.2.2.2.2.1
theorem dX10_bid_160 : decode cX10_bid 160 = .ok (.iastore, 1) := gX10_bid_84.2.2.2.2.2.2.2.2.2.2.2
theorem gX10_bid_96 : (decode cX10_bid 161 = .ok (.aload_n 0, 1)) ∧ (decode cX10_bid 162 = .ok (.getfield 30, 3)) ∧ (decode cX10_bid 165 = .ok (.iload 11, 2)) ∧ (decode cX10_bid 167 = .ok (.iload 8, 2)) ∧ (decode cX10_bid 169 = .ok (.iastore, 1)) ∧ (decode cX10_bid 170 = .ok (.aload_n 0, 1)) ∧ (decode cX10_bid 171 = .ok (.getfield 33, 3)) ∧ (decode cX10_bid 174 = .ok (.iload 11, 2)) ∧ (decode cX10_bid 176 = .ok (.iload 9, 2)) ∧ (decode cX10_bid 178 = .ok (.iastore, 1)) ∧ (decode cX10_bid 179 = .ok (.iload 12, 2)) ∧ (decode cX10_bid 181 = .ok (.ifCond .eq 7, 3)) := by decide +kernel
theorem dX10_bid_161 : decode cX10_bid 161 = .ok (.aload_n 0, 1) := gX10_bid_96.1
theorem dX10_bid_162 : decode cX10_bid 162 = .ok (.getfield 30, 3) := gX10_bid_96.2.1
theorem dX10_bid_165 : decode cX10_bid 165 = .ok (.iload 11, 2) := gX10_bid_96.2.2.1
theorem dX10_bid_167 : decode cX10_bid 167 = .ok (.iload 8, 2) := gX10_bid_96.2.2.2.1
theorem dX10_bid_169 : decode cX10_bid 169 = .ok (.iastore, 1) := gX10_bid_96.2.2.2.2.1
theorem dX10_bid_170 : decode cX10_bid 170 = .ok (.aload_n 0, 1) := gX10_bid_96.2.2.2.2.2.1
theorem dX10_bid_171 : decode cX10_bid 171 = .ok (.getfield 33, 3) := gX10_bid_96.2.2.2.2.2.2.1
theorem dX10_bid_174 : decode cX10_bid 174 = .ok (.iload 11, 2) := gX10_bid_96.2.2.2.2.2.2.2.1
theorem dX10_bid_176 : decode cX10_bid 176 = .ok (.iload 9, 2) := gX10_bid_96.2.2.2.2.2.2.2.2.1
theorem dX10_bid_178 : decode cX10_bid 178 = .ok (.iastore, 1) := gX10_bid_96.2.2.2.2.2.2.2.2.2.1
theorem dX10_bid_179 : decode cX10_bid 179 = .ok (.iload 12, 2) := gX10_bid_96.2.2.2.2.2.2.2.2.2.2.1
theorem dX10_bid_181 : decode cX10_bid 181 = .ok (.ifCond .eq 7, 3) := gX10_bid_96.2.2.2.2.2.2.2.2.2.2.2
theorem gX10_bid_108 : (decode cX10_bid 184 = .ok (.iconst 0, 1)) ∧ (decode cX10_bid 185 = .ok (.goto 4, 3)) ∧ (decode cX10_bid 188 = .ok (.iconst 1, 1)) ∧ (decode cX10_bid 189 = .ok (.ireturn, 1)) := by decide +kernel
theorem dX10_bid_184 : decode cX10_bid 184 = .ok (.iconst 0, 1) := gX10_bid_108.1
theorem dX10_bid_185 : decode cX10_bid 185 = .ok (.goto 4, 3) := gX10_bid_108.2.1
theorem dX10_bid_188 : decode cX10_bid 188 = .ok (.iconst 1, 1) := gX10_bid_108.2.2.1
theorem dX10_bid_189 : decode cX10_bid 189 = .ok (.ireturn, 1) := gX10_bid_108.2.2.2
theorem gX10_lacks_0 : (decode cX10_lacks 0 = .ok (.iload_n 1, 1)) ∧ (decode cX10_lacks 1 = .ok (.invokestatic 166, 3)) ∧ (decode cX10_lacks 4 = .ok (.ifCond .eq 11, 3)) ∧ (decode cX10_lacks 7 = .ok (.aload_n 0, 1)) ∧ (decode cX10_lacks 8 = .ok (.iload_n 2, 1)) ∧ (decode cX10_lacks 9 = .ok (.invokevirtual 170, 3)) ∧ (decode cX10_lacks 12 = .ok (.ifCond .ne 7, 3)) ∧ (decode cX10_lacks 15 = .ok (.iconst (-1), 1)) ∧ (decode cX10_lacks 16 = .ok (.goto 23, 3)) ∧ (decode cX10_lacks 19 = .ok (.aload_n 0, 1)) ∧ (decode cX10_lacks 20 = .ok (.getfield 20, 3)) ∧ (decode cX10_lacks 23 = .ok (.bipush 8, 2)) := by decide +kernel
theorem dX10_lacks_0 : decode cX10_lacks 0 = .ok (.iload_n 1, 1) := gX10_lacks_0.1
theorem dX10_lacks_1 : decode cX10_lacks 1 = .ok (.invokestatic 166, 3) := gX10_lacks_0.2.1
theorem dX10_lacks_4 : decode cX10_lacks 4 = .ok (.ifCond .eq 11, 3) := gX10_lacks_0.2.2.1
theorem dX10_lacks_7 : decode cX10_lacks 7 = .ok (.aload_n 0, 1) := gX10_lacks_0.2.2.2.1
theorem dX10_lacks_8 : decode cX10_lacks 8 = .ok (.iload_n 2, 1) := gX10_lacks_0.2.2.2.2.1
theorem dX10_lacks_9 : decode cX10_lacks 9 = .ok (.invokevirtual 170, 3) := gX10_lacks_0.2.2.2.2.2.1
theorem dX10_lacks_12 : decode cX10_lacks 12 = .ok (.ifCond .ne 7, 3) := gX10_lacks_0.2.2.2.2.2.2.1
theorem dX10_lacks_15 : decode cX10_lacks 15 = .ok (.iconst (-1), 1) := gX10_lacks_0.2.2.2.2.2.2.2.1
theorem dX10_lacks_16 : decode cX10_lacks 16 = .ok (.goto 23, 3) := gX10_lacks_0.2.2.2.2.2.2.2.2.1
theorem dX10_lacks_19 : decode cX10_lacks 19 = .ok (.aload_n 0, 1) := gX10_lacks_0.2.2.2.2.2.2.2.2.2.1
theorem dX10_lacks_20 : decode cX10_lacks 20 = .ok (.getfield 20, 3) := gX10_lacks_0.2.2.2.2.2.2.2.2.2.2.1
theorem dX10_lacks_23 : decode cX10_lacks 23 = .ok (.bipush 8, 2) := gX10_lacks_0.2.2.2.2.2.2.2.2.2.2.2
theorem gX10_lacks_12 : (decode cX10_lacks 25 = .ok (.iload_n 2, 1)) ∧ (decode cX10_lacks 26 = .ok (.imul, 1)) ∧ (decode cX10_lacks 27 = .ok (.iload_n 1, 1)) ∧ (decode cX10_lacks 28 = .ok (.iadd, 1)) ∧ (decode cX10_lacks 29 = .ok (.baload, 1)) ∧ (decode cX10_lacks 30 = .ok (.ifCond .eq 7, 3)) ∧ (decode cX10_lacks 33 = .ok (.iconst 0, 1)) ∧ (decode cX10_lacks 34 = .ok (.goto 5, 3)) ∧ (decode cX10_lacks 37 = .ok (.bipush (-5), 2)) ∧ (decode cX10_lacks 39 = .ok (.ireturn, 1)) := by decide +kernel
theorem dX10_lacks_25 : decode cX10_lacks 25 = .ok (.iload_n 2, 1) := gX10_lacks_12.1
theorem dX10_lacks_26 : decode cX10_lacks 26 = .ok (.imul, 1) := gX10_lacks_12.2.1
theorem dX10_lacks_27 : decode cX10_lacks 27 = .ok (.iload_n 1, 1) := gX10_lacks_12.2.2.1
theorem dX10_lacks_28 : decode cX10_lacks 28 = .ok (.iadd, 1) := gX10_lacks_12.2.2.2.1
theorem dX10_lacks_29 : decode cX10_lacks 29 = .ok (.baload, 1) := gX10_lacks_12.2.2.2.2.1
theorem dX10_lacks_30 : decode cX10_lacks 30 = .ok (.ifCond .eq 7, 3) := gX10_lacks_12.2.2.2.2.2.1
theorem dX10_lacks_33 : decode cX10_lacks 33 = .ok (.iconst 0, 1) := gX10_lacks_12.2.2.2.2.2.2.1
theorem dX10_lacks_34 : decode cX10_lacks 34 = .ok (.goto 5, 3) := gX10_lacks_12.2.2.2.2.2.2.2.1
theorem dX10_lacks_37 : decode cX10_lacks 37 = .ok (.bipush (-5), 2) := gX10_lacks_12.2.2.2.2.2.2.2.2.1
theorem dX10_lacks_39 : decode cX10_lacks 39 = .ok (.ireturn, 1) := gX10_lacks_12.2.2.2.2.2.2.2.2.2
theorem gX10_withdraw_0 : (decode cX10_withdraw 0 = .ok (.aload_n 0, 1)) ∧ (decode cX10_withdraw 1 = .ok (.iload_n 1, 1)) ∧ (decode cX10_withdraw 2 = .ok (.iload_n 2, 1)) ∧ (decode cX10_withdraw 3 = .ok (.invokevirtual 180, 3)) ∧ (decode cX10_withdraw 6 = .ok (.istore_n 3, 1)) ∧ (decode cX10_withdraw 7 = .ok (.iload_n 3, 1)) ∧ (decode cX10_withdraw 8 = .ok (.ifCond .ge 9, 3)) ∧ (decode cX10_withdraw 11 = .ok (.aload_n 0, 1)) ∧ (decode cX10_withdraw 12 = .ok (.iload_n 3, 1)) ∧ (decode cX10_withdraw 13 = .ok (.invokevirtual 151, 3)) ∧ (decode cX10_withdraw 16 = .ok (.ireturn, 1)) ∧ (decode cX10_withdraw 17 = .ok (.aload_n 0, 1)) := by decide +kernel
theorem dX10_withdraw_0 : decode cX10_withdraw 0 = .ok (.aload_n 0, 1) := gX10_withdraw_0.1
theorem dX10_withdraw_1 : decode cX10_withdraw 1 = .ok (.iload_n 1, 1) := gX10_withdraw_0.2.1
theorem dX10_withdraw_2 : decode cX10_withdraw 2 = .ok (.iload_n 2, 1) := gX10_withdraw_0.2.2.1
theorem dX10_withdraw_3 : decode cX10_withdraw 3 = .ok (.invokevirtual 180, 3) := gX10_withdraw_0.2.2.2.1
theorem dX10_withdraw_6 : decode cX10_withdraw 6 = .ok (.istore_n 3, 1) := gX10_withdraw_0.2.2.2.2.1
theorem dX10_withdraw_7 : decode cX10_withdraw 7 = .ok (.iload_n 3, 1) := gX10_withdraw_0.2.2.2.2.2.1
theorem dX10_withdraw_8 : decode cX10_withdraw 8 = .ok (.ifCond .ge 9, 3) := gX10_withdraw_0.2.2.2.2.2.2.1
theorem dX10_withdraw_11 : decode cX10_withdraw 11 = .ok (.aload_n 0, 1) := gX10_withdraw_0.2.2.2.2.2.2.2.1
theorem dX10_withdraw_12 : decode cX10_withdraw 12 = .ok (.iload_n 3, 1) := gX10_withdraw_0.2.2.2.2.2.2.2.2.1
theorem dX10_withdraw_13 : decode cX10_withdraw 13 = .ok (.invokevirtual 151, 3) := gX10_withdraw_0.2.2.2.2.2.2.2.2.2.1
theorem dX10_withdraw_16 : decode cX10_withdraw 16 = .ok (.ireturn, 1) := gX10_withdraw_0.2.2.2.2.2.2.2.2.2.2.1
theorem dX10_withdraw_17 : decode cX10_withdraw 17 = .ok (.aload_n 0, 1) := gX10_withdraw_0.2.2.2.2.2.2.2.2.2.2.2
theorem gX10_withdraw_12 : (decode cX10_withdraw 18 = .ok (.invokevirtual 160, 3)) ∧ (decode cX10_withdraw 21 = .ok (.ifCond .ne 16, 3)) ∧ (decode cX10_withdraw 24 = .ok (.aload_n 0, 1)) ∧ (decode cX10_withdraw 25 = .ok (.dup, 1)) ∧ (decode cX10_withdraw 26 = .ok (.getfield 177, 3)) ∧ (decode cX10_withdraw 29 = .ok (.iconst 1, 1)) ∧ (decode cX10_withdraw 30 = .ok (.iadd, 1)) ∧ (decode cX10_withdraw 31 = .ok (.putfield 177, 3)) ∧ (decode cX10_withdraw 34 = .ok (.bipush (-9), 2)) ∧ (decode cX10_withdraw 36 = .ok (.ireturn, 1)) ∧ (decode cX10_withdraw 37 = .ok (.aload_n 0, 1)) ∧ (decode cX10_withdraw 38 = .ok (.getfield 20, 3)) := by decide +kernel
theorem dX10_withdraw_18 : decode cX10_withdraw 18 = .ok (.invokevirtual 160, 3) := gX10_withdraw_12.1
theorem dX10_withdraw_21 : decode cX10_withdraw 21 = .ok (.ifCond .ne 16, 3) := gX10_withdraw_12.2.1
theorem dX10_withdraw_24 : decode cX10_withdraw 24 = .ok (.aload_n 0, 1) := gX10_withdraw_12.2.2.1
theorem dX10_withdraw_25 : decode cX10_withdraw 25 = .ok (.dup, 1) := gX10_withdraw_12.2.2.2.1
theorem dX10_withdraw_26 : decode cX10_withdraw 26 = .ok (.getfield 177, 3) := gX10_withdraw_12.2.2.2.2.1
theorem dX10_withdraw_29 : decode cX10_withdraw 29 = .ok (.iconst 1, 1) := gX10_withdraw_12.2.2.2.2.2.1
theorem dX10_withdraw_30 : decode cX10_withdraw 30 = .ok (.iadd, 1) := gX10_withdraw_12.2.2.2.2.2.2.1
theorem dX10_withdraw_31 : decode cX10_withdraw 31 = .ok (.putfield 177, 3) := gX10_withdraw_12.2.2.2.2.2.2.2.1
theorem dX10_withdraw_34 : decode cX10_withdraw 34 = .ok (.bipush (-9), 2) := gX10_withdraw_12.2.2.2.2.2.2.2.2.1
theorem dX10_withdraw_36 : decode cX10_withdraw 36 = .ok (.ireturn, 1) := gX10_withdraw_12.2.2.2.2.2.2.2.2.2.1
theorem dX10_withdraw_37 : decode cX10_withdraw 37 = .ok (.aload_n 0, 1) := gX10_withdraw_12.2.2.2.2.2.2.2.2.2.2.1
theorem dX10_withdraw_38 : decode cX10_withdraw 38 = .ok (.getfield 20, 3) := gX10_withdraw_12.2.2.2.2.2.2.2.2.2.2.2
theorem gX10_withdraw_24 : (decode cX10_withdraw 41 = .ok (.bipush 8, 2)) ∧ (decode cX10_withdraw 43 = .ok (.iload_n 2, 1)) ∧ (decode cX10_withdraw 44 = .ok (.imul, 1)) ∧ (decode cX10_withdraw 45 = .ok (.iload_n 1, 1)) ∧ (decode cX10_withdraw 46 = .ok (.iadd, 1)) ∧ (decode cX10_withdraw 47 = .ok (.iconst 0, 1)) ∧ (decode cX10_withdraw 48 = .ok (.bastore, 1)) ∧ (decode cX10_withdraw 49 = .ok (.aload_n 0, 1)) ∧ (decode cX10_withdraw 50 = .ok (.getfield 39, 3)) ∧ (decode cX10_withdraw 53 = .ok (.bipush 8, 2)) ∧ (decode cX10_withdraw 55 = .ok (.iload_n 2, 1)) ∧ (decode cX10_withdraw 56 = .ok (.imul, 1)) := by decide +kernel
theorem dX10_withdraw_41 : decode cX10_withdraw 41 = .ok (.bipush 8, 2) := gX10_withdraw_24.1
theorem dX10_withdraw_43 : decode cX10_withdraw 43 = .ok (.iload_n 2, 1) := gX10_withdraw_24.2.1
theorem dX10_withdraw_44 : decode cX10_withdraw 44 = .ok (.imul, 1) := gX10_withdraw_24.2.2.1
theorem dX10_withdraw_45 : decode cX10_withdraw 45 = .ok (.iload_n 1, 1) := gX10_withdraw_24.2.2.2.1
theorem dX10_withdraw_46 : decode cX10_withdraw 46 = .ok (.iadd, 1) := gX10_withdraw_24.2.2.2.2.1
theorem dX10_withdraw_47 : decode cX10_withdraw 47 = .ok (.iconst 0, 1) := gX10_withdraw_24.2.2.2.2.2.1
theorem dX10_withdraw_48 : decode cX10_withdraw 48 = .ok (.bastore, 1) := gX10_withdraw_24.2.2.2.2.2.2.1
theorem dX10_withdraw_49 : decode cX10_withdraw 49 = .ok (.aload_n 0, 1) := gX10_withdraw_24.2.2.2.2.2.2.2.1
theorem dX10_withdraw_50 : decode cX10_withdraw 50 = .ok (.getfield 39, 3) := gX10_withdraw_24.2.2.2.2.2.2.2.2.1
theorem dX10_withdraw_53 : decode cX10_withdraw 53 = .ok (.bipush 8, 2) := gX10_withdraw_24.2.2.2.2.2.2.2.2.2.1
theorem dX10_withdraw_55 : decode cX10_withdraw 55 = .ok (.iload_n 2, 1) := gX10_withdraw_24.2.2.2.2.2.2.2.2.2.2.1
theorem dX10_withdraw_56 : decode cX10_withdraw 56 = .ok (.imul, 1) := gX10_withdraw_24.2.2.2.2.2.2.2.2.2.2.2
theorem gX10_withdraw_36 : (decode cX10_withdraw 57 = .ok (.iload_n 1, 1)) ∧ (decode cX10_withdraw 58 = .ok (.iadd, 1)) ∧ (decode cX10_withdraw 59 = .ok (.iconst (-1), 1)) ∧ (decode cX10_withdraw 60 = .ok (.iastore, 1)) ∧ (decode cX10_withdraw 61 = .ok (.iconst 1, 1)) ∧ (decode cX10_withdraw 62 = .ok (.ireturn, 1)) := by decide +kernel
theorem dX10_withdraw_57 : decode cX10_withdraw 57 = .ok (.iload_n 1, 1) := gX10_withdraw_36.1
theorem dX10_withdraw_58 : decode cX10_withdraw 58 = .ok (.iadd, 1) := gX10_withdraw_36.2.1
theorem dX10_withdraw_59 : decode cX10_withdraw 59 = .ok (.iconst (-1), 1) := gX10_withdraw_36.2.2.1
theorem dX10_withdraw_60 : decode cX10_withdraw 60 = .ok (.iastore, 1) := gX10_withdraw_36.2.2.2.1
theorem dX10_withdraw_61 : decode cX10_withdraw 61 = .ok (.iconst 1, 1) := gX10_withdraw_36.2.2.2.2.1
theorem dX10_withdraw_62 : decode cX10_withdraw 62 = .ok (.ireturn, 1) := gX10_withdraw_36.2.2.2.2.2
theorem gX10_set_0 : (decode cX10_set 0 = .ok (.iload_n 1, 1)) ∧ (decode cX10_set 1 = .ok (.iconst 0, 1)) ∧ (decode cX10_set 2 = .ok (.iconst 3, 1)) ∧ (decode cX10_set 3 = .ok (.invokestatic 144, 3)) ∧ (decode cX10_set 6 = .ok (.ifCond .ne 10, 3)) ∧ (decode cX10_set 9 = .ok (.aload_n 0, 1)) ∧ (decode cX10_set 10 = .ok (.bipush (-2), 2)) ∧ (decode cX10_set 12 = .ok (.invokevirtual 151, 3)) ∧ (decode cX10_set 15 = .ok (.ireturn, 1)) ∧ (decode cX10_set 16 = .ok (.iload_n 2, 1)) ∧ (decode cX10_set 17 = .ok (.ifCond .ge 10, 3)) ∧ (decode cX10_set 20 = .ok (.aload_n 0, 1)) := by decide +kernel
theorem dX10_set_0 : decode cX10_set 0 = .ok (.iload_n 1, 1) := gX10_set_0.1
theorem dX10_set_1 : decode cX10_set 1 = .ok (.iconst 0, 1) := gX10_set_0.2.1
theorem dX10_set_2 : decode cX10_set 2 = .ok (.iconst 3, 1) := gX10_set_0.2.2.1
theorem dX10_set_3 : decode cX10_set 3 = .ok (.invokestatic 144, 3) := gX10_set_0.2.2.2.1
theorem dX10_set_6 : decode cX10_set 6 = .ok (.ifCond .ne 10, 3) := gX10_set_0.2.2.2.2.1
theorem dX10_set_9 : decode cX10_set 9 = .ok (.aload_n 0, 1) := gX10_set_0.2.2.2.2.2.1
theorem dX10_set_10 : decode cX10_set 10 = .ok (.bipush (-2), 2) := gX10_set_0.2.2.2.2.2.2.1
theorem dX10_set_12 : decode cX10_set 12 = .ok (.invokevirtual 151, 3) := gX10_set_0.2.2.2.2.2.2.2.1
theorem dX10_set_15 : decode cX10_set 15 = .ok (.ireturn, 1) := gX10_set_0.2.2.2.2.2.2.2.2.1
theorem dX10_set_16 : decode cX10_set 16 = .ok (.iload_n 2, 1) := gX10_set_0.2.2.2.2.2.2.2.2.2.1
theorem dX10_set_17 : decode cX10_set 17 = .ok (.ifCond .ge 10, 3) := gX10_set_0.2.2.2.2.2.2.2.2.2.2.1
theorem dX10_set_20 : decode cX10_set 20 = .ok (.aload_n 0, 1) := gX10_set_0.2.2.2.2.2.2.2.2.2.2.2
theorem gX10_set_12 : (decode cX10_set 21 = .ok (.bipush (-4), 2)) ∧ (decode cX10_set 23 = .ok (.invokevirtual 151, 3)) ∧ (decode cX10_set 26 = .ok (.ireturn, 1)) ∧ (decode cX10_set 27 = .ok (.iload_n 2, 1)) ∧ (decode cX10_set 28 = .ok (.iload_n 1, 1)) ∧ (decode cX10_set 29 = .ok (.ifCond .ne 7, 3)) ∧ (decode cX10_set 32 = .ok (.iconst 2, 1)) ∧ (decode cX10_set 33 = .ok (.goto 5, 3)) ∧ (decode cX10_set 36 = .ok (.bipush 100, 2)) ∧ (decode cX10_set 38 = .ok (.if_icmp .le 10, 3)) ∧ (decode cX10_set 41 = .ok (.aload_n 0, 1)) ∧ (decode cX10_set 42 = .ok (.bipush (-6), 2)) := by decide +kernel
theorem dX10_set_21 : decode cX10_set 21 = .ok (.bipush (-4), 2) := gX10_set_12.1
theorem dX10_set_23 : decode cX10_set 23 = .ok (.invokevirtual 151, 3) := gX10_set_12.2.1
theorem dX10_set_26 : decode cX10_set 26 = .ok (.ireturn, 1) := gX10_set_12.2.2.1
theorem dX10_set_27 : decode cX10_set 27 = .ok (.iload_n 2, 1) := gX10_set_12.2.2.2.1
theorem dX10_set_28 : decode cX10_set 28 = .ok (.iload_n 1, 1) := gX10_set_12.2.2.2.2.1
theorem dX10_set_29 : decode cX10_set 29 = .ok (.ifCond .ne 7, 3) := gX10_set_12.2.2.2.2.2.1
theorem dX10_set_32 : decode cX10_set 32 = .ok (.iconst 2, 1) := gX10_set_12.2.2.2.2.2.2.1
theorem dX10_set_33 : decode cX10_set 33 = .ok (.goto 5, 3) := gX10_set_12.2.2.2.2.2.2.2.1
theorem dX10_set_36 : decode cX10_set 36 = .ok (.bipush 100, 2) := gX10_set_12.2.2.2.2.2.2.2.2.1
theorem dX10_set_38 : decode cX10_set 38 = .ok (.if_icmp .le 10, 3) := gX10_set_12.2.2.2.2.2.2.2.2.2.1
theorem dX10_set_41 : decode cX10_set 41 = .ok (.aload_n 0, 1) := gX10_set_12.2.2.2.2.2.2.2.2.2.2.1
theorem dX10_set_42 : decode cX10_set 42 = .ok (.bipush (-6), 2) := gX10_set_12.2.2.2.2.2.2.2.2.2.2.2
theorem gX10_set_24 : (decode cX10_set 44 = .ok (.invokevirtual 151, 3)) ∧ (decode cX10_set 47 = .ok (.ireturn, 1)) ∧ (decode cX10_set 48 = .ok (.aload_n 0, 1)) ∧ (decode cX10_set 49 = .ok (.getfield 42, 3)) ∧ (decode cX10_set 52 = .ok (.iload_n 1, 1)) ∧ (decode cX10_set 53 = .ok (.iaload, 1)) ∧ (decode cX10_set 54 = .ok (.istore_n 3, 1)) ∧ (decode cX10_set 55 = .ok (.aload_n 0, 1)) ∧ (decode cX10_set 56 = .ok (.getfield 42, 3)) ∧ (decode cX10_set 59 = .ok (.iload_n 1, 1)) ∧ (decode cX10_set 60 = .ok (.iload_n 2, 1)) ∧ (decode cX10_set 61 = .ok (.iastore, 1)) := by decide +kernel
theorem dX10_set_44 : decode cX10_set 44 = .ok (.invokevirtual 151, 3) := gX10_set_24.1
theorem dX10_set_47 : decode cX10_set 47 = .ok (.ireturn, 1) := gX10_set_24.2.1
theorem dX10_set_48 : decode cX10_set 48 = .ok (.aload_n 0, 1) := gX10_set_24.2.2.1
theorem dX10_set_49 : decode cX10_set 49 = .ok (.getfield 42, 3) := gX10_set_24.2.2.2.1
theorem dX10_set_52 : decode cX10_set 52 = .ok (.iload_n 1, 1) := gX10_set_24.2.2.2.2.1
theorem dX10_set_53 : decode cX10_set 53 = .ok (.iaload, 1) := gX10_set_24.2.2.2.2.2.1
theorem dX10_set_54 : decode cX10_set 54 = .ok (.istore_n 3, 1) := gX10_set_24.2.2.2.2.2.2.1
theorem dX10_set_55 : decode cX10_set 55 = .ok (.aload_n 0, 1) := gX10_set_24.2.2.2.2.2.2.2.1
theorem dX10_set_56 : decode cX10_set 56 = .ok (.getfield 42, 3) := gX10_set_24.2.2.2.2.2.2.2.2.1
theorem dX10_set_59 : decode cX10_set 59 = .ok (.iload_n 1, 1) := gX10_set_24.2.2.2.2.2.2.2.2.2.1
theorem dX10_set_60 : decode cX10_set 60 = .ok (.iload_n 2, 1) := gX10_set_24.2.2.2.2.2.2.2.2.2.2.1
theorem dX10_set_61 : decode cX10_set 61 = .ok (.iastore, 1) := gX10_set_24.2.2.2.2.2.2.2.2.2.2.2
theorem gX10_set_36 : (decode cX10_set 62 = .ok (.aload_n 0, 1)) ∧ (decode cX10_set 63 = .ok (.iconst 0, 1)) ∧ (decode cX10_set 64 = .ok (.putfield 156, 3)) ∧ (decode cX10_set 67 = .ok (.iload_n 3, 1)) ∧ (decode cX10_set 68 = .ok (.ireturn, 1)) := by decide +kernel
theorem dX10_set_62 : decode cX10_set 62 = .ok (.aload_n 0, 1) := gX10_set_36.1
theorem dX10_set_63 : decode cX10_set 63 = .ok (.iconst 0, 1) := gX10_set_36.2.1
theorem dX10_set_64 : decode cX10_set 64 = .ok (.putfield 156, 3) := gX10_set_36.2.2.1
theorem dX10_set_67 : decode cX10_set 67 = .ok (.iload_n 3, 1) := gX10_set_36.2.2.2.1
theorem dX10_set_68 : decode cX10_set 68 = .ok (.ireturn, 1) := gX10_set_36.2.2.2.2
theorem gX10_itemsOf_0 : (decode cX10_itemsOf 0 = .ok (.aload_n 0, 1)) ∧ (decode cX10_itemsOf 1 = .ok (.getfield 27, 3)) ∧ (decode cX10_itemsOf 4 = .ok (.iconst 4, 1)) ∧ (decode cX10_itemsOf 5 = .ok (.iload_n 1, 1)) ∧ (decode cX10_itemsOf 6 = .ok (.imul, 1)) ∧ (decode cX10_itemsOf 7 = .ok (.iaload, 1)) ∧ (decode cX10_itemsOf 8 = .ok (.aload_n 0, 1)) ∧ (decode cX10_itemsOf 9 = .ok (.getfield 27, 3)) ∧ (decode cX10_itemsOf 12 = .ok (.iconst 4, 1)) ∧ (decode cX10_itemsOf 13 = .ok (.iload_n 1, 1)) ∧ (decode cX10_itemsOf 14 = .ok (.imul, 1)) ∧ (decode cX10_itemsOf 15 = .ok (.iconst 1, 1)) := by decide +kernel
theorem dX10_itemsOf_0 : decode cX10_itemsOf 0 = .ok (.aload_n 0, 1) := gX10_itemsOf_0.1
theorem dX10_itemsOf_1 : decode cX10_itemsOf 1 = .ok (.getfield 27, 3) := gX10_itemsOf_0.2.1
theorem dX10_itemsOf_4 : decode cX10_itemsOf 4 = .ok (.iconst 4, 1) := gX10_itemsOf_0.2.2.1
theorem dX10_itemsOf_5 : decode cX10_itemsOf 5 = .ok (.iload_n 1, 1) := gX10_itemsOf_0.2.2.2.1
theorem dX10_itemsOf_6 : decode cX10_itemsOf 6 = .ok (.imul, 1) := gX10_itemsOf_0.2.2.2.2.1
theorem dX10_itemsOf_7 : decode cX10_itemsOf 7 = .ok (.iaload, 1) := gX10_itemsOf_0.2.2.2.2.2.1
theorem dX10_itemsOf_8 : decode cX10_itemsOf 8 = .ok (.aload_n 0, 1) := gX10_itemsOf_0.2.2.2.2.2.2.1
theorem dX10_itemsOf_9 : decode cX10_itemsOf 9 = .ok (.getfield 27, 3) := gX10_itemsOf_0.2.2.2.2.2.2.2.1
theorem dX10_itemsOf_12 : decode cX10_itemsOf 12 = .ok (.iconst 4, 1) := gX10_itemsOf_0.2.2.2.2.2.2.2.2.1
theorem dX10_itemsOf_13 : decode cX10_itemsOf 13 = .ok (.iload_n 1, 1) := gX10_itemsOf_0.2.2.2.2.2.2.2.2.2.1
theorem dX10_itemsOf_14 : decode cX10_itemsOf 14 = .ok (.imul, 1) := gX10_itemsOf_0.2.2.2.2.2.2.2.2.2.2.1
theorem dX10_itemsOf_15 : decode cX10_itemsOf 15 = .ok (.iconst 1, 1) := gX10_itemsOf_0.2.2.2.2.2.2.2.2.2.2.2
theorem gX10_itemsOf_12 : (decode cX10_itemsOf 16 = .ok (.iadd, 1)) ∧ (decode cX10_itemsOf 17 = .ok (.iaload, 1)) ∧ (decode cX10_itemsOf 18 = .ok (.iadd, 1)) ∧ (decode cX10_itemsOf 19 = .ok (.aload_n 0, 1)) ∧ (decode cX10_itemsOf 20 = .ok (.getfield 27, 3)) ∧ (decode cX10_itemsOf 23 = .ok (.iconst 4, 1)) ∧ (decode cX10_itemsOf 24 = .ok (.iload_n 1, 1)) ∧ (decode cX10_itemsOf 25 = .ok (.imul, 1)) ∧ (decode cX10_itemsOf 26 = .ok (.iconst 2, 1)) ∧ (decode cX10_itemsOf 27 = .ok (.iadd, 1)) ∧ (decode cX10_itemsOf 28 = .ok (.iaload, 1)) ∧ (decode cX10_itemsOf 29 = .ok (.iadd, 1)) := by decide +kernel
theorem dX10_itemsOf_16 : decode cX10_itemsOf 16 = .ok (.iadd, 1) := gX10_itemsOf_12.1
theorem dX10_itemsOf_17 : decode cX10_itemsOf 17 = .ok (.iaload, 1) := gX10_itemsOf_12.2.1
theorem dX10_itemsOf_18 : decode cX10_itemsOf 18 = .ok (.iadd, 1) := gX10_itemsOf_12.2.2.1
theorem dX10_itemsOf_19 : decode cX10_itemsOf 19 = .ok (.aload_n 0, 1) := gX10_itemsOf_12.2.2.2.1
theorem dX10_itemsOf_20 : decode cX10_itemsOf 20 = .ok (.getfield 27, 3) := gX10_itemsOf_12.2.2.2.2.1
theorem dX10_itemsOf_23 : decode cX10_itemsOf 23 = .ok (.iconst 4, 1) := gX10_itemsOf_12.2.2.2.2.2.1
theorem dX10_itemsOf_24 : decode cX10_itemsOf 24 = .ok (.iload_n 1, 1) := gX10_itemsOf_12.2.2.2.2.2.2.1
theorem dX10_itemsOf_25 : decode cX10_itemsOf 25 = .ok (.imul, 1) := gX10_itemsOf_12.2.2.2.2.2.2.2.1
theorem dX10_itemsOf_26 : decode cX10_itemsOf 26 = .ok (.iconst 2, 1) := gX10_itemsOf_12.2.2.2.2.2.2.2.2.1
theorem dX10_itemsOf_27 : decode cX10_itemsOf 27 = .ok (.iadd, 1) := gX10_itemsOf_12.2.2.2.2.2.2.2.2.2.1
theorem dX10_itemsOf_28 : decode cX10_itemsOf 28 = .ok (.iaload, 1) := gX10_itemsOf_12.2.2.2.2.2.2.2.2.2.2.1
theorem dX10_itemsOf_29 : decode cX10_itemsOf 29 = .ok (.iadd, 1) := gX10_itemsOf_12.2.2.2.2.2.2.2.2.2.2.2
theorem gX10_itemsOf_24 : (decode cX10_itemsOf 30 = .ok (.aload_n 0, 1)) ∧ (decode cX10_itemsOf 31 = .ok (.getfield 27, 3)) ∧ (decode cX10_itemsOf 34 = .ok (.iconst 4, 1)) ∧ (decode cX10_itemsOf 35 = .ok (.iload_n 1, 1)) ∧ (decode cX10_itemsOf 36 = .ok (.imul, 1)) ∧ (decode cX10_itemsOf 37 = .ok (.iconst 3, 1)) ∧ (decode cX10_itemsOf 38 = .ok (.iadd, 1)) ∧ (decode cX10_itemsOf 39 = .ok (.iaload, 1)) ∧ (decode cX10_itemsOf 40 = .ok (.iadd, 1)) ∧ (decode cX10_itemsOf 41 = .ok (.ireturn, 1)) := by decide +kernel
theorem dX10_itemsOf_30 : decode cX10_itemsOf 30 = .ok (.aload_n 0, 1) := gX10_itemsOf_24.1
theorem dX10_itemsOf_31 : decode cX10_itemsOf 31 = .ok (.getfield 27, 3) := gX10_itemsOf_24.2.1
theorem dX10_itemsOf_34 : decode cX10_itemsOf 34 = .ok (.iconst 4, 1) := gX10_itemsOf_24.2.2.1
theorem dX10_itemsOf_35 : decode cX10_itemsOf 35 = .ok (.iload_n 1, 1) := gX10_itemsOf_24.2.2.2.1
theorem dX10_itemsOf_36 : decode cX10_itemsOf 36 = .ok (.imul, 1) := gX10_itemsOf_24.2.2.2.2.1
theorem dX10_itemsOf_37 : decode cX10_itemsOf 37 = .ok (.iconst 3, 1) := gX10_itemsOf_24.2.2.2.2.2.1
theorem dX10_itemsOf_38 : decode cX10_itemsOf 38 = .ok (.iadd, 1) := gX10_itemsOf_24.2.2.2.2.2.2.1
theorem dX10_itemsOf_39 : decode cX10_itemsOf 39 = .ok (.iaload, 1) := gX10_itemsOf_24.2.2.2.2.2.2.2.1
theorem dX10_itemsOf_40 : decode cX10_itemsOf 40 = .ok (.iadd, 1) := gX10_itemsOf_24.2.2.2.2.2.2.2.2.1
theorem dX10_itemsOf_41 : decode cX10_itemsOf 41 = .ok (.ireturn, 1) := gX10_itemsOf_24.2.2.2.2.2.2.2.2.2
theorem gX10_priceOf_0 : (decode cX10_priceOf 0 = .ok (.aload_n 0, 1)) ∧ (decode cX10_priceOf 1 = .ok (.iload_n 1, 1)) ∧ (decode cX10_priceOf 2 = .ok (.invokevirtual 184, 3)) ∧ (decode cX10_priceOf 5 = .ok (.istore_n 2, 1)) ∧ (decode cX10_priceOf 6 = .ok (.aload_n 0, 1)) ∧ (decode cX10_priceOf 7 = .ok (.getfield 42, 3)) ∧ (decode cX10_priceOf 10 = .ok (.iconst 0, 1)) ∧ (decode cX10_priceOf 11 = .ok (.iaload, 1)) ∧ (decode cX10_priceOf 12 = .ok (.ifCond .ne 7, 3)) ∧ (decode cX10_priceOf 15 = .ok (.iload_n 2, 1)) ∧ (decode cX10_priceOf 16 = .ok (.goto 42, 3)) ∧ (decode cX10_priceOf 19 = .ok (.aload_n 0, 1)) := by decide +kernel
theorem dX10_priceOf_0 : decode cX10_priceOf 0 = .ok (.aload_n 0, 1) := gX10_priceOf_0.1
theorem dX10_priceOf_1 : decode cX10_priceOf 1 = .ok (.iload_n 1, 1) := gX10_priceOf_0.2.1
theorem dX10_priceOf_2 : decode cX10_priceOf 2 = .ok (.invokevirtual 184, 3) := gX10_priceOf_0.2.2.1
theorem dX10_priceOf_5 : decode cX10_priceOf 5 = .ok (.istore_n 2, 1) := gX10_priceOf_0.2.2.2.1
theorem dX10_priceOf_6 : decode cX10_priceOf 6 = .ok (.aload_n 0, 1) := gX10_priceOf_0.2.2.2.2.1
theorem dX10_priceOf_7 : decode cX10_priceOf 7 = .ok (.getfield 42, 3) := gX10_priceOf_0.2.2.2.2.2.1
theorem dX10_priceOf_10 : decode cX10_priceOf 10 = .ok (.iconst 0, 1) := gX10_priceOf_0.2.2.2.2.2.2.1
theorem dX10_priceOf_11 : decode cX10_priceOf 11 = .ok (.iaload, 1) := gX10_priceOf_0.2.2.2.2.2.2.2.1
theorem dX10_priceOf_12 : decode cX10_priceOf 12 = .ok (.ifCond .ne 7, 3) := gX10_priceOf_0.2.2.2.2.2.2.2.2.1
theorem dX10_priceOf_15 : decode cX10_priceOf 15 = .ok (.iload_n 2, 1) := gX10_priceOf_0.2.2.2.2.2.2.2.2.2.1
theorem dX10_priceOf_16 : decode cX10_priceOf 16 = .ok (.goto 42, 3) := gX10_priceOf_0.2.2.2.2.2.2.2.2.2.2.1
theorem dX10_priceOf_19 : decode cX10_priceOf 19 = .ok (.aload_n 0, 1) := gX10_priceOf_0.2.2.2.2.2.2.2.2.2.2.2
theorem gX10_priceOf_12 : (decode cX10_priceOf 20 = .ok (.getfield 42, 3)) ∧ (decode cX10_priceOf 23 = .ok (.iconst 0, 1)) ∧ (decode cX10_priceOf 24 = .ok (.iaload, 1)) ∧ (decode cX10_priceOf 25 = .ok (.iconst 1, 1)) ∧ (decode cX10_priceOf 26 = .ok (.if_icmp .ne 12, 3)) ∧ (decode cX10_priceOf 29 = .ok (.aload_n 0, 1)) ∧ (decode cX10_priceOf 30 = .ok (.getfield 30, 3)) ∧ (decode cX10_priceOf 33 = .ok (.iload_n 1, 1)) ∧ (decode cX10_priceOf 34 = .ok (.iaload, 1)) ∧ (decode cX10_priceOf 35 = .ok (.goto 23, 3)) ∧ (decode cX10_priceOf 38 = .ok (.iload_n 2, 1)) ∧ (decode cX10_priceOf 39 = .ok (.aload_n 0, 1)) := by decide +kernel
theorem dX10_priceOf_20 : decode cX10_priceOf 20 = .ok (.getfield 42, 3) := gX10_priceOf_12.1
theorem dX10_priceOf_23 : decode cX10_priceOf 23 = .ok (.iconst 0, 1) := gX10_priceOf_12.2.1
theorem dX10_priceOf_24 : decode cX10_priceOf 24 = .ok (.iaload, 1) := gX10_priceOf_12.2.2.1
theorem dX10_priceOf_25 : decode cX10_priceOf 25 = .ok (.iconst 1, 1) := gX10_priceOf_12.2.2.2.1
theorem dX10_priceOf_26 : decode cX10_priceOf 26 = .ok (.if_icmp .ne 12, 3) := gX10_priceOf_12.2.2.2.2.1
theorem dX10_priceOf_29 : decode cX10_priceOf 29 = .ok (.aload_n 0, 1) := gX10_priceOf_12.2.2.2.2.2.1
theorem dX10_priceOf_30 : decode cX10_priceOf 30 = .ok (.getfield 30, 3) := gX10_priceOf_12.2.2.2.2.2.2.1
theorem dX10_priceOf_33 : decode cX10_priceOf 33 = .ok (.iload_n 1, 1) := gX10_priceOf_12.2.2.2.2.2.2.2.1
theorem dX10_priceOf_34 : decode cX10_priceOf 34 = .ok (.iaload, 1) := gX10_priceOf_12.2.2.2.2.2.2.2.2.1
theorem dX10_priceOf_35 : decode cX10_priceOf 35 = .ok (.goto 23, 3) := gX10_priceOf_12.2.2.2.2.2.2.2.2.2.1
theorem dX10_priceOf_38 : decode cX10_priceOf 38 = .ok (.iload_n 2, 1) := gX10_priceOf_12.2.2.2.2.2.2.2.2.2.2.1
theorem dX10_priceOf_39 : decode cX10_priceOf 39 = .ok (.aload_n 0, 1) := gX10_priceOf_12.2.2.2.2.2.2.2.2.2.2.2
theorem gX10_priceOf_24 : (decode cX10_priceOf 40 = .ok (.getfield 30, 3)) ∧ (decode cX10_priceOf 43 = .ok (.iload_n 1, 1)) ∧ (decode cX10_priceOf 44 = .ok (.iaload, 1)) ∧ (decode cX10_priceOf 45 = .ok (.if_icmp .le 7, 3)) ∧ (decode cX10_priceOf 48 = .ok (.iload_n 2, 1)) ∧ (decode cX10_priceOf 49 = .ok (.goto 9, 3)) ∧ (decode cX10_priceOf 52 = .ok (.aload_n 0, 1)) ∧ (decode cX10_priceOf 53 = .ok (.getfield 30, 3)) ∧ (decode cX10_priceOf 56 = .ok (.iload_n 1, 1)) ∧ (decode cX10_priceOf 57 = .ok (.iaload, 1)) ∧ (decode cX10_priceOf 58 = .ok (.istore_n 3, 1)) ∧ (decode cX10_priceOf 59 = .ok (.iload_n 3, 1)) := by decide +kernel
theorem dX10_priceOf_40 : decode cX10_priceOf 40 = .ok (.getfield 30, 3) := gX10_priceOf_24.1
theorem dX10_priceOf_43 : decode cX10_priceOf 43 = .ok (.iload_n 1, 1) := gX10_priceOf_24.2.1
theorem dX10_priceOf_44 : decode cX10_priceOf 44 = .ok (.iaload, 1) := gX10_priceOf_24.2.2.1
theorem dX10_priceOf_45 : decode cX10_priceOf 45 = .ok (.if_icmp .le 7, 3) := gX10_priceOf_24.2.2.2.1
theorem dX10_priceOf_48 : decode cX10_priceOf 48 = .ok (.iload_n 2, 1) := gX10_priceOf_24.2.2.2.2.1
theorem dX10_priceOf_49 : decode cX10_priceOf 49 = .ok (.goto 9, 3) := gX10_priceOf_24.2.2.2.2.2.1
theorem dX10_priceOf_52 : decode cX10_priceOf 52 = .ok (.aload_n 0, 1) := gX10_priceOf_24.2.2.2.2.2.2.1
theorem dX10_priceOf_53 : decode cX10_priceOf 53 = .ok (.getfield 30, 3) := gX10_priceOf_24.2.2.2.2.2.2.2.1
theorem dX10_priceOf_56 : decode cX10_priceOf 56 = .ok (.iload_n 1, 1) := gX10_priceOf_24.2.2.2.2.2.2.2.2.1
theorem dX10_priceOf_57 : decode cX10_priceOf 57 = .ok (.iaload, 1) := gX10_priceOf_24.2.2.2.2.2.2.2.2.2.1
theorem dX10_priceOf_58 : decode cX10_priceOf 58 = .ok (.istore_n 3, 1) := gX10_priceOf_24.2.2.2.2.2.2.2.2.2.2.1
theorem dX10_priceOf_59 : decode cX10_priceOf 59 = .ok (.iload_n 3, 1) := gX10_priceOf_24.2.2.2.2.2.2.2.2.2.2.2
theorem gX10_priceOf_36 : (decode cX10_priceOf 60 = .ok (.aload_n 0, 1)) ∧ (decode cX10_priceOf 61 = .ok (.getfield 33, 3)) ∧ (decode cX10_priceOf 64 = .ok (.iload_n 1, 1)) ∧ (decode cX10_priceOf 65 = .ok (.iaload, 1)) ∧ (decode cX10_priceOf 66 = .ok (.i2l, 1)) ∧ (decode cX10_priceOf 67 = .ok (.aload_n 0, 1)) ∧ (decode cX10_priceOf 68 = .ok (.getfield 42, 3)) ∧ (decode cX10_priceOf 71 = .ok (.iconst 1, 1)) ∧ (decode cX10_priceOf 72 = .ok (.iaload, 1)) ∧ (decode cX10_priceOf 73 = .ok (.i2l, 1)) ∧ (decode cX10_priceOf 74 = .ok (.lmul, 1)) ∧ (decode cX10_priceOf 75 = .ok (.ldc2_w 187, 3)) := by decide +kernel
theorem dX10_priceOf_60 : decode cX10_priceOf 60 = .ok (.aload_n 0, 1) := gX10_priceOf_36.1
theorem dX10_priceOf_61 : decode cX10_priceOf 61 = .ok (.getfield 33, 3) := gX10_priceOf_36.2.1
theorem dX10_priceOf_64 : decode cX10_priceOf 64 = .ok (.iload_n 1, 1) := gX10_priceOf_36.2.2.1
theorem dX10_priceOf_65 : decode cX10_priceOf 65 = .ok (.iaload, 1) := gX10_priceOf_36.2.2.2.1
theorem dX10_priceOf_66 : decode cX10_priceOf 66 = .ok (.i2l, 1) := gX10_priceOf_36.2.2.2.2.1
theorem dX10_priceOf_67 : decode cX10_priceOf 67 = .ok (.aload_n 0, 1) := gX10_priceOf_36.2.2.2.2.2.1
theorem dX10_priceOf_68 : decode cX10_priceOf 68 = .ok (.getfield 42, 3) := gX10_priceOf_36.2.2.2.2.2.2.1
theorem dX10_priceOf_71 : decode cX10_priceOf 71 = .ok (.iconst 1, 1) := gX10_priceOf_36.2.2.2.2.2.2.2.1
theorem dX10_priceOf_72 : decode cX10_priceOf 72 = .ok (.iaload, 1) := gX10_priceOf_36.2.2.2.2.2.2.2.2.1
theorem dX10_priceOf_73 : decode cX10_priceOf 73 = .ok (.i2l, 1) := gX10_priceOf_36.2.2.2.2.2.2.2.2.2.1
theorem dX10_priceOf_74 : decode cX10_priceOf 74 = .ok (.lmul, 1) := gX10_priceOf_36.2.2.2.2.2.2.2.2.2.2.1
theorem dX10_priceOf_75 : decode cX10_priceOf 75 = .ok (.ldc2_w 187, 3) := gX10_priceOf_36.2.2.2.2.2.2.2.2.2.2.2
theorem gX10_priceOf_48 : (decode cX10_priceOf 78 = .ok (.ldiv, 1)) ∧ (decode cX10_priceOf 79 = .ok (.l2i, 1)) ∧ (decode cX10_priceOf 80 = .ok (.iadd, 1)) ∧ (decode cX10_priceOf 81 = .ok (.i2l, 1)) ∧ (decode cX10_priceOf 82 = .ok (.lstore 4, 2)) ∧ (decode cX10_priceOf 84 = .ok (.lload 4, 2)) ∧ (decode cX10_priceOf 86 = .ok (.aload_n 0, 1)) ∧ (decode cX10_priceOf 87 = .ok (.getfield 13, 3)) ∧ (decode cX10_priceOf 90 = .ok (.aload_n 0, 1)) ∧ (decode cX10_priceOf 91 = .ok (.getfield 24, 3)) ∧ (decode cX10_priceOf 94 = .ok (.iload_n 1, 1)) ∧ (decode cX10_priceOf 95 = .ok (.iaload, 1)) := by decide +kernel
theorem dX10_priceOf_78 : decode cX10_priceOf 78 = .ok (.ldiv, 1) := gX10_priceOf_48.1
theorem dX10_priceOf_79 : decode cX10_priceOf 79 = .ok (.l2i, 1) := gX10_priceOf_48.2.1
theorem dX10_priceOf_80 : decode cX10_priceOf 80 = .ok (.iadd, 1) := gX10_priceOf_48.2.2.1
theorem dX10_priceOf_81 : decode cX10_priceOf 81 = .ok (.i2l, 1) := gX10_priceOf_48.2.2.2.1
theorem dX10_priceOf_82 : decode cX10_priceOf 82 = .ok (.lstore 4, 2) := gX10_priceOf_48.2.2.2.2.1
theorem dX10_priceOf_84 : decode cX10_priceOf 84 = .ok (.lload 4, 2) := gX10_priceOf_48.2.2.2.2.2.1
theorem dX10_priceOf_86 : decode cX10_priceOf 86 = .ok (.aload_n 0, 1) := gX10_priceOf_48.2.2.2.2.2.2.1
theorem dX10_priceOf_87 : decode cX10_priceOf 87 = .ok (.getfield 13, 3) := gX10_priceOf_48.2.2.2.2.2.2.2.1
theorem dX10_priceOf_90 : decode cX10_priceOf 90 = .ok (.aload_n 0, 1) := gX10_priceOf_48.2.2.2.2.2.2.2.2.1
theorem dX10_priceOf_91 : decode cX10_priceOf 91 = .ok (.getfield 24, 3) := gX10_priceOf_48.2.2.2.2.2.2.2.2.2.1
theorem dX10_priceOf_94 : decode cX10_priceOf 94 = .ok (.iload_n 1, 1) := gX10_priceOf_48.2.2.2.2.2.2.2.2.2.2.1
theorem dX10_priceOf_95 : decode cX10_priceOf 95 = .ok (.iaload, 1) := gX10_priceOf_48.2.2.2.2.2.2.2.2.2.2.2
theorem gX10_priceOf_60 : (decode cX10_priceOf 96 = .ok (.iaload, 1)) ∧ (decode cX10_priceOf 97 = .ok (.i2l, 1)) ∧ (decode cX10_priceOf 98 = .ok (.lmul, 1)) ∧ (decode cX10_priceOf 99 = .ok (.ldc2_w 189, 3)) ∧ (decode cX10_priceOf 102 = .ok (.ldiv, 1)) ∧ (decode cX10_priceOf 103 = .ok (.l2i, 1)) ∧ (decode cX10_priceOf 104 = .ok (.istore 6, 2)) ∧ (decode cX10_priceOf 106 = .ok (.iload 6, 2)) ∧ (decode cX10_priceOf 108 = .ok (.iconst 1, 1)) ∧ (decode cX10_priceOf 109 = .ok (.if_icmp .ge 7, 3)) ∧ (decode cX10_priceOf 112 = .ok (.iconst 1, 1)) ∧ (decode cX10_priceOf 113 = .ok (.goto 5, 3)) := by decide +kernel
theorem dX10_priceOf_96 : decode cX10_priceOf 96 = .ok (.iaload, 1) := gX10_priceOf_60.1
theorem dX10_priceOf_97 : decode cX10_priceOf 97 = .ok (.i2l, 1) := gX10_priceOf_60.2.1
theorem dX10_priceOf_98 : decode cX10_priceOf 98 = .ok (.lmul, 1) := gX10_priceOf_60.2.2.1
theorem dX10_priceOf_99 : decode cX10_priceOf 99 = .ok (.ldc2_w 189, 3) := gX10_priceOf_60.2.2.2.1
theorem dX10_priceOf_102 : decode cX10_priceOf 102 = .ok (.ldiv, 1) := gX10_priceOf_60.2.2.2.2.1
theorem dX10_priceOf_103 : decode cX10_priceOf 103 = .ok (.l2i, 1) := gX10_priceOf_60.2.2.2.2.2.1
theorem dX10_priceOf_104 : decode cX10_priceOf 104 = .ok (.istore 6, 2) := gX10_priceOf_60.2.2.2.2.2.2.1
theorem dX10_priceOf_106 : decode cX10_priceOf 106 = .ok (.iload 6, 2) := gX10_priceOf_60.2.2.2.2.2.2.2.1
theorem dX10_priceOf_108 : decode cX10_priceOf 108 = .ok (.iconst 1, 1) := gX10_priceOf_60.2.2.2.2.2.2.2.2.1
theorem dX10_priceOf_109 : decode cX10_priceOf 109 = .ok (.if_icmp .ge 7, 3) := gX10_priceOf_60.2.2.2.2.2.2.2.2.2.1
theorem dX10_priceOf_112 : decode cX10_priceOf 112 = .ok (.iconst 1, 1) := gX10_priceOf_60.2.2.2.2.2.2.2.2.2.2.1
theorem dX10_priceOf_113 : decode cX10_priceOf 113 = .ok (.goto 5, 3) := gX10_priceOf_60.2.2.2.2.2.2.2.2.2.2.2
theorem gX10_priceOf_72 : (decode cX10_priceOf 116 = .ok (.iload 6, 2)) ∧ (decode cX10_priceOf 118 = .ok (.ireturn, 1)) := by decide +kernel
theorem dX10_priceOf_116 : decode cX10_priceOf 116 = .ok (.iload 6, 2) := gX10_priceOf_72.1
theorem dX10_priceOf_118 : decode cX10_priceOf 118 = .ok (.ireturn, 1) := gX10_priceOf_72.2
theorem gX10_price_0 : (decode cX10_price 0 = .ok (.aload_n 0, 1)) ∧ (decode cX10_price 1 = .ok (.iload_n 1, 1)) ∧ (decode cX10_price 2 = .ok (.iload_n 2, 1)) ∧ (decode cX10_price 3 = .ok (.invokevirtual 180, 3)) ∧ (decode cX10_price 6 = .ok (.istore_n 3, 1)) ∧ (decode cX10_price 7 = .ok (.iload_n 3, 1)) ∧ (decode cX10_price 8 = .ok (.ifCond .ge 11, 3)) ∧ (decode cX10_price 11 = .ok (.aload_n 0, 1)) ∧ (decode cX10_price 12 = .ok (.iload_n 3, 1)) ∧ (decode cX10_price 13 = .ok (.invokevirtual 151, 3)) ∧ (decode cX10_price 16 = .ok (.goto 13, 3)) ∧ (decode cX10_price 19 = .ok (.aload_n 0, 1)) := by decide +kernel
theorem dX10_price_0 : decode cX10_price 0 = .ok (.aload_n 0, 1) := gX10_price_0.1
theorem dX10_price_1 : decode cX10_price 1 = .ok (.iload_n 1, 1) := gX10_price_0.2.1
theorem dX10_price_2 : decode cX10_price 2 = .ok (.iload_n 2, 1) := gX10_price_0.2.2.1
theorem dX10_price_3 : decode cX10_price 3 = .ok (.invokevirtual 180, 3) := gX10_price_0.2.2.2.1
theorem dX10_price_6 : decode cX10_price 6 = .ok (.istore_n 3, 1) := gX10_price_0.2.2.2.2.1
theorem dX10_price_7 : decode cX10_price 7 = .ok (.iload_n 3, 1) := gX10_price_0.2.2.2.2.2.1
theorem dX10_price_8 : decode cX10_price 8 = .ok (.ifCond .ge 11, 3) := gX10_price_0.2.2.2.2.2.2.1
theorem dX10_price_11 : decode cX10_price 11 = .ok (.aload_n 0, 1) := gX10_price_0.2.2.2.2.2.2.2.1
theorem dX10_price_12 : decode cX10_price 12 = .ok (.iload_n 3, 1) := gX10_price_0.2.2.2.2.2.2.2.2.1
theorem dX10_price_13 : decode cX10_price 13 = .ok (.invokevirtual 151, 3) := gX10_price_0.2.2.2.2.2.2.2.2.2.1
theorem dX10_price_16 : decode cX10_price 16 = .ok (.goto 13, 3) := gX10_price_0.2.2.2.2.2.2.2.2.2.2.1
theorem dX10_price_19 : decode cX10_price 19 = .ok (.aload_n 0, 1) := gX10_price_0.2.2.2.2.2.2.2.2.2.2.2
theorem gX10_price_12 : (decode cX10_price 20 = .ok (.bipush 8, 2)) ∧ (decode cX10_price 22 = .ok (.iload_n 2, 1)) ∧ (decode cX10_price 23 = .ok (.imul, 1)) ∧ (decode cX10_price 24 = .ok (.iload_n 1, 1)) ∧ (decode cX10_price 25 = .ok (.iadd, 1)) ∧ (decode cX10_price 26 = .ok (.invokevirtual 191, 3)) ∧ (decode cX10_price 29 = .ok (.ireturn, 1)) := by decide +kernel
theorem dX10_price_20 : decode cX10_price 20 = .ok (.bipush 8, 2) := gX10_price_12.1
theorem dX10_price_22 : decode cX10_price 22 = .ok (.iload_n 2, 1) := gX10_price_12.2.1
theorem dX10_price_23 : decode cX10_price 23 = .ok (.imul, 1) := gX10_price_12.2.2.1
theorem dX10_price_24 : decode cX10_price 24 = .ok (.iload_n 1, 1) := gX10_price_12.2.2.2.1
theorem dX10_price_25 : decode cX10_price 25 = .ok (.iadd, 1) := gX10_price_12.2.2.2.2.1
theorem dX10_price_26 : decode cX10_price 26 = .ok (.invokevirtual 191, 3) := gX10_price_12.2.2.2.2.2.1
theorem dX10_price_29 : decode cX10_price 29 = .ok (.ireturn, 1) := gX10_price_12.2.2.2.2.2.2
theorem gX10_isSilent_0 : (decode cX10_isSilent 0 = .ok (.aload_n 0, 1)) ∧ (decode cX10_isSilent 1 = .ok (.getfield 39, 3)) ∧ (decode cX10_isSilent 4 = .ok (.iload_n 1, 1)) ∧ (decode cX10_isSilent 5 = .ok (.iaload, 1)) ∧ (decode cX10_isSilent 6 = .ok (.ifCond .lt 20, 3)) ∧ (decode cX10_isSilent 9 = .ok (.aload_n 0, 1)) ∧ (decode cX10_isSilent 10 = .ok (.getfield 148, 3)) ∧ (decode cX10_isSilent 13 = .ok (.aload_n 0, 1)) ∧ (decode cX10_isSilent 14 = .ok (.getfield 39, 3)) ∧ (decode cX10_isSilent 17 = .ok (.iload_n 1, 1)) ∧ (decode cX10_isSilent 18 = .ok (.iaload, 1)) ∧ (decode cX10_isSilent 19 = .ok (.if_icmp .le 7, 3)) := by decide +kernel
theorem dX10_isSilent_0 : decode cX10_isSilent 0 = .ok (.aload_n 0, 1) := gX10_isSilent_0.1
theorem dX10_isSilent_1 : decode cX10_isSilent 1 = .ok (.getfield 39, 3) := gX10_isSilent_0.2.1
theorem dX10_isSilent_4 : decode cX10_isSilent 4 = .ok (.iload_n 1, 1) := gX10_isSilent_0.2.2.1
theorem dX10_isSilent_5 : decode cX10_isSilent 5 = .ok (.iaload, 1) := gX10_isSilent_0.2.2.2.1
theorem dX10_isSilent_6 : decode cX10_isSilent 6 = .ok (.ifCond .lt 20, 3) := gX10_isSilent_0.2.2.2.2.1
theorem dX10_isSilent_9 : decode cX10_isSilent 9 = .ok (.aload_n 0, 1) := gX10_isSilent_0.2.2.2.2.2.1
theorem dX10_isSilent_10 : decode cX10_isSilent 10 = .ok (.getfield 148, 3) := gX10_isSilent_0.2.2.2.2.2.2.1
theorem dX10_isSilent_13 : decode cX10_isSilent 13 = .ok (.aload_n 0, 1) := gX10_isSilent_0.2.2.2.2.2.2.2.1
theorem dX10_isSilent_14 : decode cX10_isSilent 14 = .ok (.getfield 39, 3) := gX10_isSilent_0.2.2.2.2.2.2.2.2.1
theorem dX10_isSilent_17 : decode cX10_isSilent 17 = .ok (.iload_n 1, 1) := gX10_isSilent_0.2.2.2.2.2.2.2.2.2.1
theorem dX10_isSilent_18 : decode cX10_isSilent 18 = .ok (.iaload, 1) := gX10_isSilent_0.2.2.2.2.2.2.2.2.2.2.1
theorem dX10_isSilent_19 : decode cX10_isSilent 19 = .ok (.if_icmp .le 7, 3) := gX10_isSilent_0.2.2.2.2.2.2.2.2.2.2.2
theorem gX10_isSilent_12 : (decode cX10_isSilent 22 = .ok (.iconst 1, 1)) ∧ (decode cX10_isSilent 23 = .ok (.goto 4, 3)) ∧ (decode cX10_isSilent 26 = .ok (.iconst 0, 1)) ∧ (decode cX10_isSilent 27 = .ok (.ireturn, 1)) := by decide +kernel
theorem dX10_isSilent_22 : decode cX10_isSilent 22 = .ok (.iconst 1, 1) := gX10_isSilent_12.1
theorem dX10_isSilent_23 : decode cX10_isSilent 23 = .ok (.goto 4, 3) := gX10_isSilent_12.2.1
theorem dX10_isSilent_26 : decode cX10_isSilent 26 = .ok (.iconst 0, 1) := gX10_isSilent_12.2.2.1
theorem dX10_isSilent_27 : decode cX10_isSilent 27 = .ok (.ireturn, 1) := gX10_isSilent_12.2.2.2
theorem gX10_doesStand_0 : (decode cX10_doesStand 0 = .ok (.aload_n 0, 1)) ∧ (decode cX10_doesStand 1 = .ok (.getfield 20, 3)) ∧ (decode cX10_doesStand 4 = .ok (.iload_n 1, 1)) ∧ (decode cX10_doesStand 5 = .ok (.baload, 1)) ∧ (decode cX10_doesStand 6 = .ok (.ifCond .eq 24, 3)) ∧ (decode cX10_doesStand 9 = .ok (.aload_n 0, 1)) ∧ (decode cX10_doesStand 10 = .ok (.getfield 36, 3)) ∧ (decode cX10_doesStand 13 = .ok (.iload_n 1, 1)) ∧ (decode cX10_doesStand 14 = .ok (.baload, 1)) ∧ (decode cX10_doesStand 15 = .ok (.ifCond .ne 15, 3)) ∧ (decode cX10_doesStand 18 = .ok (.aload_n 0, 1)) ∧ (decode cX10_doesStand 19 = .ok (.iload_n 1, 1)) := by decide +kernel
theorem dX10_doesStand_0 : decode cX10_doesStand 0 = .ok (.aload_n 0, 1) := gX10_doesStand_0.1
theorem dX10_doesStand_1 : decode cX10_doesStand 1 = .ok (.getfield 20, 3) := gX10_doesStand_0.2.1
theorem dX10_doesStand_4 : decode cX10_doesStand 4 = .ok (.iload_n 1, 1) := gX10_doesStand_0.2.2.1
theorem dX10_doesStand_5 : decode cX10_doesStand 5 = .ok (.baload, 1) := gX10_doesStand_0.2.2.2.1
theorem dX10_doesStand_6 : decode cX10_doesStand 6 = .ok (.ifCond .eq 24, 3) := gX10_doesStand_0.2.2.2.2.1
theorem dX10_doesStand_9 : decode cX10_doesStand 9 = .ok (.aload_n 0, 1) := gX10_doesStand_0.2.2.2.2.2.1
theorem dX10_doesStand_10 : decode cX10_doesStand 10 = .ok (.getfield 36, 3) := gX10_doesStand_0.2.2.2.2.2.2.1
theorem dX10_doesStand_13 : decode cX10_doesStand 13 = .ok (.iload_n 1, 1) := gX10_doesStand_0.2.2.2.2.2.2.2.1
theorem dX10_doesStand_14 : decode cX10_doesStand 14 = .ok (.baload, 1) := gX10_doesStand_0.2.2.2.2.2.2.2.2.1
theorem dX10_doesStand_15 : decode cX10_doesStand 15 = .ok (.ifCond .ne 15, 3) := gX10_doesStand_0.2.2.2.2.2.2.2.2.2.1
theorem dX10_doesStand_18 : decode cX10_doesStand 18 = .ok (.aload_n 0, 1) := gX10_doesStand_0.2.2.2.2.2.2.2.2.2.2.1
theorem dX10_doesStand_19 : decode cX10_doesStand 19 = .ok (.iload_n 1, 1) := gX10_doesStand_0.2.2.2.2.2.2.2.2.2.2.2
theorem gX10_doesStand_12 : (decode cX10_doesStand 20 = .ok (.invokevirtual 194, 3)) ∧ (decode cX10_doesStand 23 = .ok (.ifCond .ne 7, 3)) ∧ (decode cX10_doesStand 26 = .ok (.iconst 1, 1)) ∧ (decode cX10_doesStand 27 = .ok (.goto 4, 3)) ∧ (decode cX10_doesStand 30 = .ok (.iconst 0, 1)) ∧ (decode cX10_doesStand 31 = .ok (.ireturn, 1)) := by decide +kernel
theorem dX10_doesStand_20 : decode cX10_doesStand 20 = .ok (.invokevirtual 194, 3) := gX10_doesStand_12.1
theorem dX10_doesStand_23 : decode cX10_doesStand 23 = .ok (.ifCond .ne 7, 3) := gX10_doesStand_12.2.1
theorem dX10_doesStand_26 : decode cX10_doesStand 26 = .ok (.iconst 1, 1) := gX10_doesStand_12.2.2.1
theorem dX10_doesStand_27 : decode cX10_doesStand 27 = .ok (.goto 4, 3) := gX10_doesStand_12.2.2.2.1
theorem dX10_doesStand_30 : decode cX10_doesStand 30 = .ok (.iconst 0, 1) := gX10_doesStand_12.2.2.2.2.1
theorem dX10_doesStand_31 : decode cX10_doesStand 31 = .ok (.ireturn, 1) := gX10_doesStand_12.2.2.2.2.2
theorem gX10_fails_0 : (decode cX10_fails 0 = .ok (.aload_n 0, 1)) ∧ (decode cX10_fails 1 = .ok (.iload_n 1, 1)) ∧ (decode cX10_fails 2 = .ok (.iload_n 2, 1)) ∧ (decode cX10_fails 3 = .ok (.invokevirtual 180, 3)) ∧ (decode cX10_fails 6 = .ok (.istore_n 3, 1)) ∧ (decode cX10_fails 7 = .ok (.iload_n 3, 1)) ∧ (decode cX10_fails 8 = .ok (.ifCond .ge 7, 3)) ∧ (decode cX10_fails 11 = .ok (.iload_n 3, 1)) ∧ (decode cX10_fails 12 = .ok (.goto 22, 3)) ∧ (decode cX10_fails 15 = .ok (.aload_n 0, 1)) ∧ (decode cX10_fails 16 = .ok (.bipush 8, 2)) ∧ (decode cX10_fails 18 = .ok (.iload_n 2, 1)) := by decide +kernel
theorem dX10_fails_0 : decode cX10_fails 0 = .ok (.aload_n 0, 1) := gX10_fails_0.1
theorem dX10_fails_1 : decode cX10_fails 1 = .ok (.iload_n 1, 1) := gX10_fails_0.2.1
theorem dX10_fails_2 : decode cX10_fails 2 = .ok (.iload_n 2, 1) := gX10_fails_0.2.2.1
theorem dX10_fails_3 : decode cX10_fails 3 = .ok (.invokevirtual 180, 3) := gX10_fails_0.2.2.2.1
theorem dX10_fails_6 : decode cX10_fails 6 = .ok (.istore_n 3, 1) := gX10_fails_0.2.2.2.2.1
theorem dX10_fails_7 : decode cX10_fails 7 = .ok (.iload_n 3, 1) := gX10_fails_0.2.2.2.2.2.1
theorem dX10_fails_8 : decode cX10_fails 8 = .ok (.ifCond .ge 7, 3) := gX10_fails_0.2.2.2.2.2.2.1
theorem dX10_fails_11 : decode cX10_fails 11 = .ok (.iload_n 3, 1) := gX10_fails_0.2.2.2.2.2.2.2.1
theorem dX10_fails_12 : decode cX10_fails 12 = .ok (.goto 22, 3) := gX10_fails_0.2.2.2.2.2.2.2.2.1
theorem dX10_fails_15 : decode cX10_fails 15 = .ok (.aload_n 0, 1) := gX10_fails_0.2.2.2.2.2.2.2.2.2.1
theorem dX10_fails_16 : decode cX10_fails 16 = .ok (.bipush 8, 2) := gX10_fails_0.2.2.2.2.2.2.2.2.2.2.1
theorem dX10_fails_18 : decode cX10_fails 18 = .ok (.iload_n 2, 1) := gX10_fails_0.2.2.2.2.2.2.2.2.2.2.2
theorem gX10_fails_12 : (decode cX10_fails 19 = .ok (.imul, 1)) ∧ (decode cX10_fails 20 = .ok (.iload_n 1, 1)) ∧ (decode cX10_fails 21 = .ok (.iadd, 1)) ∧ (decode cX10_fails 22 = .ok (.invokevirtual 197, 3)) ∧ (decode cX10_fails 25 = .ok (.ifCond .eq 7, 3)) ∧ (decode cX10_fails 28 = .ok (.iconst 0, 1)) ∧ (decode cX10_fails 29 = .ok (.goto 5, 3)) ∧ (decode cX10_fails 32 = .ok (.bipush (-5), 2)) ∧ (decode cX10_fails 34 = .ok (.ireturn, 1)) := by decide +kernel
theorem dX10_fails_19 : decode cX10_fails 19 = .ok (.imul, 1) := gX10_fails_12.1
theorem dX10_fails_20 : decode cX10_fails 20 = .ok (.iload_n 1, 1) := gX10_fails_12.2.1
theorem dX10_fails_21 : decode cX10_fails 21 = .ok (.iadd, 1) := gX10_fails_12.2.2.1
theorem dX10_fails_22 : decode cX10_fails 22 = .ok (.invokevirtual 197, 3) := gX10_fails_12.2.2.2.1
theorem dX10_fails_25 : decode cX10_fails 25 = .ok (.ifCond .eq 7, 3) := gX10_fails_12.2.2.2.2.1
theorem dX10_fails_28 : decode cX10_fails 28 = .ok (.iconst 0, 1) := gX10_fails_12.2.2.2.2.2.1
theorem dX10_fails_29 : decode cX10_fails 29 = .ok (.goto 5, 3) := gX10_fails_12.2.2.2.2.2.2.1
theorem dX10_fails_32 : decode cX10_fails 32 = .ok (.bipush (-5), 2) := gX10_fails_12.2.2.2.2.2.2.2.1
theorem dX10_fails_34 : decode cX10_fails 34 = .ok (.ireturn, 1) := gX10_fails_12.2.2.2.2.2.2.2.2
theorem gX10_isScorer_0 : (decode cX10_isScorer 0 = .ok (.iload_n 0, 1)) ∧ (decode cX10_isScorer 1 = .ok (.iconst 0, 1)) ∧ (decode cX10_isScorer 2 = .ok (.iconst 5, 1)) ∧ (decode cX10_isScorer 3 = .ok (.invokestatic 144, 3)) ∧ (decode cX10_isScorer 6 = .ok (.ireturn, 1)) := by decide +kernel
theorem dX10_isScorer_0 : decode cX10_isScorer 0 = .ok (.iload_n 0, 1) := gX10_isScorer_0.1
theorem dX10_isScorer_1 : decode cX10_isScorer 1 = .ok (.iconst 0, 1) := gX10_isScorer_0.2.1
theorem dX10_isScorer_2 : decode cX10_isScorer 2 = .ok (.iconst 5, 1) := gX10_isScorer_0.2.2.1
theorem dX10_isScorer_3 : decode cX10_isScorer 3 = .ok (.invokestatic 144, 3) := gX10_isScorer_0.2.2.2.1
theorem dX10_isScorer_6 : decode cX10_isScorer 6 = .ok (.ireturn, 1) := gX10_isScorer_0.2.2.2.2
theorem gX10_note_0 : (decode cX10_note 0 = .ok (.iload_n 1, 1)) ∧ (decode cX10_note 1 = .ok (.invokestatic 200, 3)) ∧ (decode cX10_note 4 = .ok (.ifCond .ne 9, 3)) ∧ (decode cX10_note 7 = .ok (.aload_n 0, 1)) ∧ (decode cX10_note 8 = .ok (.iconst (-1), 1)) ∧ (decode cX10_note 9 = .ok (.invokevirtual 151, 3)) ∧ (decode cX10_note 12 = .ok (.ireturn, 1)) ∧ (decode cX10_note 13 = .ok (.aload_n 0, 1)) ∧ (decode cX10_note 14 = .ok (.iload_n 2, 1)) ∧ (decode cX10_note 15 = .ok (.iload_n 3, 1)) ∧ (decode cX10_note 16 = .ok (.invokevirtual 203, 3)) ∧ (decode cX10_note 19 = .ok (.istore 5, 2)) := by decide +kernel
theorem dX10_note_0 : decode cX10_note 0 = .ok (.iload_n 1, 1) := gX10_note_0.1
theorem dX10_note_1 : decode cX10_note 1 = .ok (.invokestatic 200, 3) := gX10_note_0.2.1
theorem dX10_note_4 : decode cX10_note 4 = .ok (.ifCond .ne 9, 3) := gX10_note_0.2.2.1
theorem dX10_note_7 : decode cX10_note 7 = .ok (.aload_n 0, 1) := gX10_note_0.2.2.2.1
theorem dX10_note_8 : decode cX10_note 8 = .ok (.iconst (-1), 1) := gX10_note_0.2.2.2.2.1
theorem dX10_note_9 : decode cX10_note 9 = .ok (.invokevirtual 151, 3) := gX10_note_0.2.2.2.2.2.1
theorem dX10_note_12 : decode cX10_note 12 = .ok (.ireturn, 1) := gX10_note_0.2.2.2.2.2.2.1
theorem dX10_note_13 : decode cX10_note 13 = .ok (.aload_n 0, 1) := gX10_note_0.2.2.2.2.2.2.2.1
theorem dX10_note_14 : decode cX10_note 14 = .ok (.iload_n 2, 1) := gX10_note_0.2.2.2.2.2.2.2.2.1
theorem dX10_note_15 : decode cX10_note 15 = .ok (.iload_n 3, 1) := gX10_note_0.2.2.2.2.2.2.2.2.2.1
theorem dX10_note_16 : decode cX10_note 16 = .ok (.invokevirtual 203, 3) := gX10_note_0.2.2.2.2.2.2.2.2.2.2.1
theorem dX10_note_19 : decode cX10_note 19 = .ok (.istore 5, 2) := gX10_note_0.2.2.2.2.2.2.2.2.2.2.2
theorem gX10_note_12 : (decode cX10_note 21 = .ok (.iload 5, 2)) ∧ (decode cX10_note 23 = .ok (.ifCond .ge 10, 3)) ∧ (decode cX10_note 26 = .ok (.aload_n 0, 1)) ∧ (decode cX10_note 27 = .ok (.iload 5, 2)) ∧ (decode cX10_note 29 = .ok (.invokevirtual 151, 3)) ∧ (decode cX10_note 32 = .ok (.ireturn, 1)) ∧ (decode cX10_note 33 = .ok (.aload_n 0, 1)) ∧ (decode cX10_note 34 = .ok (.invokevirtual 160, 3)) ∧ (decode cX10_note 37 = .ok (.ifCond .eq 10, 3)) ∧ (decode cX10_note 40 = .ok (.aload_n 0, 1)) ∧ (decode cX10_note 41 = .ok (.bipush (-3), 2)) ∧ (decode cX10_note 43 = .ok (.invokevirtual 151, 3)) := by decide +kernel
theorem dX10_note_21 : decode cX10_note 21 = .ok (.iload 5, 2) := gX10_note_12.1
theorem dX10_note_23 : decode cX10_note 23 = .ok (.ifCond .ge 10, 3) := gX10_note_12.2.1
theorem dX10_note_26 : decode cX10_note 26 = .ok (.aload_n 0, 1) := gX10_note_12.2.2.1
theorem dX10_note_27 : decode cX10_note 27 = .ok (.iload 5, 2) := gX10_note_12.2.2.2.1
theorem dX10_note_29 : decode cX10_note 29 = .ok (.invokevirtual 151, 3) := gX10_note_12.2.2.2.2.1
theorem dX10_note_32 : decode cX10_note 32 = .ok (.ireturn, 1) := gX10_note_12.2.2.2.2.2.1
theorem dX10_note_33 : decode cX10_note 33 = .ok (.aload_n 0, 1) := gX10_note_12.2.2.2.2.2.2.1
theorem dX10_note_34 : decode cX10_note 34 = .ok (.invokevirtual 160, 3) := gX10_note_12.2.2.2.2.2.2.2.1
theorem dX10_note_37 : decode cX10_note 37 = .ok (.ifCond .eq 10, 3) := gX10_note_12.2.2.2.2.2.2.2.2.1
theorem dX10_note_40 : decode cX10_note 40 = .ok (.aload_n 0, 1) := gX10_note_12.2.2.2.2.2.2.2.2.2.1
theorem dX10_note_41 : decode cX10_note 41 = .ok (.bipush (-3), 2) := gX10_note_12.2.2.2.2.2.2.2.2.2.2.1
theorem dX10_note_43 : decode cX10_note 43 = .ok (.invokevirtual 151, 3) := gX10_note_12.2.2.2.2.2.2.2.2.2.2.2
theorem gX10_note_24 : (decode cX10_note 46 = .ok (.ireturn, 1)) ∧ (decode cX10_note 47 = .ok (.iload 4, 2)) ∧ (decode cX10_note 49 = .ok (.ifCond .ge 10, 3)) ∧ (decode cX10_note 52 = .ok (.aload_n 0, 1)) ∧ (decode cX10_note 53 = .ok (.bipush (-4), 2)) ∧ (decode cX10_note 55 = .ok (.invokevirtual 151, 3)) ∧ (decode cX10_note 58 = .ok (.ireturn, 1)) ∧ (decode cX10_note 59 = .ok (.iload 4, 2)) ∧ (decode cX10_note 61 = .ok (.bipush 100, 2)) ∧ (decode cX10_note 63 = .ok (.if_icmp .le 10, 3)) ∧ (decode cX10_note 66 = .ok (.aload_n 0, 1)) ∧ (decode cX10_note 67 = .ok (.bipush (-6), 2)) := by decide +kernel
theorem dX10_note_46 : decode cX10_note 46 = .ok (.ireturn, 1) := gX10_note_24.1
theorem dX10_note_47 : decode cX10_note 47 = .ok (.iload 4, 2) := gX10_note_24.2.1
theorem dX10_note_49 : decode cX10_note 49 = .ok (.ifCond .ge 10, 3) := gX10_note_24.2.2.1
theorem dX10_note_52 : decode cX10_note 52 = .ok (.aload_n 0, 1) := gX10_note_24.2.2.2.1
theorem dX10_note_53 : decode cX10_note 53 = .ok (.bipush (-4), 2) := gX10_note_24.2.2.2.2.1
theorem dX10_note_55 : decode cX10_note 55 = .ok (.invokevirtual 151, 3) := gX10_note_24.2.2.2.2.2.1
theorem dX10_note_58 : decode cX10_note 58 = .ok (.ireturn, 1) := gX10_note_24.2.2.2.2.2.2.1
theorem dX10_note_59 : decode cX10_note 59 = .ok (.iload 4, 2) := gX10_note_24.2.2.2.2.2.2.2.1
theorem dX10_note_61 : decode cX10_note 61 = .ok (.bipush 100, 2) := gX10_note_24.2.2.2.2.2.2.2.2.1
theorem dX10_note_63 : decode cX10_note 63 = .ok (.if_icmp .le 10, 3) := gX10_note_24.2.2.2.2.2.2.2.2.2.1
theorem dX10_note_66 : decode cX10_note 66 = .ok (.aload_n 0, 1) := gX10_note_24.2.2.2.2.2.2.2.2.2.2.1
theorem dX10_note_67 : decode cX10_note 67 = .ok (.bipush (-6), 2) := gX10_note_24.2.2.2.2.2.2.2.2.2.2.2
theorem gX10_note_36 : (decode cX10_note 69 = .ok (.invokevirtual 151, 3)) ∧ (decode cX10_note 72 = .ok (.ireturn, 1)) ∧ (decode cX10_note 73 = .ok (.bipush 48, 2)) ∧ (decode cX10_note 75 = .ok (.iload_n 1, 1)) ∧ (decode cX10_note 76 = .ok (.imul, 1)) ∧ (decode cX10_note 77 = .ok (.bipush 8, 2)) ∧ (decode cX10_note 79 = .ok (.iload_n 3, 1)) ∧ (decode cX10_note 80 = .ok (.imul, 1)) ∧ (decode cX10_note 81 = .ok (.iadd, 1)) ∧ (decode cX10_note 82 = .ok (.iload_n 2, 1)) ∧ (decode cX10_note 83 = .ok (.iadd, 1)) ∧ (decode cX10_note 84 = .ok (.istore 6, 2)) := by decide +kernel
theorem dX10_note_69 : decode cX10_note 69 = .ok (.invokevirtual 151, 3) := gX10_note_36.1
theorem dX10_note_72 : decode cX10_note 72 = .ok (.ireturn, 1) := gX10_note_36.2.1
theorem dX10_note_73 : decode cX10_note 73 = .ok (.bipush 48, 2) := gX10_note_36.2.2.1
theorem dX10_note_75 : decode cX10_note 75 = .ok (.iload_n 1, 1) := gX10_note_36.2.2.2.1
theorem dX10_note_76 : decode cX10_note 76 = .ok (.imul, 1) := gX10_note_36.2.2.2.2.1
theorem dX10_note_77 : decode cX10_note 77 = .ok (.bipush 8, 2) := gX10_note_36.2.2.2.2.2.1
theorem dX10_note_79 : decode cX10_note 79 = .ok (.iload_n 3, 1) := gX10_note_36.2.2.2.2.2.2.1
theorem dX10_note_80 : decode cX10_note 80 = .ok (.imul, 1) := gX10_note_36.2.2.2.2.2.2.2.1
theorem dX10_note_81 : decode cX10_note 81 = .ok (.iadd, 1) := gX10_note_36.2.2.2.2.2.2.2.2.1
theorem dX10_note_82 : decode cX10_note 82 = .ok (.iload_n 2, 1) := gX10_note_36.2.2.2.2.2.2.2.2.2.1
theorem dX10_note_83 : decode cX10_note 83 = .ok (.iadd, 1) := gX10_note_36.2.2.2.2.2.2.2.2.2.2.1
theorem dX10_note_84 : decode cX10_note 84 = .ok (.istore 6, 2) := gX10_note_36.2.2.2.2.2.2.2.2.2.2.2
theorem gX10_note_48 : (decode cX10_note 86 = .ok (.aload_n 0, 1)) ∧ (decode cX10_note 87 = .ok (.getfield 45, 3)) ∧ (decode cX10_note 90 = .ok (.iload 6, 2)) ∧ (decode cX10_note 92 = .ok (.iaload, 1)) ∧ (decode cX10_note 93 = .ok (.ifCond .ge 8, 3)) ∧ (decode cX10_note 96 = .ok (.bipush (-9), 2)) ∧ (decode cX10_note 98 = .ok (.goto 10, 3)) ∧ (decode cX10_note 101 = .ok (.aload_n 0, 1)) ∧ (decode cX10_note 102 = .ok (.getfield 45, 3)) ∧ (decode cX10_note 105 = .ok (.iload 6, 2)) ∧ (decode cX10_note 107 = .ok (.iaload, 1)) ∧ (decode cX10_note 108 = .ok (.istore 7, 2)) := by decide +kernel
theorem dX10_note_86 : decode cX10_note 86 = .ok (.aload_n 0, 1) := gX10_note_48.1
theorem dX10_note_87 : decode cX10_note 87 = .ok (.getfield 45, 3) := gX10_note_48.2.1
theorem dX10_note_90 : decode cX10_note 90 = .ok (.iload 6, 2) := gX10_note_48.2.2.1
theorem dX10_note_92 : decode cX10_note 92 = .ok (.iaload, 1) := gX10_note_48.2.2.2.1
theorem dX10_note_93 : decode cX10_note 93 = .ok (.ifCond .ge 8, 3) := gX10_note_48.2.2.2.2.1
theorem dX10_note_96 : decode cX10_note 96 = .ok (.bipush (-9), 2) := gX10_note_48.2.2.2.2.2.1
theorem dX10_note_98 : decode cX10_note 98 = .ok (.goto 10, 3) := gX10_note_48.2.2.2.2.2.2.1
theorem dX10_note_101 : decode cX10_note 101 = .ok (.aload_n 0, 1) := gX10_note_48.2.2.2.2.2.2.2.1
theorem dX10_note_102 : decode cX10_note 102 = .ok (.getfield 45, 3) := gX10_note_48.2.2.2.2.2.2.2.2.1
theorem dX10_note_105 : decode cX10_note 105 = .ok (.iload 6, 2) := gX10_note_48.2.2.2.2.2.2.2.2.2.1
theorem dX10_note_107 : decode cX10_note 107 = .ok (.iaload, 1) := gX10_note_48.2.2.2.2.2.2.2.2.2.2.1
theorem dX10_note_108 : decode cX10_note 108 = .ok (.istore 7, 2) := gX10_note_48.2.2.2.2.2.2.2.2.2.2.2
theorem gX10_note_60 : (decode cX10_note 110 = .ok (.aload_n 0, 1)) ∧ (decode cX10_note 111 = .ok (.getfield 45, 3)) ∧ (decode cX10_note 114 = .ok (.iload 6, 2)) ∧ (decode cX10_note 116 = .ok (.iload 4, 2)) ∧ (decode cX10_note 118 = .ok (.iastore, 1)) ∧ (decode cX10_note 119 = .ok (.aload_n 0, 1)) ∧ (decode cX10_note 120 = .ok (.iconst 0, 1)) ∧ (decode cX10_note 121 = .ok (.putfield 156, 3)) ∧ (decode cX10_note 124 = .ok (.iload 7, 2)) ∧ (decode cX10_note 126 = .ok (.ireturn, 1)) := by decide +kernel
theorem dX10_note_110 : decode cX10_note 110 = .ok (.aload_n 0, 1) := gX10_note_60.1
theorem dX10_note_111 : decode cX10_note 111 = .ok (.getfield 45, 3) := gX10_note_60.2.1
theorem dX10_note_114 : decode cX10_note 114 = .ok (.iload 6, 2) := gX10_note_60.2.2.1
theorem dX10_note_116 : decode cX10_note 116 = .ok (.iload 4, 2) := gX10_note_60.2.2.2.1
theorem dX10_note_118 : decode cX10_note 118 = .ok (.iastore, 1) := gX10_note_60.2.2.2.2.1
theorem dX10_note_119 : decode cX10_note 119 = .ok (.aload_n 0, 1) := gX10_note_60.2.2.2.2.2.1
theorem dX10_note_120 : decode cX10_note 120 = .ok (.iconst 0, 1) := gX10_note_60.2.2.2.2.2.2.1
theorem dX10_note_121 : decode cX10_note 121 = .ok (.putfield 156, 3) := gX10_note_60.2.2.2.2.2.2.2.1
theorem dX10_note_124 : decode cX10_note 124 = .ok (.iload 7, 2) := gX10_note_60.2.2.2.2.2.2.2.2.1
theorem dX10_note_126 : decode cX10_note 126 = .ok (.ireturn, 1) := gX10_note_60.2.2.2.2.2.2.2.2.2
theorem gX10_bar_0 : (decode cX10_bar 0 = .ok (.iload_n 1, 1)) ∧ (decode cX10_bar 1 = .ok (.invokestatic 200, 3)) ∧ (decode cX10_bar 4 = .ok (.ifCond .eq 10, 3)) ∧ (decode cX10_bar 7 = .ok (.iload_n 2, 1)) ∧ (decode cX10_bar 8 = .ok (.invokestatic 166, 3)) ∧ (decode cX10_bar 11 = .ok (.ifCond .ne 9, 3)) ∧ (decode cX10_bar 14 = .ok (.aload_n 0, 1)) ∧ (decode cX10_bar 15 = .ok (.iconst (-1), 1)) ∧ (decode cX10_bar 16 = .ok (.invokevirtual 151, 3)) ∧ (decode cX10_bar 19 = .ok (.ireturn, 1)) ∧ (decode cX10_bar 20 = .ok (.aload_n 0, 1)) ∧ (decode cX10_bar 21 = .ok (.getfield 48, 3)) := by decide +kernel
theorem dX10_bar_0 : decode cX10_bar 0 = .ok (.iload_n 1, 1) := gX10_bar_0.1
theorem dX10_bar_1 : decode cX10_bar 1 = .ok (.invokestatic 200, 3) := gX10_bar_0.2.1
theorem dX10_bar_4 : decode cX10_bar 4 = .ok (.ifCond .eq 10, 3) := gX10_bar_0.2.2.1
theorem dX10_bar_7 : decode cX10_bar 7 = .ok (.iload_n 2, 1) := gX10_bar_0.2.2.2.1
theorem dX10_bar_8 : decode cX10_bar 8 = .ok (.invokestatic 166, 3) := gX10_bar_0.2.2.2.2.1
theorem dX10_bar_11 : decode cX10_bar 11 = .ok (.ifCond .ne 9, 3) := gX10_bar_0.2.2.2.2.2.1
theorem dX10_bar_14 : decode cX10_bar 14 = .ok (.aload_n 0, 1) := gX10_bar_0.2.2.2.2.2.2.1
theorem dX10_bar_15 : decode cX10_bar 15 = .ok (.iconst (-1), 1) := gX10_bar_0.2.2.2.2.2.2.2.1
theorem dX10_bar_16 : decode cX10_bar 16 = .ok (.invokevirtual 151, 3) := gX10_bar_0.2.2.2.2.2.2.2.2.1
theorem dX10_bar_19 : decode cX10_bar 19 = .ok (.ireturn, 1) := gX10_bar_0.2.2.2.2.2.2.2.2.2.1
theorem dX10_bar_20 : decode cX10_bar 20 = .ok (.aload_n 0, 1) := gX10_bar_0.2.2.2.2.2.2.2.2.2.2.1
theorem dX10_bar_21 : decode cX10_bar 21 = .ok (.getfield 48, 3) := gX10_bar_0.2.2.2.2.2.2.2.2.2.2.2
theorem gX10_bar_12 : (decode cX10_bar 24 = .ok (.bipush 8, 2)) ∧ (decode cX10_bar 26 = .ok (.iload_n 1, 1)) ∧ (decode cX10_bar 27 = .ok (.imul, 1)) ∧ (decode cX10_bar 28 = .ok (.iload_n 2, 1)) ∧ (decode cX10_bar 29 = .ok (.iadd, 1)) ∧ (decode cX10_bar 30 = .ok (.baload, 1)) ∧ (decode cX10_bar 31 = .ok (.istore 4, 2)) ∧ (decode cX10_bar 33 = .ok (.aload_n 0, 1)) ∧ (decode cX10_bar 34 = .ok (.getfield 48, 3)) ∧ (decode cX10_bar 37 = .ok (.bipush 8, 2)) ∧ (decode cX10_bar 39 = .ok (.iload_n 1, 1)) ∧ (decode cX10_bar 40 = .ok (.imul, 1)) := by decide +kernel
theorem dX10_bar_24 : decode cX10_bar 24 = .ok (.bipush 8, 2) := gX10_bar_12.1
theorem dX10_bar_26 : decode cX10_bar 26 = .ok (.iload_n 1, 1) := gX10_bar_12.2.1
theorem dX10_bar_27 : decode cX10_bar 27 = .ok (.imul, 1) := gX10_bar_12.2.2.1
theorem dX10_bar_28 : decode cX10_bar 28 = .ok (.iload_n 2, 1) := gX10_bar_12.2.2.2.1
theorem dX10_bar_29 : decode cX10_bar 29 = .ok (.iadd, 1) := gX10_bar_12.2.2.2.2.1
theorem dX10_bar_30 : decode cX10_bar 30 = .ok (.baload, 1) := gX10_bar_12.2.2.2.2.2.1
theorem dX10_bar_31 : decode cX10_bar 31 = .ok (.istore 4, 2) := gX10_bar_12.2.2.2.2.2.2.1
theorem dX10_bar_33 : decode cX10_bar 33 = .ok (.aload_n 0, 1) := gX10_bar_12.2.2.2.2.2.2.2.1
theorem dX10_bar_34 : decode cX10_bar 34 = .ok (.getfield 48, 3) := gX10_bar_12.2.2.2.2.2.2.2.2.1
theorem dX10_bar_37 : decode cX10_bar 37 = .ok (.bipush 8, 2) := gX10_bar_12.2.2.2.2.2.2.2.2.2.1
theorem dX10_bar_39 : decode cX10_bar 39 = .ok (.iload_n 1, 1) := gX10_bar_12.2.2.2.2.2.2.2.2.2.2.1
theorem dX10_bar_40 : decode cX10_bar 40 = .ok (.imul, 1) := gX10_bar_12.2.2.2.2.2.2.2.2.2.2.2
theorem gX10_bar_24 : (decode cX10_bar 41 = .ok (.iload_n 2, 1)) ∧ (decode cX10_bar 42 = .ok (.iadd, 1)) ∧ (decode cX10_bar 43 = .ok (.iload_n 3, 1)) ∧ (decode cX10_bar 44 = .ok (.bastore, 1)) ∧ (decode cX10_bar 45 = .ok (.aload_n 0, 1)) ∧ (decode cX10_bar 46 = .ok (.iconst 0, 1)) ∧ (decode cX10_bar 47 = .ok (.putfield 156, 3)) ∧ (decode cX10_bar 50 = .ok (.iload 4, 2)) ∧ (decode cX10_bar 52 = .ok (.iload_n 3, 1)) ∧ (decode cX10_bar 53 = .ok (.if_icmp .ne 7, 3)) ∧ (decode cX10_bar 56 = .ok (.iconst 0, 1)) ∧ (decode cX10_bar 57 = .ok (.goto 4, 3)) := by decide +kernel
theorem dX10_bar_41 : decode cX10_bar 41 = .ok (.iload_n 2, 1) := gX10_bar_24.1
theorem dX10_bar_42 : decode cX10_bar 42 = .ok (.iadd, 1) := gX10_bar_24.2.1
theorem dX10_bar_43 : decode cX10_bar 43 = .ok (.iload_n 3, 1) := gX10_bar_24.2.2.1
theorem dX10_bar_44 : decode cX10_bar 44 = .ok (.bastore, 1) := gX10_bar_24.2.2.2.1
theorem dX10_bar_45 : decode cX10_bar 45 = .ok (.aload_n 0, 1) := gX10_bar_24.2.2.2.2.1
theorem dX10_bar_46 : decode cX10_bar 46 = .ok (.iconst 0, 1) := gX10_bar_24.2.2.2.2.2.1
theorem dX10_bar_47 : decode cX10_bar 47 = .ok (.putfield 156, 3) := gX10_bar_24.2.2.2.2.2.2.1
theorem dX10_bar_50 : decode cX10_bar 50 = .ok (.iload 4, 2) := gX10_bar_24.2.2.2.2.2.2.2.1
theorem dX10_bar_52 : decode cX10_bar 52 = .ok (.iload_n 3, 1) := gX10_bar_24.2.2.2.2.2.2.2.2.1
theorem dX10_bar_53 : decode cX10_bar 53 = .ok (.if_icmp .ne 7, 3) := gX10_bar_24.2.2.2.2.2.2.2.2.2.1
theorem dX10_bar_56 : decode cX10_bar 56 = .ok (.iconst 0, 1) := gX10_bar_24.2.2.2.2.2.2.2.2.2.2.1
theorem dX10_bar_57 : decode cX10_bar 57 = .ok (.goto 4, 3) := gX10_bar_24.2.2.2.2.2.2.2.2.2.2.2
theorem gX10_bar_36 : (decode cX10_bar 60 = .ok (.iconst 1, 1)) ∧ (decode cX10_bar 61 = .ok (.ireturn, 1)) := by decide +kernel
theorem dX10_bar_60 : decode cX10_bar 60 = .ok (.iconst 1, 1) := gX10_bar_36.1
theorem dX10_bar_61 : decode cX10_bar 61 = .ok (.ireturn, 1) := gX10_bar_36.2
theorem gX10_isAside_0 : (decode cX10_isAside 0 = .ok (.iconst 0, 1)) ∧ (decode cX10_isAside 1 = .ok (.istore 4, 2)) ∧ (decode cX10_isAside 3 = .ok (.iconst 0, 1)) ∧ (decode cX10_isAside 4 = .ok (.istore 5, 2)) ∧ (decode cX10_isAside 6 = .ok (.iload 5, 2)) ∧ (decode cX10_isAside 8 = .ok (.bipush 8, 2)) ∧ (decode cX10_isAside 10 = .ok (.if_icmp .ge 56, 3)) ∧ (decode cX10_isAside 13 = .ok (.iload 4, 2)) ∧ (decode cX10_isAside 15 = .ok (.ifCond .ne 38, 3)) ∧ (decode cX10_isAside 18 = .ok (.aload_n 0, 1)) ∧ (decode cX10_isAside 19 = .ok (.getfield 48, 3)) ∧ (decode cX10_isAside 22 = .ok (.bipush 8, 2)) := by decide +kernel
theorem dX10_isAside_0 : decode cX10_isAside 0 = .ok (.iconst 0, 1) := gX10_isAside_0.1
theorem dX10_isAside_1 : decode cX10_isAside 1 = .ok (.istore 4, 2) := gX10_isAside_0.2.1
theorem dX10_isAside_3 : decode cX10_isAside 3 = .ok (.iconst 0, 1) := gX10_isAside_0.2.2.1
theorem dX10_isAside_4 : decode cX10_isAside 4 = .ok (.istore 5, 2) := gX10_isAside_0.2.2.2.1
theorem dX10_isAside_6 : decode cX10_isAside 6 = .ok (.iload 5, 2) := gX10_isAside_0.2.2.2.2.1
theorem dX10_isAside_8 : decode cX10_isAside 8 = .ok (.bipush 8, 2) := gX10_isAside_0.2.2.2.2.2.1
theorem dX10_isAside_10 : decode cX10_isAside 10 = .ok (.if_icmp .ge 56, 3) := gX10_isAside_0.2.2.2.2.2.2.1
theorem dX10_isAside_13 : decode cX10_isAside 13 = .ok (.iload 4, 2) := gX10_isAside_0.2.2.2.2.2.2.2.1
theorem dX10_isAside_15 : decode cX10_isAside 15 = .ok (.ifCond .ne 38, 3) := gX10_isAside_0.2.2.2.2.2.2.2.2.1
theorem dX10_isAside_18 : decode cX10_isAside 18 = .ok (.aload_n 0, 1) := gX10_isAside_0.2.2.2.2.2.2.2.2.2.1
theorem dX10_isAside_19 : decode cX10_isAside 19 = .ok (.getfield 48, 3) := gX10_isAside_0.2.2.2.2.2.2.2.2.2.2.1
theorem dX10_isAside_22 : decode cX10_isAside 22 = .ok (.bipush 8, 2) := gX10_isAside_0.2.2.2.2.2.2.2.2.2.2.2
theorem gX10_isAside_12 : (decode cX10_isAside 24 = .ok (.iload_n 1, 1)) ∧ (decode cX10_isAside 25 = .ok (.imul, 1)) ∧ (decode cX10_isAside 26 = .ok (.iload 5, 2)) ∧ (decode cX10_isAside 28 = .ok (.iadd, 1)) ∧ (decode cX10_isAside 29 = .ok (.baload, 1)) ∧ (decode cX10_isAside 30 = .ok (.ifCond .eq 27, 3)) ∧ (decode cX10_isAside 33 = .ok (.aload_n 0, 1)) ∧ (decode cX10_isAside 34 = .ok (.bipush 8, 2)) ∧ (decode cX10_isAside 36 = .ok (.iload_n 2, 1)) ∧ (decode cX10_isAside 37 = .ok (.imul, 1)) ∧ (decode cX10_isAside 38 = .ok (.iload 5, 2)) ∧ (decode cX10_isAside 40 = .ok (.iadd, 1)) := by decide +kernel
theorem dX10_isAside_24 : decode cX10_isAside 24 = .ok (.iload_n 1, 1) := gX10_isAside_12.1
theorem dX10_isAside_25 : decode cX10_isAside 25 = .ok (.imul, 1) := gX10_isAside_12.2.1
theorem dX10_isAside_26 : decode cX10_isAside 26 = .ok (.iload 5, 2) := gX10_isAside_12.2.2.1
theorem dX10_isAside_28 : decode cX10_isAside 28 = .ok (.iadd, 1) := gX10_isAside_12.2.2.2.1
theorem dX10_isAside_29 : decode cX10_isAside 29 = .ok (.baload, 1) := gX10_isAside_12.2.2.2.2.1
theorem dX10_isAside_30 : decode cX10_isAside 30 = .ok (.ifCond .eq 27, 3) := gX10_isAside_12.2.2.2.2.2.1
theorem dX10_isAside_33 : decode cX10_isAside 33 = .ok (.aload_n 0, 1) := gX10_isAside_12.2.2.2.2.2.2.1
theorem dX10_isAside_34 : decode cX10_isAside 34 = .ok (.bipush 8, 2) := gX10_isAside_12.2.2.2.2.2.2.2.1
theorem dX10_isAside_36 : decode cX10_isAside 36 = .ok (.iload_n 2, 1) := gX10_isAside_12.2.2.2.2.2.2.2.2.1
theorem dX10_isAside_37 : decode cX10_isAside 37 = .ok (.imul, 1) := gX10_isAside_12.2.2.2.2.2.2.2.2.2.1
theorem dX10_isAside_38 : decode cX10_isAside 38 = .ok (.iload 5, 2) := gX10_isAside_12.2.2.2.2.2.2.2.2.2.2.1
theorem dX10_isAside_40 : decode cX10_isAside 40 = .ok (.iadd, 1) := gX10_isAside_12.2.2.2.2.2.2.2.2.2.2.2
theorem gX10_isAside_24 : (decode cX10_isAside 41 = .ok (.invokevirtual 197, 3)) ∧ (decode cX10_isAside 44 = .ok (.ifCond .eq 13, 3)) ∧ (decode cX10_isAside 47 = .ok (.iload 5, 2)) ∧ (decode cX10_isAside 49 = .ok (.iload_n 3, 1)) ∧ (decode cX10_isAside 50 = .ok (.if_icmp .eq 7, 3)) ∧ (decode cX10_isAside 53 = .ok (.iconst 1, 1)) ∧ (decode cX10_isAside 54 = .ok (.goto 4, 3)) ∧ (decode cX10_isAside 57 = .ok (.iconst 0, 1)) ∧ (decode cX10_isAside 58 = .ok (.istore 4, 2)) ∧ (decode cX10_isAside 60 = .ok (.iinc 5 1, 3)) ∧ (decode cX10_isAside 63 = .ok (.goto (-57), 3)) ∧ (decode cX10_isAside 66 = .ok (.iload 4, 2)) := by decide +kernel
theorem dX10_isAside_41 : decode cX10_isAside 41 = .ok (.invokevirtual 197, 3) := gX10_isAside_24.1
theorem dX10_isAside_44 : decode cX10_isAside 44 = .ok (.ifCond .eq 13, 3) := gX10_isAside_24.2.1
theorem dX10_isAside_47 : decode cX10_isAside 47 = .ok (.iload 5, 2) := gX10_isAside_24.2.2.1
theorem dX10_isAside_49 : decode cX10_isAside 49 = .ok (.iload_n 3, 1) := gX10_isAside_24.2.2.2.1
theorem dX10_isAside_50 : decode cX10_isAside 50 = .ok (.if_icmp .eq 7, 3) := gX10_isAside_24.2.2.2.2.1
theorem dX10_isAside_53 : decode cX10_isAside 53 = .ok (.iconst 1, 1) := gX10_isAside_24.2.2.2.2.2.1
theorem dX10_isAside_54 : decode cX10_isAside 54 = .ok (.goto 4, 3) := gX10_isAside_24.2.2.2.2.2.2.1
theorem dX10_isAside_57 : decode cX10_isAside 57 = .ok (.iconst 0, 1) := gX10_isAside_24.2.2.2.2.2.2.2.1
theorem dX10_isAside_58 : decode cX10_isAside 58 = .ok (.istore 4, 2) := gX10_isAside_24.2.2.2.2.2.2.2.2.1
theorem dX10_isAside_60 : decode cX10_isAside 60 = .ok (.iinc 5 1, 3) := gX10_isAside_24.2.2.2.2.2.2.2.2.2.1
theorem dX10_isAside_63 : decode cX10_isAside 63 = .ok (.goto (-57), 3) := gX10_isAside_24.2.2.2.2.2.2.2.2.2.2.1
theorem dX10_isAside_66 : decode cX10_isAside 66 = .ok (.iload 4, 2) := gX10_isAside_24.2.2.2.2.2.2.2.2.2.2.2
theorem gX10_isAside_36 : (decode cX10_isAside 68 = .ok (.ireturn, 1)) := by decide +kernel
theorem dX10_isAside_68 : decode cX10_isAside 68 = .ok (.ireturn, 1) := gX10_isAside_36
theorem gX10_findQuality_0 : (decode cX10_findQuality 0 = .ok (.aload_n 0, 1)) ∧ (decode cX10_findQuality 1 = .ok (.iconst 0, 1)) ∧ (decode cX10_findQuality 2 = .ok (.putfield 206, 3)) ∧ (decode cX10_findQuality 5 = .ok (.aload_n 0, 1)) ∧ (decode cX10_findQuality 6 = .ok (.iconst 0, 1)) ∧ (decode cX10_findQuality 7 = .ok (.putfield 209, 3)) ∧ (decode cX10_findQuality 10 = .ok (.bipush 101, 2)) ∧ (decode cX10_findQuality 12 = .ok (.istore_n 3, 1)) ∧ (decode cX10_findQuality 13 = .ok (.iconst (-1), 1)) ∧ (decode cX10_findQuality 14 = .ok (.istore 4, 2)) ∧ (decode cX10_findQuality 16 = .ok (.iconst 0, 1)) ∧ (decode cX10_findQuality 17 = .ok (.istore 5, 2)) := by decide +kernel
theorem dX10_findQuality_0 : decode cX10_findQuality 0 = .ok (.aload_n 0, 1) := gX10_findQuality_0.1
theorem dX10_findQuality_1 : decode cX10_findQuality 1 = .ok (.iconst 0, 1) := gX10_findQuality_0.2.1
theorem dX10_findQuality_2 : decode cX10_findQuality 2 = .ok (.putfield 206, 3) := gX10_findQuality_0.2.2.1
theorem dX10_findQuality_5 : decode cX10_findQuality 5 = .ok (.aload_n 0, 1) := gX10_findQuality_0.2.2.2.1
theorem dX10_findQuality_6 : decode cX10_findQuality 6 = .ok (.iconst 0, 1) := gX10_findQuality_0.2.2.2.2.1
theorem dX10_findQuality_7 : decode cX10_findQuality 7 = .ok (.putfield 209, 3) := gX10_findQuality_0.2.2.2.2.2.1
theorem dX10_findQuality_10 : decode cX10_findQuality 10 = .ok (.bipush 101, 2) := gX10_findQuality_0.2.2.2.2.2.2.1
theorem dX10_findQuality_12 : decode cX10_findQuality 12 = .ok (.istore_n 3, 1) := gX10_findQuality_0.2.2.2.2.2.2.2.1
theorem dX10_findQuality_13 : decode cX10_findQuality 13 = .ok (.iconst (-1), 1) := gX10_findQuality_0.2.2.2.2.2.2.2.2.1
theorem dX10_findQuality_14 : decode cX10_findQuality 14 = .ok (.istore 4, 2) := gX10_findQuality_0.2.2.2.2.2.2.2.2.2.1
theorem dX10_findQuality_16 : decode cX10_findQuality 16 = .ok (.iconst 0, 1) := gX10_findQuality_0.2.2.2.2.2.2.2.2.2.2.1
theorem dX10_findQuality_17 : decode cX10_findQuality 17 = .ok (.istore 5, 2) := gX10_findQuality_0.2.2.2.2.2.2.2.2.2.2.2
theorem gX10_findQuality_12 : (decode cX10_findQuality 19 = .ok (.iload 5, 2)) ∧ (decode cX10_findQuality 21 = .ok (.bipush 6, 2)) ∧ (decode cX10_findQuality 23 = .ok (.if_icmp .ge 92, 3)) ∧ (decode cX10_findQuality 26 = .ok (.aload_n 0, 1)) ∧ (decode cX10_findQuality 27 = .ok (.getfield 45, 3)) ∧ (decode cX10_findQuality 30 = .ok (.bipush 48, 2)) ∧ (decode cX10_findQuality 32 = .ok (.iload 5, 2)) ∧ (decode cX10_findQuality 34 = .ok (.imul, 1)) ∧ (decode cX10_findQuality 35 = .ok (.iload_n 1, 1)) ∧ (decode cX10_findQuality 36 = .ok (.iadd, 1)) ∧ (decode cX10_findQuality 37 = .ok (.iaload, 1)) ∧ (decode cX10_findQuality 38 = .ok (.istore 6, 2)) := by decide +kernel
theorem dX10_findQuality_19 : decode cX10_findQuality 19 = .ok (.iload 5, 2) := gX10_findQuality_12.1
theorem dX10_findQuality_21 : decode cX10_findQuality 21 = .ok (.bipush 6, 2) := gX10_findQuality_12.2.1
theorem dX10_findQuality_23 : decode cX10_findQuality 23 = .ok (.if_icmp .ge 92, 3) := gX10_findQuality_12.2.2.1
theorem dX10_findQuality_26 : decode cX10_findQuality 26 = .ok (.aload_n 0, 1) := gX10_findQuality_12.2.2.2.1
theorem dX10_findQuality_27 : decode cX10_findQuality 27 = .ok (.getfield 45, 3) := gX10_findQuality_12.2.2.2.2.1
theorem dX10_findQuality_30 : decode cX10_findQuality 30 = .ok (.bipush 48, 2) := gX10_findQuality_12.2.2.2.2.2.1
theorem dX10_findQuality_32 : decode cX10_findQuality 32 = .ok (.iload 5, 2) := gX10_findQuality_12.2.2.2.2.2.2.1
theorem dX10_findQuality_34 : decode cX10_findQuality 34 = .ok (.imul, 1) := gX10_findQuality_12.2.2.2.2.2.2.2.1
theorem dX10_findQuality_35 : decode cX10_findQuality 35 = .ok (.iload_n 1, 1) := gX10_findQuality_12.2.2.2.2.2.2.2.2.1
theorem dX10_findQuality_36 : decode cX10_findQuality 36 = .ok (.iadd, 1) := gX10_findQuality_12.2.2.2.2.2.2.2.2.2.1
theorem dX10_findQuality_37 : decode cX10_findQuality 37 = .ok (.iaload, 1) := gX10_findQuality_12.2.2.2.2.2.2.2.2.2.2.1
theorem dX10_findQuality_38 : decode cX10_findQuality 38 = .ok (.istore 6, 2) := gX10_findQuality_12.2.2.2.2.2.2.2.2.2.2.2
theorem gX10_findQuality_24 : (decode cX10_findQuality 40 = .ok (.iload 6, 2)) ∧ (decode cX10_findQuality 42 = .ok (.ifCond .lt 67, 3)) ∧ (decode cX10_findQuality 45 = .ok (.aload_n 0, 1)) ∧ (decode cX10_findQuality 46 = .ok (.iload 5, 2)) ∧ (decode cX10_findQuality 48 = .ok (.iload_n 1, 1)) ∧ (decode cX10_findQuality 49 = .ok (.bipush 8, 2)) ∧ (decode cX10_findQuality 51 = .ok (.idiv, 1)) ∧ (decode cX10_findQuality 52 = .ok (.iload_n 2, 1)) ∧ (decode cX10_findQuality 53 = .ok (.invokevirtual 212, 3)) ∧ (decode cX10_findQuality 56 = .ok (.ifCond .ne 53, 3)) ∧ (decode cX10_findQuality 59 = .ok (.aload_n 0, 1)) ∧ (decode cX10_findQuality 60 = .ok (.dup, 1)) := by decide +kernel
theorem dX10_findQuality_40 : decode cX10_findQuality 40 = .ok (.iload 6, 2) := gX10_findQuality_24.1
theorem dX10_findQuality_42 : decode cX10_findQuality 42 = .ok (.ifCond .lt 67, 3) := gX10_findQuality_24.2.1
theorem dX10_findQuality_45 : decode cX10_findQuality 45 = .ok (.aload_n 0, 1) := gX10_findQuality_24.2.2.1
theorem dX10_findQuality_46 : decode cX10_findQuality 46 = .ok (.iload 5, 2) := gX10_findQuality_24.2.2.2.1
theorem dX10_findQuality_48 : decode cX10_findQuality 48 = .ok (.iload_n 1, 1) := gX10_findQuality_24.2.2.2.2.1
theorem dX10_findQuality_49 : decode cX10_findQuality 49 = .ok (.bipush 8, 2) := gX10_findQuality_24.2.2.2.2.2.1
theorem dX10_findQuality_51 : decode cX10_findQuality 51 = .ok (.idiv, 1) := gX10_findQuality_24.2.2.2.2.2.2.1
theorem dX10_findQuality_52 : decode cX10_findQuality 52 = .ok (.iload_n 2, 1) := gX10_findQuality_24.2.2.2.2.2.2.2.1
theorem dX10_findQuality_53 : decode cX10_findQuality 53 = .ok (.invokevirtual 212, 3) := gX10_findQuality_24.2.2.2.2.2.2.2.2.1
theorem dX10_findQuality_56 : decode cX10_findQuality 56 = .ok (.ifCond .ne 53, 3) := gX10_findQuality_24.2.2.2.2.2.2.2.2.2.1
theorem dX10_findQuality_59 : decode cX10_findQuality 59 = .ok (.aload_n 0, 1) := gX10_findQuality_24.2.2.2.2.2.2.2.2.2.2.1
theorem dX10_findQuality_60 : decode cX10_findQuality 60 = .ok (.dup, 1) := gX10_findQuality_24.2.2.2.2.2.2.2.2.2.2.2
theorem gX10_findQuality_36 : (decode cX10_findQuality 61 = .ok (.getfield 206, 3)) ∧ (decode cX10_findQuality 64 = .ok (.iload 6, 2)) ∧ (decode cX10_findQuality 66 = .ok (.iadd, 1)) ∧ (decode cX10_findQuality 67 = .ok (.putfield 206, 3)) ∧ (decode cX10_findQuality 70 = .ok (.aload_n 0, 1)) ∧ (decode cX10_findQuality 71 = .ok (.dup, 1)) ∧ (decode cX10_findQuality 72 = .ok (.getfield 209, 3)) ∧ (decode cX10_findQuality 75 = .ok (.iconst 1, 1)) ∧ (decode cX10_findQuality 76 = .ok (.iadd, 1)) ∧ (decode cX10_findQuality 77 = .ok (.putfield 209, 3)) ∧ (decode cX10_findQuality 80 = .ok (.iload 6, 2)) ∧ (decode cX10_findQuality 82 = .ok (.iload_n 3, 1)) := by decide +kernel
theorem dX10_findQuality_61 : decode cX10_findQuality 61 = .ok (.getfield 206, 3) := gX10_findQuality_36.1
theorem dX10_findQuality_64 : decode cX10_findQuality 64 = .ok (.iload 6, 2) := gX10_findQuality_36.2.1
theorem dX10_findQuality_66 : decode cX10_findQuality 66 = .ok (.iadd, 1) := gX10_findQuality_36.2.2.1
theorem dX10_findQuality_67 : decode cX10_findQuality 67 = .ok (.putfield 206, 3) := gX10_findQuality_36.2.2.2.1
theorem dX10_findQuality_70 : decode cX10_findQuality 70 = .ok (.aload_n 0, 1) := gX10_findQuality_36.2.2.2.2.1
theorem dX10_findQuality_71 : decode cX10_findQuality 71 = .ok (.dup, 1) := gX10_findQuality_36.2.2.2.2.2.1
theorem dX10_findQuality_72 : decode cX10_findQuality 72 = .ok (.getfield 209, 3) := gX10_findQuality_36.2.2.2.2.2.2.1
theorem dX10_findQuality_75 : decode cX10_findQuality 75 = .ok (.iconst 1, 1) := gX10_findQuality_36.2.2.2.2.2.2.2.1
theorem dX10_findQuality_76 : decode cX10_findQuality 76 = .ok (.iadd, 1) := gX10_findQuality_36.2.2.2.2.2.2.2.2.1
theorem dX10_findQuality_77 : decode cX10_findQuality 77 = .ok (.putfield 209, 3) := gX10_findQuality_36.2.2.2.2.2.2.2.2.2.1
theorem dX10_findQuality_80 : decode cX10_findQuality 80 = .ok (.iload 6, 2) := gX10_findQuality_36.2.2.2.2.2.2.2.2.2.2.1
theorem dX10_findQuality_82 : decode cX10_findQuality 82 = .ok (.iload_n 3, 1) := gX10_findQuality_36.2.2.2.2.2.2.2.2.2.2.2
theorem gX10_findQuality_48 : (decode cX10_findQuality 83 = .ok (.if_icmp .ge 8, 3)) ∧ (decode cX10_findQuality 86 = .ok (.iload 6, 2)) ∧ (decode cX10_findQuality 88 = .ok (.goto 4, 3)) ∧ (decode cX10_findQuality 91 = .ok (.iload_n 3, 1)) ∧ (decode cX10_findQuality 92 = .ok (.istore_n 3, 1)) ∧ (decode cX10_findQuality 93 = .ok (.iload 6, 2)) ∧ (decode cX10_findQuality 95 = .ok (.iload 4, 2)) ∧ (decode cX10_findQuality 97 = .ok (.if_icmp .le 8, 3)) ∧ (decode cX10_findQuality 100 = .ok (.iload 6, 2)) ∧ (decode cX10_findQuality 102 = .ok (.goto 5, 3)) ∧ (decode cX10_findQuality 105 = .ok (.iload 4, 2)) ∧ (decode cX10_findQuality 107 = .ok (.istore 4, 2)) := by decide +kernel
theorem dX10_findQuality_83 : decode cX10_findQuality 83 = .ok (.if_icmp .ge 8, 3) := gX10_findQuality_48.1
theorem dX10_findQuality_86 : decode cX10_findQuality 86 = .ok (.iload 6, 2) := gX10_findQuality_48.2.1
theorem dX10_findQuality_88 : decode cX10_findQuality 88 = .ok (.goto 4, 3) := gX10_findQuality_48.2.2.1
theorem dX10_findQuality_91 : decode cX10_findQuality 91 = .ok (.iload_n 3, 1) := gX10_findQuality_48.2.2.2.1
theorem dX10_findQuality_92 : decode cX10_findQuality 92 = .ok (.istore_n 3, 1) := gX10_findQuality_48.2.2.2.2.1
theorem dX10_findQuality_93 : decode cX10_findQuality 93 = .ok (.iload 6, 2) := gX10_findQuality_48.2.2.2.2.2.1
theorem dX10_findQuality_95 : decode cX10_findQuality 95 = .ok (.iload 4, 2) := gX10_findQuality_48.2.2.2.2.2.2.1
theorem dX10_findQuality_97 : decode cX10_findQuality 97 = .ok (.if_icmp .le 8, 3) := gX10_findQuality_48.2.2.2.2.2.2.2.1
theorem dX10_findQuality_100 : decode cX10_findQuality 100 = .ok (.iload 6, 2) := gX10_findQuality_48.2.2.2.2.2.2.2.2.1
theorem dX10_findQuality_102 : decode cX10_findQuality 102 = .ok (.goto 5, 3) := gX10_findQuality_48.2.2.2.2.2.2.2.2.2.1
theorem dX10_findQuality_105 : decode cX10_findQuality 105 = .ok (.iload 4, 2) := gX10_findQuality_48.2.2.2.2.2.2.2.2.2.2.1
theorem dX10_findQuality_107 : decode cX10_findQuality 107 = .ok (.istore 4, 2) := gX10_findQuality_48.2.2.2.2.2.2.2.2.2.2.2
theorem gX10_findQuality_60 : (decode cX10_findQuality 109 = .ok (.iinc 5 1, 3)) ∧ (decode cX10_findQuality 112 = .ok (.goto (-93), 3)) ∧ (decode cX10_findQuality 115 = .ok (.aload_n 0, 1)) ∧ (decode cX10_findQuality 116 = .ok (.getfield 209, 3)) ∧ (decode cX10_findQuality 119 = .ok (.iconst 4, 1)) ∧ (decode cX10_findQuality 120 = .ok (.if_icmp .lt 26, 3)) ∧ (decode cX10_findQuality 123 = .ok (.aload_n 0, 1)) ∧ (decode cX10_findQuality 124 = .ok (.dup, 1)) ∧ (decode cX10_findQuality 125 = .ok (.getfield 206, 3)) ∧ (decode cX10_findQuality 128 = .ok (.iload_n 3, 1)) ∧ (decode cX10_findQuality 129 = .ok (.iload 4, 2)) ∧ (decode cX10_findQuality 131 = .ok (.iadd, 1)) := by decide +kernel
theorem dX10_findQuality_109 : decode cX10_findQuality 109 = .ok (.iinc 5 1, 3) := gX10_findQuality_60.1
theorem dX10_findQuality_112 : decode cX10_findQuality 112 = .ok (.goto (-93), 3) := gX10_findQuality_60.2.1
theorem dX10_findQuality_115 : decode cX10_findQuality 115 = .ok (.aload_n 0, 1) := gX10_findQuality_60.2.2.1
theorem dX10_findQuality_116 : decode cX10_findQuality 116 = .ok (.getfield 209, 3) := gX10_findQuality_60.2.2.2.1
theorem dX10_findQuality_119 : decode cX10_findQuality 119 = .ok (.iconst 4, 1) := gX10_findQuality_60.2.2.2.2.1
theorem dX10_findQuality_120 : decode cX10_findQuality 120 = .ok (.if_icmp .lt 26, 3) := gX10_findQuality_60.2.2.2.2.2.1
theorem dX10_findQuality_123 : decode cX10_findQuality 123 = .ok (.aload_n 0, 1) := gX10_findQuality_60.2.2.2.2.2.2.1
theorem dX10_findQuality_124 : decode cX10_findQuality 124 = .ok (.dup, 1) := gX10_findQuality_60.2.2.2.2.2.2.2.1
theorem dX10_findQuality_125 : decode cX10_findQuality 125 = .ok (.getfield 206, 3) := gX10_findQuality_60.2.2.2.2.2.2.2.2.1
theorem dX10_findQuality_128 : decode cX10_findQuality 128 = .ok (.iload_n 3, 1) := gX10_findQuality_60.2.2.2.2.2.2.2.2.2.1
theorem dX10_findQuality_129 : decode cX10_findQuality 129 = .ok (.iload 4, 2) := gX10_findQuality_60.2.2.2.2.2.2.2.2.2.2.1
theorem dX10_findQuality_131 : decode cX10_findQuality 131 = .ok (.iadd, 1) := gX10_findQuality_60.2.2.2.2.2.2.2.2.2.2.2
theorem gX10_findQuality_72 : (decode cX10_findQuality 132 = .ok (.isub, 1)) ∧ (decode cX10_findQuality 133 = .ok (.putfield 206, 3)) ∧ (decode cX10_findQuality 136 = .ok (.aload_n 0, 1)) ∧ (decode cX10_findQuality 137 = .ok (.dup, 1)) ∧ (decode cX10_findQuality 138 = .ok (.getfield 209, 3)) ∧ (decode cX10_findQuality 141 = .ok (.iconst 2, 1)) ∧ (decode cX10_findQuality 142 = .ok (.isub, 1)) ∧ (decode cX10_findQuality 143 = .ok (.putfield 209, 3)) ∧ (decode cX10_findQuality 146 = .ok (.aload_n 0, 1)) ∧ (decode cX10_findQuality 147 = .ok (.aload_n 0, 1)) ∧ (decode cX10_findQuality 148 = .ok (.getfield 209, 3)) ∧ (decode cX10_findQuality 151 = .ok (.ifCond .ne 7, 3)) := by decide +kernel
theorem dX10_findQuality_132 : decode cX10_findQuality 132 = .ok (.isub, 1) := gX10_findQuality_72.1
theorem dX10_findQuality_133 : decode cX10_findQuality 133 = .ok (.putfield 206, 3) := gX10_findQuality_72.2.1
theorem dX10_findQuality_136 : decode cX10_findQuality 136 = .ok (.aload_n 0, 1) := gX10_findQuality_72.2.2.1
theorem dX10_findQuality_137 : decode cX10_findQuality 137 = .ok (.dup, 1) := gX10_findQuality_72.2.2.2.1
theorem dX10_findQuality_138 : decode cX10_findQuality 138 = .ok (.getfield 209, 3) := gX10_findQuality_72.2.2.2.2.1
theorem dX10_findQuality_141 : decode cX10_findQuality 141 = .ok (.iconst 2, 1) := gX10_findQuality_72.2.2.2.2.2.1
theorem dX10_findQuality_142 : decode cX10_findQuality 142 = .ok (.isub, 1) := gX10_findQuality_72.2.2.2.2.2.2.1
theorem dX10_findQuality_143 : decode cX10_findQuality 143 = .ok (.putfield 209, 3) := gX10_findQuality_72.2.2.2.2.2.2.2.1
theorem dX10_findQuality_146 : decode cX10_findQuality 146 = .ok (.aload_n 0, 1) := gX10_findQuality_72.2.2.2.2.2.2.2.2.1
theorem dX10_findQuality_147 : decode cX10_findQuality 147 = .ok (.aload_n 0, 1) := gX10_findQuality_72.2.2.2.2.2.2.2.2.2.1
theorem dX10_findQuality_148 : decode cX10_findQuality 148 = .ok (.getfield 209, 3) := gX10_findQuality_72.2.2.2.2.2.2.2.2.2.2.1
theorem dX10_findQuality_151 : decode cX10_findQuality 151 = .ok (.ifCond .ne 7, 3) := gX10_findQuality_72.2.2.2.2.2.2.2.2.2.2.2
theorem gX10_findQuality_84 : (decode cX10_findQuality 154 = .ok (.iconst 1, 1)) ∧ (decode cX10_findQuality 155 = .ok (.goto 7, 3)) ∧ (decode cX10_findQuality 158 = .ok (.aload_n 0, 1)) ∧ (decode cX10_findQuality 159 = .ok (.getfield 209, 3)) ∧ (decode cX10_findQuality 162 = .ok (.putfield 209, 3)) ∧ (decode cX10_findQuality 165 = .ok (.return_, 1)) := by decide +kernel
theorem dX10_findQuality_154 : decode cX10_findQuality 154 = .ok (.iconst 1, 1) := gX10_findQuality_84.1
theorem dX10_findQuality_155 : decode cX10_findQuality 155 = .ok (.goto 7, 3) := gX10_findQuality_84.2.1
theorem dX10_findQuality_158 : decode cX10_findQuality 158 = .ok (.aload_n 0, 1) := gX10_findQuality_84.2.2.1
theorem dX10_findQuality_159 : decode cX10_findQuality 159 = .ok (.getfield 209, 3) := gX10_findQuality_84.2.2.2.1
theorem dX10_findQuality_162 : decode cX10_findQuality 162 = .ok (.putfield 209, 3) := gX10_findQuality_84.2.2.2.2.1
theorem dX10_findQuality_165 : decode cX10_findQuality 165 = .ok (.return_, 1) := gX10_findQuality_84.2.2.2.2.2
theorem gX10_divisor_0 : (decode cX10_divisor 0 = .ok (.lload_n 0, 1)) ∧ (decode cX10_divisor 1 = .ok (.lconst 0, 1)) ∧ (decode cX10_divisor 2 = .ok (.lcmp, 1)) ∧ (decode cX10_divisor 3 = .ok (.ifCond .ge 8, 3)) ∧ (decode cX10_divisor 6 = .ok (.lload_n 0, 1)) ∧ (decode cX10_divisor 7 = .ok (.lneg, 1)) ∧ (decode cX10_divisor 8 = .ok (.goto 4, 3)) ∧ (decode cX10_divisor 11 = .ok (.lload_n 0, 1)) ∧ (decode cX10_divisor 12 = .ok (.lstore 4, 2)) ∧ (decode cX10_divisor 14 = .ok (.lload_n 2, 1)) ∧ (decode cX10_divisor 15 = .ok (.lstore 6, 2)) ∧ (decode cX10_divisor 17 = .ok (.lload 6, 2)) := by decide +kernel
theorem dX10_divisor_0 : decode cX10_divisor 0 = .ok (.lload_n 0, 1) := gX10_divisor_0.1
theorem dX10_divisor_1 : decode cX10_divisor 1 = .ok (.lconst 0, 1) := gX10_divisor_0.2.1
theorem dX10_divisor_2 : decode cX10_divisor 2 = .ok (.lcmp, 1) := gX10_divisor_0.2.2.1
theorem dX10_divisor_3 : decode cX10_divisor 3 = .ok (.ifCond .ge 8, 3) := gX10_divisor_0.2.2.2.1
theorem dX10_divisor_6 : decode cX10_divisor 6 = .ok (.lload_n 0, 1) := gX10_divisor_0.2.2.2.2.1
theorem dX10_divisor_7 : decode cX10_divisor 7 = .ok (.lneg, 1) := gX10_divisor_0.2.2.2.2.2.1
theorem dX10_divisor_8 : decode cX10_divisor 8 = .ok (.goto 4, 3) := gX10_divisor_0.2.2.2.2.2.2.1
theorem dX10_divisor_11 : decode cX10_divisor 11 = .ok (.lload_n 0, 1) := gX10_divisor_0.2.2.2.2.2.2.2.1
theorem dX10_divisor_12 : decode cX10_divisor 12 = .ok (.lstore 4, 2) := gX10_divisor_0.2.2.2.2.2.2.2.2.1
theorem dX10_divisor_14 : decode cX10_divisor 14 = .ok (.lload_n 2, 1) := gX10_divisor_0.2.2.2.2.2.2.2.2.2.1
theorem dX10_divisor_15 : decode cX10_divisor 15 = .ok (.lstore 6, 2) := gX10_divisor_0.2.2.2.2.2.2.2.2.2.2.1
theorem dX10_divisor_17 : decode cX10_divisor 17 = .ok (.lload 6, 2) := gX10_divisor_0.2.2.2.2.2.2.2.2.2.2.2
theorem gX10_divisor_12 : (decode cX10_divisor 19 = .ok (.lconst 0, 1)) ∧ (decode cX10_divisor 20 = .ok (.lcmp, 1)) ∧ (decode cX10_divisor 21 = .ok (.ifCond .eq 21, 3)) ∧ (decode cX10_divisor 24 = .ok (.lload 4, 2)) ∧ (decode cX10_divisor 26 = .ok (.lload 6, 2)) ∧ (decode cX10_divisor 28 = .ok (.lrem, 1)) ∧ (decode cX10_divisor 29 = .ok (.lstore 8, 2)) ∧ (decode cX10_divisor 31 = .ok (.lload 6, 2)) ∧ (decode cX10_divisor 33 = .ok (.lstore 4, 2)) ∧ (decode cX10_divisor 35 = .ok (.lload 8, 2)) ∧ (decode cX10_divisor 37 = .ok (.lstore 6, 2)) ∧ (decode cX10_divisor 39 = .ok (.goto (-22), 3)) := by decide +kernel
theorem dX10_divisor_19 : decode cX10_divisor 19 = .ok (.lconst 0, 1) := gX10_divisor_12.1
theorem dX10_divisor_20 : decode cX10_divisor 20 = .ok (.lcmp, 1) := gX10_divisor_12.2.1
theorem dX10_divisor_21 : decode cX10_divisor 21 = .ok (.ifCond .eq 21, 3) := gX10_divisor_12.2.2.1
theorem dX10_divisor_24 : decode cX10_divisor 24 = .ok (.lload 4, 2) := gX10_divisor_12.2.2.2.1
theorem dX10_divisor_26 : decode cX10_divisor 26 = .ok (.lload 6, 2) := gX10_divisor_12.2.2.2.2.1
theorem dX10_divisor_28 : decode cX10_divisor 28 = .ok (.lrem, 1) := gX10_divisor_12.2.2.2.2.2.1
theorem dX10_divisor_29 : decode cX10_divisor 29 = .ok (.lstore 8, 2) := gX10_divisor_12.2.2.2.2.2.2.1
theorem dX10_divisor_31 : decode cX10_divisor 31 = .ok (.lload 6, 2) := gX10_divisor_12.2.2.2.2.2.2.2.1
theorem dX10_divisor_33 : decode cX10_divisor 33 = .ok (.lstore 4, 2) := gX10_divisor_12.2.2.2.2.2.2.2.2.1
theorem dX10_divisor_35 : decode cX10_divisor 35 = .ok (.lload 8, 2) := gX10_divisor_12.2.2.2.2.2.2.2.2.2.1
theorem dX10_divisor_37 : decode cX10_divisor 37 = .ok (.lstore 6, 2) := gX10_divisor_12.2.2.2.2.2.2.2.2.2.2.1
theorem dX10_divisor_39 : decode cX10_divisor 39 = .ok (.goto (-22), 3) := gX10_divisor_12.2.2.2.2.2.2.2.2.2.2.2
theorem gX10_divisor_24 : (decode cX10_divisor 42 = .ok (.lload 4, 2)) ∧ (decode cX10_divisor 44 = .ok (.lreturn, 1)) := by decide +kernel
theorem dX10_divisor_42 : decode cX10_divisor 42 = .ok (.lload 4, 2) := gX10_divisor_24.1
theorem dX10_divisor_44 : decode cX10_divisor 44 = .ok (.lreturn, 1) := gX10_divisor_24.2
theorem gX10_quality_0 : (decode cX10_quality 0 = .ok (.iload_n 1, 1)) ∧ (decode cX10_quality 1 = .ok (.invokestatic 166, 3)) ∧ (decode cX10_quality 4 = .ok (.ifCond .eq 11, 3)) ∧ (decode cX10_quality 7 = .ok (.aload_n 0, 1)) ∧ (decode cX10_quality 8 = .ok (.iload_n 2, 1)) ∧ (decode cX10_quality 9 = .ok (.invokevirtual 170, 3)) ∧ (decode cX10_quality 12 = .ok (.ifCond .ne 9, 3)) ∧ (decode cX10_quality 15 = .ok (.aload_n 0, 1)) ∧ (decode cX10_quality 16 = .ok (.iconst (-1), 1)) ∧ (decode cX10_quality 17 = .ok (.invokevirtual 151, 3)) ∧ (decode cX10_quality 20 = .ok (.ireturn, 1)) ∧ (decode cX10_quality 21 = .ok (.iload_n 3, 1)) := by decide +kernel
theorem dX10_quality_0 : decode cX10_quality 0 = .ok (.iload_n 1, 1) := gX10_quality_0.1
theorem dX10_quality_1 : decode cX10_quality 1 = .ok (.invokestatic 166, 3) := gX10_quality_0.2.1
theorem dX10_quality_4 : decode cX10_quality 4 = .ok (.ifCond .eq 11, 3) := gX10_quality_0.2.2.1
theorem dX10_quality_7 : decode cX10_quality 7 = .ok (.aload_n 0, 1) := gX10_quality_0.2.2.2.1
theorem dX10_quality_8 : decode cX10_quality 8 = .ok (.iload_n 2, 1) := gX10_quality_0.2.2.2.2.1
theorem dX10_quality_9 : decode cX10_quality 9 = .ok (.invokevirtual 170, 3) := gX10_quality_0.2.2.2.2.2.1
theorem dX10_quality_12 : decode cX10_quality 12 = .ok (.ifCond .ne 9, 3) := gX10_quality_0.2.2.2.2.2.2.1
theorem dX10_quality_15 : decode cX10_quality 15 = .ok (.aload_n 0, 1) := gX10_quality_0.2.2.2.2.2.2.2.1
theorem dX10_quality_16 : decode cX10_quality 16 = .ok (.iconst (-1), 1) := gX10_quality_0.2.2.2.2.2.2.2.2.1
theorem dX10_quality_17 : decode cX10_quality 17 = .ok (.invokevirtual 151, 3) := gX10_quality_0.2.2.2.2.2.2.2.2.2.1
theorem dX10_quality_20 : decode cX10_quality 20 = .ok (.ireturn, 1) := gX10_quality_0.2.2.2.2.2.2.2.2.2.2.1
theorem dX10_quality_21 : decode cX10_quality 21 = .ok (.iload_n 3, 1) := gX10_quality_0.2.2.2.2.2.2.2.2.2.2.2
theorem gX10_quality_12 : (decode cX10_quality 22 = .ok (.iconst 0, 1)) ∧ (decode cX10_quality 23 = .ok (.iconst 1, 1)) ∧ (decode cX10_quality 24 = .ok (.invokestatic 144, 3)) ∧ (decode cX10_quality 27 = .ok (.ifCond .ne 10, 3)) ∧ (decode cX10_quality 30 = .ok (.aload_n 0, 1)) ∧ (decode cX10_quality 31 = .ok (.bipush (-2), 2)) ∧ (decode cX10_quality 33 = .ok (.invokevirtual 151, 3)) ∧ (decode cX10_quality 36 = .ok (.ireturn, 1)) ∧ (decode cX10_quality 37 = .ok (.aload_n 0, 1)) ∧ (decode cX10_quality 38 = .ok (.getfield 20, 3)) ∧ (decode cX10_quality 41 = .ok (.bipush 8, 2)) ∧ (decode cX10_quality 43 = .ok (.iload_n 2, 1)) := by decide +kernel
theorem dX10_quality_22 : decode cX10_quality 22 = .ok (.iconst 0, 1) := gX10_quality_12.1
theorem dX10_quality_23 : decode cX10_quality 23 = .ok (.iconst 1, 1) := gX10_quality_12.2.1
theorem dX10_quality_24 : decode cX10_quality 24 = .ok (.invokestatic 144, 3) := gX10_quality_12.2.2.1
theorem dX10_quality_27 : decode cX10_quality 27 = .ok (.ifCond .ne 10, 3) := gX10_quality_12.2.2.2.1
theorem dX10_quality_30 : decode cX10_quality 30 = .ok (.aload_n 0, 1) := gX10_quality_12.2.2.2.2.1
theorem dX10_quality_31 : decode cX10_quality 31 = .ok (.bipush (-2), 2) := gX10_quality_12.2.2.2.2.2.1
theorem dX10_quality_33 : decode cX10_quality 33 = .ok (.invokevirtual 151, 3) := gX10_quality_12.2.2.2.2.2.2.1
theorem dX10_quality_36 : decode cX10_quality 36 = .ok (.ireturn, 1) := gX10_quality_12.2.2.2.2.2.2.2.1
theorem dX10_quality_37 : decode cX10_quality 37 = .ok (.aload_n 0, 1) := gX10_quality_12.2.2.2.2.2.2.2.2.1
theorem dX10_quality_38 : decode cX10_quality 38 = .ok (.getfield 20, 3) := gX10_quality_12.2.2.2.2.2.2.2.2.2.1
theorem dX10_quality_41 : decode cX10_quality 41 = .ok (.bipush 8, 2) := gX10_quality_12.2.2.2.2.2.2.2.2.2.2.1
theorem dX10_quality_43 : decode cX10_quality 43 = .ok (.iload_n 2, 1) := gX10_quality_12.2.2.2.2.2.2.2.2.2.2.2
theorem gX10_quality_24 : (decode cX10_quality 44 = .ok (.imul, 1)) ∧ (decode cX10_quality 45 = .ok (.iload_n 1, 1)) ∧ (decode cX10_quality 46 = .ok (.iadd, 1)) ∧ (decode cX10_quality 47 = .ok (.baload, 1)) ∧ (decode cX10_quality 48 = .ok (.ifCond .ne 10, 3)) ∧ (decode cX10_quality 51 = .ok (.aload_n 0, 1)) ∧ (decode cX10_quality 52 = .ok (.bipush (-5), 2)) ∧ (decode cX10_quality 54 = .ok (.invokevirtual 151, 3)) ∧ (decode cX10_quality 57 = .ok (.ireturn, 1)) ∧ (decode cX10_quality 58 = .ok (.aload_n 0, 1)) ∧ (decode cX10_quality 59 = .ok (.bipush 8, 2)) ∧ (decode cX10_quality 61 = .ok (.iload_n 2, 1)) := by decide +kernel
theorem dX10_quality_44 : decode cX10_quality 44 = .ok (.imul, 1) := gX10_quality_24.1
theorem dX10_quality_45 : decode cX10_quality 45 = .ok (.iload_n 1, 1) := gX10_quality_24.2.1
theorem dX10_quality_46 : decode cX10_quality 46 = .ok (.iadd, 1) := gX10_quality_24.2.2.1
theorem dX10_quality_47 : decode cX10_quality 47 = .ok (.baload, 1) := gX10_quality_24.2.2.2.1
theorem dX10_quality_48 : decode cX10_quality 48 = .ok (.ifCond .ne 10, 3) := gX10_quality_24.2.2.2.2.1
theorem dX10_quality_51 : decode cX10_quality 51 = .ok (.aload_n 0, 1) := gX10_quality_24.2.2.2.2.2.1
theorem dX10_quality_52 : decode cX10_quality 52 = .ok (.bipush (-5), 2) := gX10_quality_24.2.2.2.2.2.2.1
theorem dX10_quality_54 : decode cX10_quality 54 = .ok (.invokevirtual 151, 3) := gX10_quality_24.2.2.2.2.2.2.2.1
theorem dX10_quality_57 : decode cX10_quality 57 = .ok (.ireturn, 1) := gX10_quality_24.2.2.2.2.2.2.2.2.1
theorem dX10_quality_58 : decode cX10_quality 58 = .ok (.aload_n 0, 1) := gX10_quality_24.2.2.2.2.2.2.2.2.2.1
theorem dX10_quality_59 : decode cX10_quality 59 = .ok (.bipush 8, 2) := gX10_quality_24.2.2.2.2.2.2.2.2.2.2.1
theorem dX10_quality_61 : decode cX10_quality 61 = .ok (.iload_n 2, 1) := gX10_quality_24.2.2.2.2.2.2.2.2.2.2.2
theorem gX10_quality_36 : (decode cX10_quality 62 = .ok (.imul, 1)) ∧ (decode cX10_quality 63 = .ok (.iload_n 1, 1)) ∧ (decode cX10_quality 64 = .ok (.iadd, 1)) ∧ (decode cX10_quality 65 = .ok (.iconst (-1), 1)) ∧ (decode cX10_quality 66 = .ok (.invokevirtual 215, 3)) ∧ (decode cX10_quality 69 = .ok (.aload_n 0, 1)) ∧ (decode cX10_quality 70 = .ok (.getfield 206, 3)) ∧ (decode cX10_quality 73 = .ok (.i2l, 1)) ∧ (decode cX10_quality 74 = .ok (.aload_n 0, 1)) ∧ (decode cX10_quality 75 = .ok (.getfield 209, 3)) ∧ (decode cX10_quality 78 = .ok (.i2l, 1)) ∧ (decode cX10_quality 79 = .ok (.invokestatic 219, 3)) := by decide +kernel
theorem dX10_quality_62 : decode cX10_quality 62 = .ok (.imul, 1) := gX10_quality_36.1
theorem dX10_quality_63 : decode cX10_quality 63 = .ok (.iload_n 1, 1) := gX10_quality_36.2.1
theorem dX10_quality_64 : decode cX10_quality 64 = .ok (.iadd, 1) := gX10_quality_36.2.2.1
theorem dX10_quality_65 : decode cX10_quality 65 = .ok (.iconst (-1), 1) := gX10_quality_36.2.2.2.1
theorem dX10_quality_66 : decode cX10_quality 66 = .ok (.invokevirtual 215, 3) := gX10_quality_36.2.2.2.2.1
theorem dX10_quality_69 : decode cX10_quality 69 = .ok (.aload_n 0, 1) := gX10_quality_36.2.2.2.2.2.1
theorem dX10_quality_70 : decode cX10_quality 70 = .ok (.getfield 206, 3) := gX10_quality_36.2.2.2.2.2.2.1
theorem dX10_quality_73 : decode cX10_quality 73 = .ok (.i2l, 1) := gX10_quality_36.2.2.2.2.2.2.2.1
theorem dX10_quality_74 : decode cX10_quality 74 = .ok (.aload_n 0, 1) := gX10_quality_36.2.2.2.2.2.2.2.2.1
theorem dX10_quality_75 : decode cX10_quality 75 = .ok (.getfield 209, 3) := gX10_quality_36.2.2.2.2.2.2.2.2.2.1
theorem dX10_quality_78 : decode cX10_quality 78 = .ok (.i2l, 1) := gX10_quality_36.2.2.2.2.2.2.2.2.2.2.1
theorem dX10_quality_79 : decode cX10_quality 79 = .ok (.invokestatic 219, 3) := gX10_quality_36.2.2.2.2.2.2.2.2.2.2.2
theorem gX10_quality_48 : (decode cX10_quality 82 = .ok (.l2i, 1)) ∧ (decode cX10_quality 83 = .ok (.istore 4, 2)) ∧ (decode cX10_quality 85 = .ok (.iload_n 3, 1)) ∧ (decode cX10_quality 86 = .ok (.ifCond .ne 13, 3)) ∧ (decode cX10_quality 89 = .ok (.aload_n 0, 1)) ∧ (decode cX10_quality 90 = .ok (.getfield 206, 3)) ∧ (decode cX10_quality 93 = .ok (.iload 4, 2)) ∧ (decode cX10_quality 95 = .ok (.idiv, 1)) ∧ (decode cX10_quality 96 = .ok (.goto 10, 3)) ∧ (decode cX10_quality 99 = .ok (.aload_n 0, 1)) ∧ (decode cX10_quality 100 = .ok (.getfield 209, 3)) ∧ (decode cX10_quality 103 = .ok (.iload 4, 2)) := by decide +kernel
theorem dX10_quality_82 : decode cX10_quality 82 = .ok (.l2i, 1) := gX10_quality_48.1
theorem dX10_quality_83 : decode cX10_quality 83 = .ok (.istore 4, 2) := gX10_quality_48.2.1
theorem dX10_quality_85 : decode cX10_quality 85 = .ok (.iload_n 3, 1) := gX10_quality_48.2.2.1
theorem dX10_quality_86 : decode cX10_quality 86 = .ok (.ifCond .ne 13, 3) := gX10_quality_48.2.2.2.1
theorem dX10_quality_89 : decode cX10_quality 89 = .ok (.aload_n 0, 1) := gX10_quality_48.2.2.2.2.1
theorem dX10_quality_90 : decode cX10_quality 90 = .ok (.getfield 206, 3) := gX10_quality_48.2.2.2.2.2.1
theorem dX10_quality_93 : decode cX10_quality 93 = .ok (.iload 4, 2) := gX10_quality_48.2.2.2.2.2.2.1
theorem dX10_quality_95 : decode cX10_quality 95 = .ok (.idiv, 1) := gX10_quality_48.2.2.2.2.2.2.2.1
theorem dX10_quality_96 : decode cX10_quality 96 = .ok (.goto 10, 3) := gX10_quality_48.2.2.2.2.2.2.2.2.1
theorem dX10_quality_99 : decode cX10_quality 99 = .ok (.aload_n 0, 1) := gX10_quality_48.2.2.2.2.2.2.2.2.2.1
theorem dX10_quality_100 : decode cX10_quality 100 = .ok (.getfield 209, 3) := gX10_quality_48.2.2.2.2.2.2.2.2.2.2.1
theorem dX10_quality_103 : decode cX10_quality 103 = .ok (.iload 4, 2) := gX10_quality_48.2.2.2.2.2.2.2.2.2.2.2
theorem gX10_quality_60 : (decode cX10_quality 105 = .ok (.idiv, 1)) ∧ (decode cX10_quality 106 = .ok (.ireturn, 1)) := by decide +kernel
theorem dX10_quality_105 : decode cX10_quality 105 = .ok (.idiv, 1) := gX10_quality_60.1
theorem dX10_quality_106 : decode cX10_quality 106 = .ok (.ireturn, 1) := gX10_quality_60.2
theorem gX10_feed_0 : (decode cX10_feed 0 = .ok (.iload_n 1, 1)) ∧ (decode cX10_feed 1 = .ok (.iconst 1, 1)) ∧ (decode cX10_feed 2 = .ok (.if_icmp .ge 10, 3)) ∧ (decode cX10_feed 5 = .ok (.aload_n 0, 1)) ∧ (decode cX10_feed 6 = .ok (.bipush (-4), 2)) ∧ (decode cX10_feed 8 = .ok (.invokevirtual 151, 3)) ∧ (decode cX10_feed 11 = .ok (.ireturn, 1)) ∧ (decode cX10_feed 12 = .ok (.iload_n 1, 1)) ∧ (decode cX10_feed 13 = .ok (.bipush 8, 2)) ∧ (decode cX10_feed 15 = .ok (.if_icmp .gt 14, 3)) ∧ (decode cX10_feed 18 = .ok (.aload_n 0, 1)) ∧ (decode cX10_feed 19 = .ok (.getfield 223, 3)) := by decide +kernel
theorem dX10_feed_0 : decode cX10_feed 0 = .ok (.iload_n 1, 1) := gX10_feed_0.1
theorem dX10_feed_1 : decode cX10_feed 1 = .ok (.iconst 1, 1) := gX10_feed_0.2.1
theorem dX10_feed_2 : decode cX10_feed 2 = .ok (.if_icmp .ge 10, 3) := gX10_feed_0.2.2.1
theorem dX10_feed_5 : decode cX10_feed 5 = .ok (.aload_n 0, 1) := gX10_feed_0.2.2.2.1
theorem dX10_feed_6 : decode cX10_feed 6 = .ok (.bipush (-4), 2) := gX10_feed_0.2.2.2.2.1
theorem dX10_feed_8 : decode cX10_feed 8 = .ok (.invokevirtual 151, 3) := gX10_feed_0.2.2.2.2.2.1
theorem dX10_feed_11 : decode cX10_feed 11 = .ok (.ireturn, 1) := gX10_feed_0.2.2.2.2.2.2.1
theorem dX10_feed_12 : decode cX10_feed 12 = .ok (.iload_n 1, 1) := gX10_feed_0.2.2.2.2.2.2.2.1
theorem dX10_feed_13 : decode cX10_feed 13 = .ok (.bipush 8, 2) := gX10_feed_0.2.2.2.2.2.2.2.2.1
theorem dX10_feed_15 : decode cX10_feed 15 = .ok (.if_icmp .gt 14, 3) := gX10_feed_0.2.2.2.2.2.2.2.2.2.1
theorem dX10_feed_18 : decode cX10_feed 18 = .ok (.aload_n 0, 1) := gX10_feed_0.2.2.2.2.2.2.2.2.2.2.1
theorem dX10_feed_19 : decode cX10_feed 19 = .ok (.getfield 223, 3) := gX10_feed_0.2.2.2.2.2.2.2.2.2.2.2
theorem gX10_feed_12 : (decode cX10_feed 22 = .ok (.iload_n 1, 1)) ∧ (decode cX10_feed 23 = .ok (.iadd, 1)) ∧ (decode cX10_feed 24 = .ok (.bipush 80, 2)) ∧ (decode cX10_feed 26 = .ok (.if_icmp .le 10, 3)) ∧ (decode cX10_feed 29 = .ok (.aload_n 0, 1)) ∧ (decode cX10_feed 30 = .ok (.bipush (-6), 2)) ∧ (decode cX10_feed 32 = .ok (.invokevirtual 151, 3)) ∧ (decode cX10_feed 35 = .ok (.ireturn, 1)) ∧ (decode cX10_feed 36 = .ok (.iconst 0, 1)) ∧ (decode cX10_feed 37 = .ok (.istore 4, 2)) ∧ (decode cX10_feed 39 = .ok (.iload 4, 2)) ∧ (decode cX10_feed 41 = .ok (.iload_n 1, 1)) := by decide +kernel
theorem dX10_feed_22 : decode cX10_feed 22 = .ok (.iload_n 1, 1) := gX10_feed_12.1
theorem dX10_feed_23 : decode cX10_feed 23 = .ok (.iadd, 1) := gX10_feed_12.2.1
theorem dX10_feed_24 : decode cX10_feed 24 = .ok (.bipush 80, 2) := gX10_feed_12.2.2.1
theorem dX10_feed_26 : decode cX10_feed 26 = .ok (.if_icmp .le 10, 3) := gX10_feed_12.2.2.2.1
theorem dX10_feed_29 : decode cX10_feed 29 = .ok (.aload_n 0, 1) := gX10_feed_12.2.2.2.2.1
theorem dX10_feed_30 : decode cX10_feed 30 = .ok (.bipush (-6), 2) := gX10_feed_12.2.2.2.2.2.1
theorem dX10_feed_32 : decode cX10_feed 32 = .ok (.invokevirtual 151, 3) := gX10_feed_12.2.2.2.2.2.2.1
theorem dX10_feed_35 : decode cX10_feed 35 = .ok (.ireturn, 1) := gX10_feed_12.2.2.2.2.2.2.2.1
theorem dX10_feed_36 : decode cX10_feed 36 = .ok (.iconst 0, 1) := gX10_feed_12.2.2.2.2.2.2.2.2.1
theorem dX10_feed_37 : decode cX10_feed 37 = .ok (.istore 4, 2) := gX10_feed_12.2.2.2.2.2.2.2.2.2.1
theorem dX10_feed_39 : decode cX10_feed 39 = .ok (.iload 4, 2) := gX10_feed_12.2.2.2.2.2.2.2.2.2.2.1
theorem dX10_feed_41 : decode cX10_feed 41 = .ok (.iload_n 1, 1) := gX10_feed_12.2.2.2.2.2.2.2.2.2.2.2
theorem gX10_feed_24 : (decode cX10_feed 42 = .ok (.if_icmp .ge 40, 3)) ∧ (decode cX10_feed 45 = .ok (.aload_n 0, 1)) ∧ (decode cX10_feed 46 = .ok (.getfield 54, 3)) ∧ (decode cX10_feed 49 = .ok (.aload_n 0, 1)) ∧ (decode cX10_feed 50 = .ok (.getfield 223, 3)) ∧ (decode cX10_feed 53 = .ok (.lload_n 2, 1)) ∧ (decode cX10_feed 54 = .ok (.bipush 8, 2)) ∧ (decode cX10_feed 56 = .ok (.iload 4, 2)) ∧ (decode cX10_feed 58 = .ok (.imul, 1)) ∧ (decode cX10_feed 59 = .ok (.lshr, 1)) ∧ (decode cX10_feed 60 = .ok (.ldc2_w 226, 3)) ∧ (decode cX10_feed 63 = .ok (.land, 1)) := by decide +kernel
theorem dX10_feed_42 : decode cX10_feed 42 = .ok (.if_icmp .ge 40, 3) := gX10_feed_24.1
theorem dX10_feed_45 : decode cX10_feed 45 = .ok (.aload_n 0, 1) := gX10_feed_24.2.1
theorem dX10_feed_46 : decode cX10_feed 46 = .ok (.getfield 54, 3) := gX10_feed_24.2.2.1
theorem dX10_feed_49 : decode cX10_feed 49 = .ok (.aload_n 0, 1) := gX10_feed_24.2.2.2.1
theorem dX10_feed_50 : decode cX10_feed 50 = .ok (.getfield 223, 3) := gX10_feed_24.2.2.2.2.1
theorem dX10_feed_53 : decode cX10_feed 53 = .ok (.lload_n 2, 1) := gX10_feed_24.2.2.2.2.2.1
theorem dX10_feed_54 : decode cX10_feed 54 = .ok (.bipush 8, 2) := gX10_feed_24.2.2.2.2.2.2.1
theorem dX10_feed_56 : decode cX10_feed 56 = .ok (.iload 4, 2) := gX10_feed_24.2.2.2.2.2.2.2.1
theorem dX10_feed_58 : decode cX10_feed 58 = .ok (.imul, 1) := gX10_feed_24.2.2.2.2.2.2.2.2.1
theorem dX10_feed_59 : decode cX10_feed 59 = .ok (.lshr, 1) := gX10_feed_24.2.2.2.2.2.2.2.2.2.1
theorem dX10_feed_60 : decode cX10_feed 60 = .ok (.ldc2_w 226, 3) := gX10_feed_24.2.2.2.2.2.2.2.2.2.2.1
theorem dX10_feed_63 : decode cX10_feed 63 = .ok (.land, 1) := gX10_feed_24.2.2.2.2.2.2.2.2.2.2.2
theorem gX10_feed_36 : (decode cX10_feed 64 = .ok (.l2i, 1)) ∧ (decode cX10_feed 65 = .ok (.iastore, 1)) ∧ (decode cX10_feed 66 = .ok (.aload_n 0, 1)) ∧ (decode cX10_feed 67 = .ok (.dup, 1)) ∧ (decode cX10_feed 68 = .ok (.getfield 223, 3)) ∧ (decode cX10_feed 71 = .ok (.iconst 1, 1)) ∧ (decode cX10_feed 72 = .ok (.iadd, 1)) ∧ (decode cX10_feed 73 = .ok (.putfield 223, 3)) ∧ (decode cX10_feed 76 = .ok (.iinc 4 1, 3)) ∧ (decode cX10_feed 79 = .ok (.goto (-40), 3)) ∧ (decode cX10_feed 82 = .ok (.aload_n 0, 1)) ∧ (decode cX10_feed 83 = .ok (.getfield 223, 3)) := by decide +kernel
theorem dX10_feed_64 : decode cX10_feed 64 = .ok (.l2i, 1) := gX10_feed_36.1
theorem dX10_feed_65 : decode cX10_feed 65 = .ok (.iastore, 1) := gX10_feed_36.2.1
theorem dX10_feed_66 : decode cX10_feed 66 = .ok (.aload_n 0, 1) := gX10_feed_36.2.2.1
theorem dX10_feed_67 : decode cX10_feed 67 = .ok (.dup, 1) := gX10_feed_36.2.2.2.1
theorem dX10_feed_68 : decode cX10_feed 68 = .ok (.getfield 223, 3) := gX10_feed_36.2.2.2.2.1
theorem dX10_feed_71 : decode cX10_feed 71 = .ok (.iconst 1, 1) := gX10_feed_36.2.2.2.2.2.1
theorem dX10_feed_72 : decode cX10_feed 72 = .ok (.iadd, 1) := gX10_feed_36.2.2.2.2.2.2.1
theorem dX10_feed_73 : decode cX10_feed 73 = .ok (.putfield 223, 3) := gX10_feed_36.2.2.2.2.2.2.2.1
theorem dX10_feed_76 : decode cX10_feed 76 = .ok (.iinc 4 1, 3) := gX10_feed_36.2.2.2.2.2.2.2.2.1
theorem dX10_feed_79 : decode cX10_feed 79 = .ok (.goto (-40), 3) := gX10_feed_36.2.2.2.2.2.2.2.2.2.1
theorem dX10_feed_82 : decode cX10_feed 82 = .ok (.aload_n 0, 1) := gX10_feed_36.2.2.2.2.2.2.2.2.2.2.1
theorem dX10_feed_83 : decode cX10_feed 83 = .ok (.getfield 223, 3) := gX10_feed_36.2.2.2.2.2.2.2.2.2.2.2
theorem gX10_feed_48 : (decode cX10_feed 86 = .ok (.ireturn, 1)) := by decide +kernel
theorem dX10_feed_86 : decode cX10_feed 86 = .ok (.ireturn, 1) := gX10_feed_48
theorem gX10_nameOf_0 : (decode cX10_nameOf 0 = .ok (.iload_n 0, 1)) ∧ (decode cX10_nameOf 1 = .ok (.tableswitch 98 97 113 #[89, 93, 98, 98, 98, 98, 98, 87, 98, 98, 95, 85, 98, 98, 98, 83, 91], 83)) ∧ (decode cX10_nameOf 84 = .ok (.iconst 0, 1)) ∧ (decode cX10_nameOf 85 = .ok (.ireturn, 1)) ∧ (decode cX10_nameOf 86 = .ok (.iconst 1, 1)) ∧ (decode cX10_nameOf 87 = .ok (.ireturn, 1)) ∧ (decode cX10_nameOf 88 = .ok (.iconst 2, 1)) ∧ (decode cX10_nameOf 89 = .ok (.ireturn, 1)) ∧ (decode cX10_nameOf 90 = .ok (.iconst 3, 1)) ∧ (decode cX10_nameOf 91 = .ok (.ireturn, 1)) ∧ (decode cX10_nameOf 92 = .ok (.iconst 4, 1)) ∧ (decode cX10_nameOf 93 = .ok (.ireturn, 1)) := by decide +kernel
theorem dX10_nameOf_0 : decode cX10_nameOf 0 = .ok (.iload_n 0, 1) := gX10_nameOf_0.1
theorem dX10_nameOf_1 : decode cX10_nameOf 1 = .ok (.tableswitch 98 97 113 #[89, 93, 98, 98, 98, 98, 98, 87, 98, 98, 95, 85, 98, 98, 98, 83, 91], 83) := gX10_nameOf_0.2.1
theorem dX10_nameOf_84 : decode cX10_nameOf 84 = .ok (.iconst 0, 1) := gX10_nameOf_0.2.2.1
theorem dX10_nameOf_85 : decode cX10_nameOf 85 = .ok (.ireturn, 1) := gX10_nameOf_0.2.2.2.1
theorem dX10_nameOf_86 : decode cX10_nameOf 86 = .ok (.iconst 1, 1) := gX10_nameOf_0.2.2.2.2.1
theorem dX10_nameOf_87 : decode cX10_nameOf 87 = .ok (.ireturn, 1) := gX10_nameOf_0.2.2.2.2.2.1
theorem dX10_nameOf_88 : decode cX10_nameOf 88 = .ok (.iconst 2, 1) := gX10_nameOf_0.2.2.2.2.2.2.1
theorem dX10_nameOf_89 : decode cX10_nameOf 89 = .ok (.ireturn, 1) := gX10_nameOf_0.2.2.2.2.2.2.2.1
theorem dX10_nameOf_90 : decode cX10_nameOf 90 = .ok (.iconst 3, 1) := gX10_nameOf_0.2.2.2.2.2.2.2.2.1
theorem dX10_nameOf_91 : decode cX10_nameOf 91 = .ok (.ireturn, 1) := gX10_nameOf_0.2.2.2.2.2.2.2.2.2.1
theorem dX10_nameOf_92 : decode cX10_nameOf 92 = .ok (.iconst 4, 1) := gX10_nameOf_0.2.2.2.2.2.2.2.2.2.2.1
theorem dX10_nameOf_93 : decode cX10_nameOf 93 = .ok (.ireturn, 1) := gX10_nameOf_0.2.2.2.2.2.2.2.2.2.2.2
theorem gX10_nameOf_12 : (decode cX10_nameOf 94 = .ok (.iconst 5, 1)) ∧ (decode cX10_nameOf 95 = .ok (.ireturn, 1)) ∧ (decode cX10_nameOf 96 = .ok (.bipush 6, 2)) ∧ (decode cX10_nameOf 98 = .ok (.ireturn, 1)) ∧ (decode cX10_nameOf 99 = .ok (.iconst (-1), 1)) ∧ (decode cX10_nameOf 100 = .ok (.ireturn, 1)) := by decide +kernel
theorem dX10_nameOf_94 : decode cX10_nameOf 94 = .ok (.iconst 5, 1) := gX10_nameOf_12.1
theorem dX10_nameOf_95 : decode cX10_nameOf 95 = .ok (.ireturn, 1) := gX10_nameOf_12.2.1
theorem dX10_nameOf_96 : decode cX10_nameOf 96 = .ok (.bipush 6, 2) := gX10_nameOf_12.2.2.1
theorem dX10_nameOf_98 : decode cX10_nameOf 98 = .ok (.ireturn, 1) := gX10_nameOf_12.2.2.2.1
theorem dX10_nameOf_99 : decode cX10_nameOf 99 = .ok (.iconst (-1), 1) := gX10_nameOf_12.2.2.2.2.1
theorem dX10_nameOf_100 : decode cX10_nameOf 100 = .ok (.ireturn, 1) := gX10_nameOf_12.2.2.2.2.2
theorem gX10_work_0 : (decode cX10_work 0 = .ok (.aload_n 0, 1)) ∧ (decode cX10_work 1 = .ok (.getfield 67, 3)) ∧ (decode cX10_work 4 = .ok (.aload_n 0, 1)) ∧ (decode cX10_work 5 = .ok (.getfield 228, 3)) ∧ (decode cX10_work 8 = .ok (.iconst 2, 1)) ∧ (decode cX10_work 9 = .ok (.isub, 1)) ∧ (decode cX10_work 10 = .ok (.laload, 1)) ∧ (decode cX10_work 11 = .ok (.lstore_n 2, 1)) ∧ (decode cX10_work 12 = .ok (.aload_n 0, 1)) ∧ (decode cX10_work 13 = .ok (.getfield 70, 3)) ∧ (decode cX10_work 16 = .ok (.aload_n 0, 1)) ∧ (decode cX10_work 17 = .ok (.getfield 228, 3)) := by decide +kernel
theorem dX10_work_0 : decode cX10_work 0 = .ok (.aload_n 0, 1) := gX10_work_0.1
theorem dX10_work_1 : decode cX10_work 1 = .ok (.getfield 67, 3) := gX10_work_0.2.1
theorem dX10_work_4 : decode cX10_work 4 = .ok (.aload_n 0, 1) := gX10_work_0.2.2.1
theorem dX10_work_5 : decode cX10_work 5 = .ok (.getfield 228, 3) := gX10_work_0.2.2.2.1
theorem dX10_work_8 : decode cX10_work 8 = .ok (.iconst 2, 1) := gX10_work_0.2.2.2.2.1
theorem dX10_work_9 : decode cX10_work 9 = .ok (.isub, 1) := gX10_work_0.2.2.2.2.2.1
theorem dX10_work_10 : decode cX10_work 10 = .ok (.laload, 1) := gX10_work_0.2.2.2.2.2.2.1
theorem dX10_work_11 : decode cX10_work 11 = .ok (.lstore_n 2, 1) := gX10_work_0.2.2.2.2.2.2.2.1
theorem dX10_work_12 : decode cX10_work 12 = .ok (.aload_n 0, 1) := gX10_work_0.2.2.2.2.2.2.2.2.1
theorem dX10_work_13 : decode cX10_work 13 = .ok (.getfield 70, 3) := gX10_work_0.2.2.2.2.2.2.2.2.2.1
theorem dX10_work_16 : decode cX10_work 16 = .ok (.aload_n 0, 1) := gX10_work_0.2.2.2.2.2.2.2.2.2.2.1
theorem dX10_work_17 : decode cX10_work 17 = .ok (.getfield 228, 3) := gX10_work_0.2.2.2.2.2.2.2.2.2.2.2
theorem gX10_work_12 : (decode cX10_work 20 = .ok (.iconst 2, 1)) ∧ (decode cX10_work 21 = .ok (.isub, 1)) ∧ (decode cX10_work 22 = .ok (.laload, 1)) ∧ (decode cX10_work 23 = .ok (.lstore 4, 2)) ∧ (decode cX10_work 25 = .ok (.aload_n 0, 1)) ∧ (decode cX10_work 26 = .ok (.getfield 67, 3)) ∧ (decode cX10_work 29 = .ok (.aload_n 0, 1)) ∧ (decode cX10_work 30 = .ok (.getfield 228, 3)) ∧ (decode cX10_work 33 = .ok (.iconst 1, 1)) ∧ (decode cX10_work 34 = .ok (.isub, 1)) ∧ (decode cX10_work 35 = .ok (.laload, 1)) ∧ (decode cX10_work 36 = .ok (.lstore 6, 2)) := by decide +kernel
theorem dX10_work_20 : decode cX10_work 20 = .ok (.iconst 2, 1) := gX10_work_12.1
theorem dX10_work_21 : decode cX10_work 21 = .ok (.isub, 1) := gX10_work_12.2.1
theorem dX10_work_22 : decode cX10_work 22 = .ok (.laload, 1) := gX10_work_12.2.2.1
theorem dX10_work_23 : decode cX10_work 23 = .ok (.lstore 4, 2) := gX10_work_12.2.2.2.1
theorem dX10_work_25 : decode cX10_work 25 = .ok (.aload_n 0, 1) := gX10_work_12.2.2.2.2.1
theorem dX10_work_26 : decode cX10_work 26 = .ok (.getfield 67, 3) := gX10_work_12.2.2.2.2.2.1
theorem dX10_work_29 : decode cX10_work 29 = .ok (.aload_n 0, 1) := gX10_work_12.2.2.2.2.2.2.1
theorem dX10_work_30 : decode cX10_work 30 = .ok (.getfield 228, 3) := gX10_work_12.2.2.2.2.2.2.2.1
theorem dX10_work_33 : decode cX10_work 33 = .ok (.iconst 1, 1) := gX10_work_12.2.2.2.2.2.2.2.2.1
theorem dX10_work_34 : decode cX10_work 34 = .ok (.isub, 1) := gX10_work_12.2.2.2.2.2.2.2.2.2.1
theorem dX10_work_35 : decode cX10_work 35 = .ok (.laload, 1) := gX10_work_12.2.2.2.2.2.2.2.2.2.2.1
theorem dX10_work_36 : decode cX10_work 36 = .ok (.lstore 6, 2) := gX10_work_12.2.2.2.2.2.2.2.2.2.2.2
theorem gX10_work_24 : (decode cX10_work 38 = .ok (.aload_n 0, 1)) ∧ (decode cX10_work 39 = .ok (.getfield 70, 3)) ∧ (decode cX10_work 42 = .ok (.aload_n 0, 1)) ∧ (decode cX10_work 43 = .ok (.getfield 228, 3)) ∧ (decode cX10_work 46 = .ok (.iconst 1, 1)) ∧ (decode cX10_work 47 = .ok (.isub, 1)) ∧ (decode cX10_work 48 = .ok (.laload, 1)) ∧ (decode cX10_work 49 = .ok (.lstore 8, 2)) ∧ (decode cX10_work 51 = .ok (.aload_n 0, 1)) ∧ (decode cX10_work 52 = .ok (.dup, 1)) ∧ (decode cX10_work 53 = .ok (.getfield 228, 3)) ∧ (decode cX10_work 56 = .ok (.iconst 1, 1)) := by decide +kernel
theorem dX10_work_38 : decode cX10_work 38 = .ok (.aload_n 0, 1) := gX10_work_24.1
theorem dX10_work_39 : decode cX10_work 39 = .ok (.getfield 70, 3) := gX10_work_24.2.1
theorem dX10_work_42 : decode cX10_work 42 = .ok (.aload_n 0, 1) := gX10_work_24.2.2.1
theorem dX10_work_43 : decode cX10_work 43 = .ok (.getfield 228, 3) := gX10_work_24.2.2.2.1
theorem dX10_work_46 : decode cX10_work 46 = .ok (.iconst 1, 1) := gX10_work_24.2.2.2.2.1
theorem dX10_work_47 : decode cX10_work 47 = .ok (.isub, 1) := gX10_work_24.2.2.2.2.2.1
theorem dX10_work_48 : decode cX10_work 48 = .ok (.laload, 1) := gX10_work_24.2.2.2.2.2.2.1
theorem dX10_work_49 : decode cX10_work 49 = .ok (.lstore 8, 2) := gX10_work_24.2.2.2.2.2.2.2.1
theorem dX10_work_51 : decode cX10_work 51 = .ok (.aload_n 0, 1) := gX10_work_24.2.2.2.2.2.2.2.2.1
theorem dX10_work_52 : decode cX10_work 52 = .ok (.dup, 1) := gX10_work_24.2.2.2.2.2.2.2.2.2.1
theorem dX10_work_53 : decode cX10_work 53 = .ok (.getfield 228, 3) := gX10_work_24.2.2.2.2.2.2.2.2.2.2.1
theorem dX10_work_56 : decode cX10_work 56 = .ok (.iconst 1, 1) := gX10_work_24.2.2.2.2.2.2.2.2.2.2.2
theorem gX10_work_36 : (decode cX10_work 57 = .ok (.isub, 1)) ∧ (decode cX10_work 58 = .ok (.putfield 228, 3)) ∧ (decode cX10_work 61 = .ok (.lconst 0, 1)) ∧ (decode cX10_work 62 = .ok (.lstore 10, 2)) ∧ (decode cX10_work 64 = .ok (.lconst 1, 1)) ∧ (decode cX10_work 65 = .ok (.lstore 12, 2)) ∧ (decode cX10_work 67 = .ok (.iload_n 1, 1)) ∧ (decode cX10_work 68 = .ok (.bipush 60, 2)) ∧ (decode cX10_work 70 = .ok (.if_icmp .eq 9, 3)) ∧ (decode cX10_work 73 = .ok (.iload_n 1, 1)) ∧ (decode cX10_work 74 = .ok (.bipush 62, 2)) ∧ (decode cX10_work 76 = .ok (.if_icmp .ne 80, 3)) := by decide +kernel
theorem dX10_work_57 : decode cX10_work 57 = .ok (.isub, 1) := gX10_work_36.1
theorem dX10_work_58 : decode cX10_work 58 = .ok (.putfield 228, 3) := gX10_work_36.2.1
theorem dX10_work_61 : decode cX10_work 61 = .ok (.lconst 0, 1) := gX10_work_36.2.2.1
theorem dX10_work_62 : decode cX10_work 62 = .ok (.lstore 10, 2) := gX10_work_36.2.2.2.1
theorem dX10_work_64 : decode cX10_work 64 = .ok (.lconst 1, 1) := gX10_work_36.2.2.2.2.1
theorem dX10_work_65 : decode cX10_work 65 = .ok (.lstore 12, 2) := gX10_work_36.2.2.2.2.2.1
theorem dX10_work_67 : decode cX10_work 67 = .ok (.iload_n 1, 1) := gX10_work_36.2.2.2.2.2.2.1
theorem dX10_work_68 : decode cX10_work 68 = .ok (.bipush 60, 2) := gX10_work_36.2.2.2.2.2.2.2.1
theorem dX10_work_70 : decode cX10_work 70 = .ok (.if_icmp .eq 9, 3) := gX10_work_36.2.2.2.2.2.2.2.2.1
theorem dX10_work_73 : decode cX10_work 73 = .ok (.iload_n 1, 1) := gX10_work_36.2.2.2.2.2.2.2.2.2.1
theorem dX10_work_74 : decode cX10_work 74 = .ok (.bipush 62, 2) := gX10_work_36.2.2.2.2.2.2.2.2.2.2.1
theorem dX10_work_76 : decode cX10_work 76 = .ok (.if_icmp .ne 80, 3) := gX10_work_36.2.2.2.2.2.2.2.2.2.2.2
theorem gX10_work_48 : (decode cX10_work 79 = .ok (.iload_n 1, 1)) ∧ (decode cX10_work 80 = .ok (.bipush 60, 2)) ∧ (decode cX10_work 82 = .ok (.if_icmp .ne 24, 3)) ∧ (decode cX10_work 85 = .ok (.lload_n 2, 1)) ∧ (decode cX10_work 86 = .ok (.lload 8, 2)) ∧ (decode cX10_work 88 = .ok (.lmul, 1)) ∧ (decode cX10_work 89 = .ok (.lload 6, 2)) ∧ (decode cX10_work 91 = .ok (.lload 4, 2)) ∧ (decode cX10_work 93 = .ok (.lmul, 1)) ∧ (decode cX10_work 94 = .ok (.lcmp, 1)) ∧ (decode cX10_work 95 = .ok (.ifCond .gt 7, 3)) ∧ (decode cX10_work 98 = .ok (.iconst 1, 1)) := by decide +kernel
theorem dX10_work_79 : decode cX10_work 79 = .ok (.iload_n 1, 1) := gX10_work_48.1
theorem dX10_work_80 : decode cX10_work 80 = .ok (.bipush 60, 2) := gX10_work_48.2.1
theorem dX10_work_82 : decode cX10_work 82 = .ok (.if_icmp .ne 24, 3) := gX10_work_48.2.2.1
theorem dX10_work_85 : decode cX10_work 85 = .ok (.lload_n 2, 1) := gX10_work_48.2.2.2.1
theorem dX10_work_86 : decode cX10_work 86 = .ok (.lload 8, 2) := gX10_work_48.2.2.2.2.1
theorem dX10_work_88 : decode cX10_work 88 = .ok (.lmul, 1) := gX10_work_48.2.2.2.2.2.1
theorem dX10_work_89 : decode cX10_work 89 = .ok (.lload 6, 2) := gX10_work_48.2.2.2.2.2.2.1
theorem dX10_work_91 : decode cX10_work 91 = .ok (.lload 4, 2) := gX10_work_48.2.2.2.2.2.2.2.1
theorem dX10_work_93 : decode cX10_work 93 = .ok (.lmul, 1) := gX10_work_48.2.2.2.2.2.2.2.2.1
theorem dX10_work_94 : decode cX10_work 94 = .ok (.lcmp, 1) := gX10_work_48.2.2.2.2.2.2.2.2.2.1
theorem dX10_work_95 : decode cX10_work 95 = .ok (.ifCond .gt 7, 3) := gX10_work_48.2.2.2.2.2.2.2.2.2.2.1
theorem dX10_work_98 : decode cX10_work 98 = .ok (.iconst 1, 1) := gX10_work_48.2.2.2.2.2.2.2.2.2.2.2
theorem gX10_work_60 : (decode cX10_work 99 = .ok (.goto 25, 3)) ∧ (decode cX10_work 102 = .ok (.iconst 0, 1)) ∧ (decode cX10_work 103 = .ok (.goto 21, 3)) ∧ (decode cX10_work 106 = .ok (.lload_n 2, 1)) ∧ (decode cX10_work 107 = .ok (.lload 8, 2)) ∧ (decode cX10_work 109 = .ok (.lmul, 1)) ∧ (decode cX10_work 110 = .ok (.lload 6, 2)) ∧ (decode cX10_work 112 = .ok (.lload 4, 2)) ∧ (decode cX10_work 114 = .ok (.lmul, 1)) ∧ (decode cX10_work 115 = .ok (.lcmp, 1)) ∧ (decode cX10_work 116 = .ok (.ifCond .lt 7, 3)) ∧ (decode cX10_work 119 = .ok (.iconst 1, 1)) := by decide +kernel
theorem dX10_work_99 : decode cX10_work 99 = .ok (.goto 25, 3) := gX10_work_60.1
theorem dX10_work_102 : decode cX10_work 102 = .ok (.iconst 0, 1) := gX10_work_60.2.1
theorem dX10_work_103 : decode cX10_work 103 = .ok (.goto 21, 3) := gX10_work_60.2.2.1
theorem dX10_work_106 : decode cX10_work 106 = .ok (.lload_n 2, 1) := gX10_work_60.2.2.2.1
theorem dX10_work_107 : decode cX10_work 107 = .ok (.lload 8, 2) := gX10_work_60.2.2.2.2.1
theorem dX10_work_109 : decode cX10_work 109 = .ok (.lmul, 1) := gX10_work_60.2.2.2.2.2.1
theorem dX10_work_110 : decode cX10_work 110 = .ok (.lload 6, 2) := gX10_work_60.2.2.2.2.2.2.1
theorem dX10_work_112 : decode cX10_work 112 = .ok (.lload 4, 2) := gX10_work_60.2.2.2.2.2.2.2.1
theorem dX10_work_114 : decode cX10_work 114 = .ok (.lmul, 1) := gX10_work_60.2.2.2.2.2.2.2.2.1
theorem dX10_work_115 : decode cX10_work 115 = .ok (.lcmp, 1) := gX10_work_60.2.2.2.2.2.2.2.2.2.1
theorem dX10_work_116 : decode cX10_work 116 = .ok (.ifCond .lt 7, 3) := gX10_work_60.2.2.2.2.2.2.2.2.2.2.1
theorem dX10_work_119 : decode cX10_work 119 = .ok (.iconst 1, 1) := gX10_work_60.2.2.2.2.2.2.2.2.2.2.2
theorem gX10_work_72 : (decode cX10_work 120 = .ok (.goto 4, 3)) ∧ (decode cX10_work 123 = .ok (.iconst 0, 1)) ∧ (decode cX10_work 124 = .ok (.istore 14, 2)) ∧ (decode cX10_work 126 = .ok (.iload 14, 2)) ∧ (decode cX10_work 128 = .ok (.ifCond .eq 7, 3)) ∧ (decode cX10_work 131 = .ok (.lload_n 2, 1)) ∧ (decode cX10_work 132 = .ok (.goto 5, 3)) ∧ (decode cX10_work 135 = .ok (.lload 6, 2)) ∧ (decode cX10_work 137 = .ok (.lstore 10, 2)) ∧ (decode cX10_work 139 = .ok (.iload 14, 2)) ∧ (decode cX10_work 141 = .ok (.ifCond .eq 8, 3)) ∧ (decode cX10_work 144 = .ok (.lload 4, 2)) := by decide +kernel
theorem dX10_work_120 : decode cX10_work 120 = .ok (.goto 4, 3) := gX10_work_72.1
theorem dX10_work_123 : decode cX10_work 123 = .ok (.iconst 0, 1) := gX10_work_72.2.1
theorem dX10_work_124 : decode cX10_work 124 = .ok (.istore 14, 2) := gX10_work_72.2.2.1
theorem dX10_work_126 : decode cX10_work 126 = .ok (.iload 14, 2) := gX10_work_72.2.2.2.1
theorem dX10_work_128 : decode cX10_work 128 = .ok (.ifCond .eq 7, 3) := gX10_work_72.2.2.2.2.1
theorem dX10_work_131 : decode cX10_work 131 = .ok (.lload_n 2, 1) := gX10_work_72.2.2.2.2.2.1
theorem dX10_work_132 : decode cX10_work 132 = .ok (.goto 5, 3) := gX10_work_72.2.2.2.2.2.2.1
theorem dX10_work_135 : decode cX10_work 135 = .ok (.lload 6, 2) := gX10_work_72.2.2.2.2.2.2.2.1
theorem dX10_work_137 : decode cX10_work 137 = .ok (.lstore 10, 2) := gX10_work_72.2.2.2.2.2.2.2.2.1
theorem dX10_work_139 : decode cX10_work 139 = .ok (.iload 14, 2) := gX10_work_72.2.2.2.2.2.2.2.2.2.1
theorem dX10_work_141 : decode cX10_work 141 = .ok (.ifCond .eq 8, 3) := gX10_work_72.2.2.2.2.2.2.2.2.2.2.1
theorem dX10_work_144 : decode cX10_work 144 = .ok (.lload 4, 2) := gX10_work_72.2.2.2.2.2.2.2.2.2.2.2
theorem gX10_work_84 : (decode cX10_work 146 = .ok (.goto 5, 3)) ∧ (decode cX10_work 149 = .ok (.lload 8, 2)) ∧ (decode cX10_work 151 = .ok (.lstore 12, 2)) ∧ (decode cX10_work 153 = .ok (.goto 150, 3)) ∧ (decode cX10_work 156 = .ok (.iload_n 1, 1)) ∧ (decode cX10_work 157 = .ok (.bipush 42, 2)) ∧ (decode cX10_work 159 = .ok (.if_icmp .ne 19, 3)) ∧ (decode cX10_work 162 = .ok (.lload_n 2, 1)) ∧ (decode cX10_work 163 = .ok (.lload 6, 2)) ∧ (decode cX10_work 165 = .ok (.lmul, 1)) ∧ (decode cX10_work 166 = .ok (.lstore 10, 2)) ∧ (decode cX10_work 168 = .ok (.lload 4, 2)) := by decide +kernel
theorem dX10_work_146 : decode cX10_work 146 = .ok (.goto 5, 3) := gX10_work_84.1
theorem dX10_work_149 : decode cX10_work 149 = .ok (.lload 8, 2) := gX10_work_84.2.1
theorem dX10_work_151 : decode cX10_work 151 = .ok (.lstore 12, 2) := gX10_work_84.2.2.1
theorem dX10_work_153 : decode cX10_work 153 = .ok (.goto 150, 3) := gX10_work_84.2.2.2.1
theorem dX10_work_156 : decode cX10_work 156 = .ok (.iload_n 1, 1) := gX10_work_84.2.2.2.2.1
theorem dX10_work_157 : decode cX10_work 157 = .ok (.bipush 42, 2) := gX10_work_84.2.2.2.2.2.1
theorem dX10_work_159 : decode cX10_work 159 = .ok (.if_icmp .ne 19, 3) := gX10_work_84.2.2.2.2.2.2.1
theorem dX10_work_162 : decode cX10_work 162 = .ok (.lload_n 2, 1) := gX10_work_84.2.2.2.2.2.2.2.1
theorem dX10_work_163 : decode cX10_work 163 = .ok (.lload 6, 2) := gX10_work_84.2.2.2.2.2.2.2.2.1
theorem dX10_work_165 : decode cX10_work 165 = .ok (.lmul, 1) := gX10_work_84.2.2.2.2.2.2.2.2.2.1
theorem dX10_work_166 : decode cX10_work 166 = .ok (.lstore 10, 2) := gX10_work_84.2.2.2.2.2.2.2.2.2.2.1
theorem dX10_work_168 : decode cX10_work 168 = .ok (.lload 4, 2) := gX10_work_84.2.2.2.2.2.2.2.2.2.2.2
theorem gX10_work_96 : (decode cX10_work 170 = .ok (.lload 8, 2)) ∧ (decode cX10_work 172 = .ok (.lmul, 1)) ∧ (decode cX10_work 173 = .ok (.lstore 12, 2)) ∧ (decode cX10_work 175 = .ok (.goto 128, 3)) ∧ (decode cX10_work 178 = .ok (.iload_n 1, 1)) ∧ (decode cX10_work 179 = .ok (.bipush 47, 2)) ∧ (decode cX10_work 181 = .ok (.if_icmp .ne 84, 3)) ∧ (decode cX10_work 184 = .ok (.aload_n 0, 1)) ∧ (decode cX10_work 185 = .ok (.aload_n 0, 1)) ∧ (decode cX10_work 186 = .ok (.getfield 231, 3)) ∧ (decode cX10_work 189 = .ok (.ifCond .ne 10, 3)) ∧ (decode cX10_work 192 = .ok (.lload 6, 2)) := by decide +kernel
theorem dX10_work_170 : decode cX10_work 170 = .ok (.lload 8, 2) := gX10_work_96.1
theorem dX10_work_172 : decode cX10_work 172 = .ok (.lmul, 1) := gX10_work_96.2.1
theorem dX10_work_173 : decode cX10_work 173 = .ok (.lstore 12, 2) := gX10_work_96.2.2.1
theorem dX10_work_175 : decode cX10_work 175 = .ok (.goto 128, 3) := gX10_work_96.2.2.2.1
theorem dX10_work_178 : decode cX10_work 178 = .ok (.iload_n 1, 1) := gX10_work_96.2.2.2.2.1
theorem dX10_work_179 : decode cX10_work 179 = .ok (.bipush 47, 2) := gX10_work_96.2.2.2.2.2.1
theorem dX10_work_181 : decode cX10_work 181 = .ok (.if_icmp .ne 84, 3) := gX10_work_96.2.2.2.2.2.2.1
theorem dX10_work_184 : decode cX10_work 184 = .ok (.aload_n 0, 1) := gX10_work_96.2.2.2.2.2.2.2.1
theorem dX10_work_185 : decode cX10_work 185 = .ok (.aload_n 0, 1) := gX10_work_96.2.2.2.2.2.2.2.2.1
theorem dX10_work_186 : decode cX10_work 186 = .ok (.getfield 231, 3) := gX10_work_96.2.2.2.2.2.2.2.2.2.1
theorem dX10_work_189 : decode cX10_work 189 = .ok (.ifCond .ne 10, 3) := gX10_work_96.2.2.2.2.2.2.2.2.2.2.1
theorem dX10_work_192 : decode cX10_work 192 = .ok (.lload 6, 2) := gX10_work_96.2.2.2.2.2.2.2.2.2.2.2
theorem gX10_work_108 : (decode cX10_work 194 = .ok (.lconst 0, 1)) ∧ (decode cX10_work 195 = .ok (.lcmp, 1)) ∧ (decode cX10_work 196 = .ok (.ifCond .ne 7, 3)) ∧ (decode cX10_work 199 = .ok (.iconst 1, 1)) ∧ (decode cX10_work 200 = .ok (.goto 4, 3)) ∧ (decode cX10_work 203 = .ok (.iconst 0, 1)) ∧ (decode cX10_work 204 = .ok (.putfield 231, 3)) ∧ (decode cX10_work 207 = .ok (.lload 6, 2)) ∧ (decode cX10_work 209 = .ok (.lconst 0, 1)) ∧ (decode cX10_work 210 = .ok (.lcmp, 1)) ∧ (decode cX10_work 211 = .ok (.ifCond .ge 11, 3)) ∧ (decode cX10_work 214 = .ok (.lload_n 2, 1)) := by decide +kernel
theorem dX10_work_194 : decode cX10_work 194 = .ok (.lconst 0, 1) := gX10_work_108.1
theorem dX10_work_195 : decode cX10_work 195 = .ok (.lcmp, 1) := gX10_work_108.2.1
theorem dX10_work_196 : decode cX10_work 196 = .ok (.ifCond .ne 7, 3) := gX10_work_108.2.2.1
theorem dX10_work_199 : decode cX10_work 199 = .ok (.iconst 1, 1) := gX10_work_108.2.2.2.1
theorem dX10_work_200 : decode cX10_work 200 = .ok (.goto 4, 3) := gX10_work_108.2.2.2.2.1
theorem dX10_work_203 : decode cX10_work 203 = .ok (.iconst 0, 1) := gX10_work_108.2.2.2.2.2.1
theorem dX10_work_204 : decode cX10_work 204 = .ok (.putfield 231, 3) := gX10_work_108.2.2.2.2.2.2.1
theorem dX10_work_207 : decode cX10_work 207 = .ok (.lload 6, 2) := gX10_work_108.2.2.2.2.2.2.2.1
theorem dX10_work_209 : decode cX10_work 209 = .ok (.lconst 0, 1) := gX10_work_108.2.2.2.2.2.2.2.2.1
theorem dX10_work_210 : decode cX10_work 210 = .ok (.lcmp, 1) := gX10_work_108.2.2.2.2.2.2.2.2.2.1
theorem dX10_work_211 : decode cX10_work 211 = .ok (.ifCond .ge 11, 3) := gX10_work_108.2.2.2.2.2.2.2.2.2.2.1
theorem dX10_work_214 : decode cX10_work 214 = .ok (.lload_n 2, 1) := gX10_work_108.2.2.2.2.2.2.2.2.2.2.2
theorem gX10_work_120 : (decode cX10_work 215 = .ok (.lneg, 1)) ∧ (decode cX10_work 216 = .ok (.lload 8, 2)) ∧ (decode cX10_work 218 = .ok (.lmul, 1)) ∧ (decode cX10_work 219 = .ok (.goto 7, 3)) ∧ (decode cX10_work 222 = .ok (.lload_n 2, 1)) ∧ (decode cX10_work 223 = .ok (.lload 8, 2)) ∧ (decode cX10_work 225 = .ok (.lmul, 1)) ∧ (decode cX10_work 226 = .ok (.lstore 10, 2)) ∧ (decode cX10_work 228 = .ok (.lload 6, 2)) ∧ (decode cX10_work 230 = .ok (.lconst 0, 1)) ∧ (decode cX10_work 231 = .ok (.lcmp, 1)) ∧ (decode cX10_work 232 = .ok (.ifCond .ne 7, 3)) := by decide +kernel
theorem dX10_work_215 : decode cX10_work 215 = .ok (.lneg, 1) := gX10_work_120.1
theorem dX10_work_216 : decode cX10_work 216 = .ok (.lload 8, 2) := gX10_work_120.2.1
theorem dX10_work_218 : decode cX10_work 218 = .ok (.lmul, 1) := gX10_work_120.2.2.1
theorem dX10_work_219 : decode cX10_work 219 = .ok (.goto 7, 3) := gX10_work_120.2.2.2.1
theorem dX10_work_222 : decode cX10_work 222 = .ok (.lload_n 2, 1) := gX10_work_120.2.2.2.2.1
theorem dX10_work_223 : decode cX10_work 223 = .ok (.lload 8, 2) := gX10_work_120.2.2.2.2.2.1
theorem dX10_work_225 : decode cX10_work 225 = .ok (.lmul, 1) := gX10_work_120.2.2.2.2.2.2.1
theorem dX10_work_226 : decode cX10_work 226 = .ok (.lstore 10, 2) := gX10_work_120.2.2.2.2.2.2.2.1
theorem dX10_work_228 : decode cX10_work 228 = .ok (.lload 6, 2) := gX10_work_120.2.2.2.2.2.2.2.2.1
theorem dX10_work_230 : decode cX10_work 230 = .ok (.lconst 0, 1) := gX10_work_120.2.2.2.2.2.2.2.2.2.1
theorem dX10_work_231 : decode cX10_work 231 = .ok (.lcmp, 1) := gX10_work_120.2.2.2.2.2.2.2.2.2.2.1
theorem dX10_work_232 : decode cX10_work 232 = .ok (.ifCond .ne 7, 3) := gX10_work_120.2.2.2.2.2.2.2.2.2.2.2
theorem gX10_work_132 : (decode cX10_work 235 = .ok (.lconst 1, 1)) ∧ (decode cX10_work 236 = .ok (.goto 24, 3)) ∧ (decode cX10_work 239 = .ok (.lload 6, 2)) ∧ (decode cX10_work 241 = .ok (.lconst 0, 1)) ∧ (decode cX10_work 242 = .ok (.lcmp, 1)) ∧ (decode cX10_work 243 = .ok (.ifCond .ge 12, 3)) ∧ (decode cX10_work 246 = .ok (.lload 4, 2)) ∧ (decode cX10_work 248 = .ok (.lneg, 1)) ∧ (decode cX10_work 249 = .ok (.lload 6, 2)) ∧ (decode cX10_work 251 = .ok (.lmul, 1)) ∧ (decode cX10_work 252 = .ok (.goto 8, 3)) ∧ (decode cX10_work 255 = .ok (.lload 4, 2)) := by decide +kernel
theorem dX10_work_235 : decode cX10_work 235 = .ok (.lconst 1, 1) := gX10_work_132.1
theorem dX10_work_236 : decode cX10_work 236 = .ok (.goto 24, 3) := gX10_work_132.2.1
theorem dX10_work_239 : decode cX10_work 239 = .ok (.lload 6, 2) := gX10_work_132.2.2.1
theorem dX10_work_241 : decode cX10_work 241 = .ok (.lconst 0, 1) := gX10_work_132.2.2.2.1
theorem dX10_work_242 : decode cX10_work 242 = .ok (.lcmp, 1) := gX10_work_132.2.2.2.2.1
theorem dX10_work_243 : decode cX10_work 243 = .ok (.ifCond .ge 12, 3) := gX10_work_132.2.2.2.2.2.1
theorem dX10_work_246 : decode cX10_work 246 = .ok (.lload 4, 2) := gX10_work_132.2.2.2.2.2.2.1
theorem dX10_work_248 : decode cX10_work 248 = .ok (.lneg, 1) := gX10_work_132.2.2.2.2.2.2.2.1
theorem dX10_work_249 : decode cX10_work 249 = .ok (.lload 6, 2) := gX10_work_132.2.2.2.2.2.2.2.2.1
theorem dX10_work_251 : decode cX10_work 251 = .ok (.lmul, 1) := gX10_work_132.2.2.2.2.2.2.2.2.2.1
theorem dX10_work_252 : decode cX10_work 252 = .ok (.goto 8, 3) := gX10_work_132.2.2.2.2.2.2.2.2.2.2.1
theorem dX10_work_255 : decode cX10_work 255 = .ok (.lload 4, 2) := gX10_work_132.2.2.2.2.2.2.2.2.2.2.2
theorem gX10_work_144 : (decode cX10_work 257 = .ok (.lload 6, 2)) ∧ (decode cX10_work 259 = .ok (.lmul, 1)) ∧ (decode cX10_work 260 = .ok (.lstore 12, 2)) ∧ (decode cX10_work 262 = .ok (.goto 41, 3)) ∧ (decode cX10_work 265 = .ok (.iload_n 1, 1)) ∧ (decode cX10_work 266 = .ok (.bipush 43, 2)) ∧ (decode cX10_work 268 = .ok (.if_icmp .ne 16, 3)) ∧ (decode cX10_work 271 = .ok (.lload_n 2, 1)) ∧ (decode cX10_work 272 = .ok (.lload 8, 2)) ∧ (decode cX10_work 274 = .ok (.lmul, 1)) ∧ (decode cX10_work 275 = .ok (.lload 6, 2)) ∧ (decode cX10_work 277 = .ok (.lload 4, 2)) := by decide +kernel
theorem dX10_work_257 : decode cX10_work 257 = .ok (.lload 6, 2) := gX10_work_144.1
theorem dX10_work_259 : decode cX10_work 259 = .ok (.lmul, 1) := gX10_work_144.2.1
theorem dX10_work_260 : decode cX10_work 260 = .ok (.lstore 12, 2) := gX10_work_144.2.2.1
theorem dX10_work_262 : decode cX10_work 262 = .ok (.goto 41, 3) := gX10_work_144.2.2.2.1
theorem dX10_work_265 : decode cX10_work 265 = .ok (.iload_n 1, 1) := gX10_work_144.2.2.2.2.1
theorem dX10_work_266 : decode cX10_work 266 = .ok (.bipush 43, 2) := gX10_work_144.2.2.2.2.2.1
theorem dX10_work_268 : decode cX10_work 268 = .ok (.if_icmp .ne 16, 3) := gX10_work_144.2.2.2.2.2.2.1
theorem dX10_work_271 : decode cX10_work 271 = .ok (.lload_n 2, 1) := gX10_work_144.2.2.2.2.2.2.2.1
theorem dX10_work_272 : decode cX10_work 272 = .ok (.lload 8, 2) := gX10_work_144.2.2.2.2.2.2.2.2.1
theorem dX10_work_274 : decode cX10_work 274 = .ok (.lmul, 1) := gX10_work_144.2.2.2.2.2.2.2.2.2.1
theorem dX10_work_275 : decode cX10_work 275 = .ok (.lload 6, 2) := gX10_work_144.2.2.2.2.2.2.2.2.2.2.1
theorem dX10_work_277 : decode cX10_work 277 = .ok (.lload 4, 2) := gX10_work_144.2.2.2.2.2.2.2.2.2.2.2
theorem gX10_work_156 : (decode cX10_work 279 = .ok (.lmul, 1)) ∧ (decode cX10_work 280 = .ok (.ladd, 1)) ∧ (decode cX10_work 281 = .ok (.goto 13, 3)) ∧ (decode cX10_work 284 = .ok (.lload_n 2, 1)) ∧ (decode cX10_work 285 = .ok (.lload 8, 2)) ∧ (decode cX10_work 287 = .ok (.lmul, 1)) ∧ (decode cX10_work 288 = .ok (.lload 6, 2)) ∧ (decode cX10_work 290 = .ok (.lload 4, 2)) ∧ (decode cX10_work 292 = .ok (.lmul, 1)) ∧ (decode cX10_work 293 = .ok (.lsub, 1)) ∧ (decode cX10_work 294 = .ok (.lstore 10, 2)) ∧ (decode cX10_work 296 = .ok (.lload 4, 2)) := by decide +kernel
theorem dX10_work_279 : decode cX10_work 279 = .ok (.lmul, 1) := gX10_work_156.1
theorem dX10_work_280 : decode cX10_work 280 = .ok (.ladd, 1) := gX10_work_156.2.1
theorem dX10_work_281 : decode cX10_work 281 = .ok (.goto 13, 3) := gX10_work_156.2.2.1
theorem dX10_work_284 : decode cX10_work 284 = .ok (.lload_n 2, 1) := gX10_work_156.2.2.2.1
theorem dX10_work_285 : decode cX10_work 285 = .ok (.lload 8, 2) := gX10_work_156.2.2.2.2.1
theorem dX10_work_287 : decode cX10_work 287 = .ok (.lmul, 1) := gX10_work_156.2.2.2.2.2.1
theorem dX10_work_288 : decode cX10_work 288 = .ok (.lload 6, 2) := gX10_work_156.2.2.2.2.2.2.1
theorem dX10_work_290 : decode cX10_work 290 = .ok (.lload 4, 2) := gX10_work_156.2.2.2.2.2.2.2.1
theorem dX10_work_292 : decode cX10_work 292 = .ok (.lmul, 1) := gX10_work_156.2.2.2.2.2.2.2.2.1
theorem dX10_work_293 : decode cX10_work 293 = .ok (.lsub, 1) := gX10_work_156.2.2.2.2.2.2.2.2.2.1
theorem dX10_work_294 : decode cX10_work 294 = .ok (.lstore 10, 2) := gX10_work_156.2.2.2.2.2.2.2.2.2.2.1
theorem dX10_work_296 : decode cX10_work 296 = .ok (.lload 4, 2) := gX10_work_156.2.2.2.2.2.2.2.2.2.2.2
theorem gX10_work_168 : (decode cX10_work 298 = .ok (.lload 8, 2)) ∧ (decode cX10_work 300 = .ok (.lmul, 1)) ∧ (decode cX10_work 301 = .ok (.lstore 12, 2)) ∧ (decode cX10_work 303 = .ok (.lload 10, 2)) ∧ (decode cX10_work 305 = .ok (.lload 12, 2)) ∧ (decode cX10_work 307 = .ok (.invokestatic 219, 3)) ∧ (decode cX10_work 310 = .ok (.lstore 14, 2)) ∧ (decode cX10_work 312 = .ok (.lload 10, 2)) ∧ (decode cX10_work 314 = .ok (.lload 14, 2)) ∧ (decode cX10_work 316 = .ok (.ldiv, 1)) ∧ (decode cX10_work 317 = .ok (.lstore 10, 2)) ∧ (decode cX10_work 319 = .ok (.lload 12, 2)) := by decide +kernel
theorem dX10_work_298 : decode cX10_work 298 = .ok (.lload 8, 2) := gX10_work_168.1
theorem dX10_work_300 : decode cX10_work 300 = .ok (.lmul, 1) := gX10_work_168.2.1
theorem dX10_work_301 : decode cX10_work 301 = .ok (.lstore 12, 2) := gX10_work_168.2.2.1
theorem dX10_work_303 : decode cX10_work 303 = .ok (.lload 10, 2) := gX10_work_168.2.2.2.1
theorem dX10_work_305 : decode cX10_work 305 = .ok (.lload 12, 2) := gX10_work_168.2.2.2.2.1
theorem dX10_work_307 : decode cX10_work 307 = .ok (.invokestatic 219, 3) := gX10_work_168.2.2.2.2.2.1
theorem dX10_work_310 : decode cX10_work 310 = .ok (.lstore 14, 2) := gX10_work_168.2.2.2.2.2.2.1
theorem dX10_work_312 : decode cX10_work 312 = .ok (.lload 10, 2) := gX10_work_168.2.2.2.2.2.2.2.1
theorem dX10_work_314 : decode cX10_work 314 = .ok (.lload 14, 2) := gX10_work_168.2.2.2.2.2.2.2.2.1
theorem dX10_work_316 : decode cX10_work 316 = .ok (.ldiv, 1) := gX10_work_168.2.2.2.2.2.2.2.2.2.1
theorem dX10_work_317 : decode cX10_work 317 = .ok (.lstore 10, 2) := gX10_work_168.2.2.2.2.2.2.2.2.2.2.1
theorem dX10_work_319 : decode cX10_work 319 = .ok (.lload 12, 2) := gX10_work_168.2.2.2.2.2.2.2.2.2.2.2
theorem gX10_work_180 : (decode cX10_work 321 = .ok (.lload 14, 2)) ∧ (decode cX10_work 323 = .ok (.ldiv, 1)) ∧ (decode cX10_work 324 = .ok (.lstore 12, 2)) ∧ (decode cX10_work 326 = .ok (.aload_n 0, 1)) ∧ (decode cX10_work 327 = .ok (.aload_n 0, 1)) ∧ (decode cX10_work 328 = .ok (.getfield 231, 3)) ∧ (decode cX10_work 331 = .ok (.ifCond .ne 30, 3)) ∧ (decode cX10_work 334 = .ok (.lload 10, 2)) ∧ (decode cX10_work 336 = .ok (.ldc2_w 234, 3)) ∧ (decode cX10_work 339 = .ok (.lcmp, 1)) ∧ (decode cX10_work 340 = .ok (.ifCond .gt 21, 3)) ∧ (decode cX10_work 343 = .ok (.lload 10, 2)) := by decide +kernel
theorem dX10_work_321 : decode cX10_work 321 = .ok (.lload 14, 2) := gX10_work_180.1
theorem dX10_work_323 : decode cX10_work 323 = .ok (.ldiv, 1) := gX10_work_180.2.1
theorem dX10_work_324 : decode cX10_work 324 = .ok (.lstore 12, 2) := gX10_work_180.2.2.1
theorem dX10_work_326 : decode cX10_work 326 = .ok (.aload_n 0, 1) := gX10_work_180.2.2.2.1
theorem dX10_work_327 : decode cX10_work 327 = .ok (.aload_n 0, 1) := gX10_work_180.2.2.2.2.1
theorem dX10_work_328 : decode cX10_work 328 = .ok (.getfield 231, 3) := gX10_work_180.2.2.2.2.2.1
theorem dX10_work_331 : decode cX10_work 331 = .ok (.ifCond .ne 30, 3) := gX10_work_180.2.2.2.2.2.2.1
theorem dX10_work_334 : decode cX10_work 334 = .ok (.lload 10, 2) := gX10_work_180.2.2.2.2.2.2.2.1
theorem dX10_work_336 : decode cX10_work 336 = .ok (.ldc2_w 234, 3) := gX10_work_180.2.2.2.2.2.2.2.2.1
theorem dX10_work_339 : decode cX10_work 339 = .ok (.lcmp, 1) := gX10_work_180.2.2.2.2.2.2.2.2.2.1
theorem dX10_work_340 : decode cX10_work 340 = .ok (.ifCond .gt 21, 3) := gX10_work_180.2.2.2.2.2.2.2.2.2.2.1
theorem dX10_work_343 : decode cX10_work 343 = .ok (.lload 10, 2) := gX10_work_180.2.2.2.2.2.2.2.2.2.2.2
theorem gX10_work_192 : (decode cX10_work 345 = .ok (.ldc2_w 236, 3)) ∧ (decode cX10_work 348 = .ok (.lcmp, 1)) ∧ (decode cX10_work 349 = .ok (.ifCond .lt 12, 3)) ∧ (decode cX10_work 352 = .ok (.lload 12, 2)) ∧ (decode cX10_work 354 = .ok (.ldc2_w 234, 3)) ∧ (decode cX10_work 357 = .ok (.lcmp, 1)) ∧ (decode cX10_work 358 = .ok (.ifCond .le 7, 3)) ∧ (decode cX10_work 361 = .ok (.iconst 1, 1)) ∧ (decode cX10_work 362 = .ok (.goto 4, 3)) ∧ (decode cX10_work 365 = .ok (.iconst 0, 1)) ∧ (decode cX10_work 366 = .ok (.putfield 231, 3)) ∧ (decode cX10_work 369 = .ok (.aload_n 0, 1)) := by decide +kernel
theorem dX10_work_345 : decode cX10_work 345 = .ok (.ldc2_w 236, 3) := gX10_work_192.1
theorem dX10_work_348 : decode cX10_work 348 = .ok (.lcmp, 1) := gX10_work_192.2.1
theorem dX10_work_349 : decode cX10_work 349 = .ok (.ifCond .lt 12, 3) := gX10_work_192.2.2.1
theorem dX10_work_352 : decode cX10_work 352 = .ok (.lload 12, 2) := gX10_work_192.2.2.2.1
theorem dX10_work_354 : decode cX10_work 354 = .ok (.ldc2_w 234, 3) := gX10_work_192.2.2.2.2.1
theorem dX10_work_357 : decode cX10_work 357 = .ok (.lcmp, 1) := gX10_work_192.2.2.2.2.2.1
theorem dX10_work_358 : decode cX10_work 358 = .ok (.ifCond .le 7, 3) := gX10_work_192.2.2.2.2.2.2.1
theorem dX10_work_361 : decode cX10_work 361 = .ok (.iconst 1, 1) := gX10_work_192.2.2.2.2.2.2.2.1
theorem dX10_work_362 : decode cX10_work 362 = .ok (.goto 4, 3) := gX10_work_192.2.2.2.2.2.2.2.2.1
theorem dX10_work_365 : decode cX10_work 365 = .ok (.iconst 0, 1) := gX10_work_192.2.2.2.2.2.2.2.2.2.1
theorem dX10_work_366 : decode cX10_work 366 = .ok (.putfield 231, 3) := gX10_work_192.2.2.2.2.2.2.2.2.2.2.1
theorem dX10_work_369 : decode cX10_work 369 = .ok (.aload_n 0, 1) := gX10_work_192.2.2.2.2.2.2.2.2.2.2.2
theorem gX10_work_204 : (decode cX10_work 370 = .ok (.getfield 67, 3)) ∧ (decode cX10_work 373 = .ok (.aload_n 0, 1)) ∧ (decode cX10_work 374 = .ok (.getfield 228, 3)) ∧ (decode cX10_work 377 = .ok (.iconst 1, 1)) ∧ (decode cX10_work 378 = .ok (.isub, 1)) ∧ (decode cX10_work 379 = .ok (.aload_n 0, 1)) ∧ (decode cX10_work 380 = .ok (.getfield 231, 3)) ∧ (decode cX10_work 383 = .ok (.ifCond .eq 7, 3)) ∧ (decode cX10_work 386 = .ok (.lconst 0, 1)) ∧ (decode cX10_work 387 = .ok (.goto 5, 3)) ∧ (decode cX10_work 390 = .ok (.lload 10, 2)) ∧ (decode cX10_work 392 = .ok (.lastore, 1)) := by decide +kernel
theorem dX10_work_370 : decode cX10_work 370 = .ok (.getfield 67, 3) := gX10_work_204.1
theorem dX10_work_373 : decode cX10_work 373 = .ok (.aload_n 0, 1) := gX10_work_204.2.1
theorem dX10_work_374 : decode cX10_work 374 = .ok (.getfield 228, 3) := gX10_work_204.2.2.1
theorem dX10_work_377 : decode cX10_work 377 = .ok (.iconst 1, 1) := gX10_work_204.2.2.2.1
theorem dX10_work_378 : decode cX10_work 378 = .ok (.isub, 1) := gX10_work_204.2.2.2.2.1
theorem dX10_work_379 : decode cX10_work 379 = .ok (.aload_n 0, 1) := gX10_work_204.2.2.2.2.2.1
theorem dX10_work_380 : decode cX10_work 380 = .ok (.getfield 231, 3) := gX10_work_204.2.2.2.2.2.2.1
theorem dX10_work_383 : decode cX10_work 383 = .ok (.ifCond .eq 7, 3) := gX10_work_204.2.2.2.2.2.2.2.1
theorem dX10_work_386 : decode cX10_work 386 = .ok (.lconst 0, 1) := gX10_work_204.2.2.2.2.2.2.2.2.1
theorem dX10_work_387 : decode cX10_work 387 = .ok (.goto 5, 3) := gX10_work_204.2.2.2.2.2.2.2.2.2.1
theorem dX10_work_390 : decode cX10_work 390 = .ok (.lload 10, 2) := gX10_work_204.2.2.2.2.2.2.2.2.2.2.1
theorem dX10_work_392 : decode cX10_work 392 = .ok (.lastore, 1) := gX10_work_204.2.2.2.2.2.2.2.2.2.2.2
theorem gX10_work_216 : (decode cX10_work 393 = .ok (.aload_n 0, 1)) ∧ (decode cX10_work 394 = .ok (.getfield 70, 3)) ∧ (decode cX10_work 397 = .ok (.aload_n 0, 1)) ∧ (decode cX10_work 398 = .ok (.getfield 228, 3)) ∧ (decode cX10_work 401 = .ok (.iconst 1, 1)) ∧ (decode cX10_work 402 = .ok (.isub, 1)) ∧ (decode cX10_work 403 = .ok (.aload_n 0, 1)) ∧ (decode cX10_work 404 = .ok (.getfield 231, 3)) ∧ (decode cX10_work 407 = .ok (.ifCond .eq 7, 3)) ∧ (decode cX10_work 410 = .ok (.lconst 1, 1)) ∧ (decode cX10_work 411 = .ok (.goto 5, 3)) ∧ (decode cX10_work 414 = .ok (.lload 12, 2)) := by decide +kernel
theorem dX10_work_393 : decode cX10_work 393 = .ok (.aload_n 0, 1) := gX10_work_216.1
theorem dX10_work_394 : decode cX10_work 394 = .ok (.getfield 70, 3) := gX10_work_216.2.1
theorem dX10_work_397 : decode cX10_work 397 = .ok (.aload_n 0, 1) := gX10_work_216.2.2.1
theorem dX10_work_398 : decode cX10_work 398 = .ok (.getfield 228, 3) := gX10_work_216.2.2.2.1
theorem dX10_work_401 : decode cX10_work 401 = .ok (.iconst 1, 1) := gX10_work_216.2.2.2.2.1
theorem dX10_work_402 : decode cX10_work 402 = .ok (.isub, 1) := gX10_work_216.2.2.2.2.2.1
theorem dX10_work_403 : decode cX10_work 403 = .ok (.aload_n 0, 1) := gX10_work_216.2.2.2.2.2.2.1
theorem dX10_work_404 : decode cX10_work 404 = .ok (.getfield 231, 3) := gX10_work_216.2.2.2.2.2.2.2.1
theorem dX10_work_407 : decode cX10_work 407 = .ok (.ifCond .eq 7, 3) := gX10_work_216.2.2.2.2.2.2.2.2.1
theorem dX10_work_410 : decode cX10_work 410 = .ok (.lconst 1, 1) := gX10_work_216.2.2.2.2.2.2.2.2.2.1
theorem dX10_work_411 : decode cX10_work 411 = .ok (.goto 5, 3) := gX10_work_216.2.2.2.2.2.2.2.2.2.2.1
theorem dX10_work_414 : decode cX10_work 414 = .ok (.lload 12, 2) := gX10_work_216.2.2.2.2.2.2.2.2.2.2.2
theorem gX10_work_228 : (decode cX10_work 416 = .ok (.lastore, 1)) ∧ (decode cX10_work 417 = .ok (.return_, 1)) := by decide +kernel
theorem dX10_work_416 : decode cX10_work 416 = .ok (.lastore, 1) := gX10_work_228.1
theorem dX10_work_417 : decode cX10_work 417 = .ok (.return_, 1) := gX10_work_228.2
theorem gX10_topSign_0 : (decode cX10_topSign 0 = .ok (.aload_n 0, 1)) ∧ (decode cX10_topSign 1 = .ok (.getfield 238, 3)) ∧ (decode cX10_topSign 4 = .ok (.ifCond .ne 7, 3)) ∧ (decode cX10_topSign 7 = .ok (.iconst 0, 1)) ∧ (decode cX10_topSign 8 = .ok (.goto 14, 3)) ∧ (decode cX10_topSign 11 = .ok (.aload_n 0, 1)) ∧ (decode cX10_topSign 12 = .ok (.getfield 73, 3)) ∧ (decode cX10_topSign 15 = .ok (.aload_n 0, 1)) ∧ (decode cX10_topSign 16 = .ok (.getfield 238, 3)) ∧ (decode cX10_topSign 19 = .ok (.iconst 1, 1)) ∧ (decode cX10_topSign 20 = .ok (.isub, 1)) ∧ (decode cX10_topSign 21 = .ok (.iaload, 1)) := by decide +kernel
theorem dX10_topSign_0 : decode cX10_topSign 0 = .ok (.aload_n 0, 1) := gX10_topSign_0.1
theorem dX10_topSign_1 : decode cX10_topSign 1 = .ok (.getfield 238, 3) := gX10_topSign_0.2.1
theorem dX10_topSign_4 : decode cX10_topSign 4 = .ok (.ifCond .ne 7, 3) := gX10_topSign_0.2.2.1
theorem dX10_topSign_7 : decode cX10_topSign 7 = .ok (.iconst 0, 1) := gX10_topSign_0.2.2.2.1
theorem dX10_topSign_8 : decode cX10_topSign 8 = .ok (.goto 14, 3) := gX10_topSign_0.2.2.2.2.1
theorem dX10_topSign_11 : decode cX10_topSign 11 = .ok (.aload_n 0, 1) := gX10_topSign_0.2.2.2.2.2.1
theorem dX10_topSign_12 : decode cX10_topSign 12 = .ok (.getfield 73, 3) := gX10_topSign_0.2.2.2.2.2.2.1
theorem dX10_topSign_15 : decode cX10_topSign 15 = .ok (.aload_n 0, 1) := gX10_topSign_0.2.2.2.2.2.2.2.1
theorem dX10_topSign_16 : decode cX10_topSign 16 = .ok (.getfield 238, 3) := gX10_topSign_0.2.2.2.2.2.2.2.2.1
theorem dX10_topSign_19 : decode cX10_topSign 19 = .ok (.iconst 1, 1) := gX10_topSign_0.2.2.2.2.2.2.2.2.2.1
theorem dX10_topSign_20 : decode cX10_topSign 20 = .ok (.isub, 1) := gX10_topSign_0.2.2.2.2.2.2.2.2.2.2.1
theorem dX10_topSign_21 : decode cX10_topSign 21 = .ok (.iaload, 1) := gX10_topSign_0.2.2.2.2.2.2.2.2.2.2.2
theorem gX10_topSign_12 : (decode cX10_topSign 22 = .ok (.ireturn, 1)) := by decide +kernel
theorem dX10_topSign_22 : decode cX10_topSign 22 = .ok (.ireturn, 1) := gX10_topSign_12
theorem gX10_settle_0 : (decode cX10_settle 0 = .ok (.aload_n 0, 1)) ∧ (decode cX10_settle 1 = .ok (.invokevirtual 241, 3)) ∧ (decode cX10_settle 4 = .ok (.bipush 42, 2)) ∧ (decode cX10_settle 6 = .ok (.if_icmp .eq 34, 3)) ∧ (decode cX10_settle 9 = .ok (.aload_n 0, 1)) ∧ (decode cX10_settle 10 = .ok (.invokevirtual 241, 3)) ∧ (decode cX10_settle 13 = .ok (.bipush 47, 2)) ∧ (decode cX10_settle 15 = .ok (.if_icmp .eq 25, 3)) ∧ (decode cX10_settle 18 = .ok (.iload_n 1, 1)) ∧ (decode cX10_settle 19 = .ok (.ifCond .eq 42, 3)) ∧ (decode cX10_settle 22 = .ok (.aload_n 0, 1)) ∧ (decode cX10_settle 23 = .ok (.invokevirtual 241, 3)) := by decide +kernel
theorem dX10_settle_0 : decode cX10_settle 0 = .ok (.aload_n 0, 1) := gX10_settle_0.1
theorem dX10_settle_1 : decode cX10_settle 1 = .ok (.invokevirtual 241, 3) := gX10_settle_0.2.1
theorem dX10_settle_4 : decode cX10_settle 4 = .ok (.bipush 42, 2) := gX10_settle_0.2.2.1
theorem dX10_settle_6 : decode cX10_settle 6 = .ok (.if_icmp .eq 34, 3) := gX10_settle_0.2.2.2.1
theorem dX10_settle_9 : decode cX10_settle 9 = .ok (.aload_n 0, 1) := gX10_settle_0.2.2.2.2.1
theorem dX10_settle_10 : decode cX10_settle 10 = .ok (.invokevirtual 241, 3) := gX10_settle_0.2.2.2.2.2.1
theorem dX10_settle_13 : decode cX10_settle 13 = .ok (.bipush 47, 2) := gX10_settle_0.2.2.2.2.2.2.1
theorem dX10_settle_15 : decode cX10_settle 15 = .ok (.if_icmp .eq 25, 3) := gX10_settle_0.2.2.2.2.2.2.2.1
theorem dX10_settle_18 : decode cX10_settle 18 = .ok (.iload_n 1, 1) := gX10_settle_0.2.2.2.2.2.2.2.2.1
theorem dX10_settle_19 : decode cX10_settle 19 = .ok (.ifCond .eq 42, 3) := gX10_settle_0.2.2.2.2.2.2.2.2.2.1
theorem dX10_settle_22 : decode cX10_settle 22 = .ok (.aload_n 0, 1) := gX10_settle_0.2.2.2.2.2.2.2.2.2.2.1
theorem dX10_settle_23 : decode cX10_settle 23 = .ok (.invokevirtual 241, 3) := gX10_settle_0.2.2.2.2.2.2.2.2.2.2.2
theorem gX10_settle_12 : (decode cX10_settle 26 = .ok (.bipush 43, 2)) ∧ (decode cX10_settle 28 = .ok (.if_icmp .eq 12, 3)) ∧ (decode cX10_settle 31 = .ok (.aload_n 0, 1)) ∧ (decode cX10_settle 32 = .ok (.invokevirtual 241, 3)) ∧ (decode cX10_settle 35 = .ok (.bipush 45, 2)) ∧ (decode cX10_settle 37 = .ok (.if_icmp .ne 24, 3)) ∧ (decode cX10_settle 40 = .ok (.aload_n 0, 1)) ∧ (decode cX10_settle 41 = .ok (.aload_n 0, 1)) ∧ (decode cX10_settle 42 = .ok (.invokevirtual 241, 3)) ∧ (decode cX10_settle 45 = .ok (.invokevirtual 245, 3)) ∧ (decode cX10_settle 48 = .ok (.aload_n 0, 1)) ∧ (decode cX10_settle 49 = .ok (.dup, 1)) := by decide +kernel
theorem dX10_settle_26 : decode cX10_settle 26 = .ok (.bipush 43, 2) := gX10_settle_12.1
theorem dX10_settle_28 : decode cX10_settle 28 = .ok (.if_icmp .eq 12, 3) := gX10_settle_12.2.1
theorem dX10_settle_31 : decode cX10_settle 31 = .ok (.aload_n 0, 1) := gX10_settle_12.2.2.1
theorem dX10_settle_32 : decode cX10_settle 32 = .ok (.invokevirtual 241, 3) := gX10_settle_12.2.2.2.1
theorem dX10_settle_35 : decode cX10_settle 35 = .ok (.bipush 45, 2) := gX10_settle_12.2.2.2.2.1
theorem dX10_settle_37 : decode cX10_settle 37 = .ok (.if_icmp .ne 24, 3) := gX10_settle_12.2.2.2.2.2.1
theorem dX10_settle_40 : decode cX10_settle 40 = .ok (.aload_n 0, 1) := gX10_settle_12.2.2.2.2.2.2.1
theorem dX10_settle_41 : decode cX10_settle 41 = .ok (.aload_n 0, 1) := gX10_settle_12.2.2.2.2.2.2.2.1
theorem dX10_settle_42 : decode cX10_settle 42 = .ok (.invokevirtual 241, 3) := gX10_settle_12.2.2.2.2.2.2.2.2.1
theorem dX10_settle_45 : decode cX10_settle 45 = .ok (.invokevirtual 245, 3) := gX10_settle_12.2.2.2.2.2.2.2.2.2.1
theorem dX10_settle_48 : decode cX10_settle 48 = .ok (.aload_n 0, 1) := gX10_settle_12.2.2.2.2.2.2.2.2.2.2.1
theorem dX10_settle_49 : decode cX10_settle 49 = .ok (.dup, 1) := gX10_settle_12.2.2.2.2.2.2.2.2.2.2.2
theorem gX10_settle_24 : (decode cX10_settle 50 = .ok (.getfield 238, 3)) ∧ (decode cX10_settle 53 = .ok (.iconst 1, 1)) ∧ (decode cX10_settle 54 = .ok (.isub, 1)) ∧ (decode cX10_settle 55 = .ok (.putfield 238, 3)) ∧ (decode cX10_settle 58 = .ok (.goto (-58), 3)) ∧ (decode cX10_settle 61 = .ok (.return_, 1)) := by decide +kernel
theorem dX10_settle_50 : decode cX10_settle 50 = .ok (.getfield 238, 3) := gX10_settle_24.1
theorem dX10_settle_53 : decode cX10_settle 53 = .ok (.iconst 1, 1) := gX10_settle_24.2.1
theorem dX10_settle_54 : decode cX10_settle 54 = .ok (.isub, 1) := gX10_settle_24.2.2.1
theorem dX10_settle_55 : decode cX10_settle 55 = .ok (.putfield 238, 3) := gX10_settle_24.2.2.2.1
theorem dX10_settle_58 : decode cX10_settle 58 = .ok (.goto (-58), 3) := gX10_settle_24.2.2.2.2.1
theorem dX10_settle_61 : decode cX10_settle 61 = .ok (.return_, 1) := gX10_settle_24.2.2.2.2.2
theorem gX10_byteAt_0 : (decode cX10_byteAt 0 = .ok (.iload_n 2, 1)) ∧ (decode cX10_byteAt 1 = .ok (.iload_n 1, 1)) ∧ (decode cX10_byteAt 2 = .ok (.if_icmp .ge 9, 3)) ∧ (decode cX10_byteAt 5 = .ok (.aload_n 0, 1)) ∧ (decode cX10_byteAt 6 = .ok (.iload_n 2, 1)) ∧ (decode cX10_byteAt 7 = .ok (.iaload, 1)) ∧ (decode cX10_byteAt 8 = .ok (.goto 4, 3)) ∧ (decode cX10_byteAt 11 = .ok (.iconst (-1), 1)) ∧ (decode cX10_byteAt 12 = .ok (.ireturn, 1)) := by decide +kernel
theorem dX10_byteAt_0 : decode cX10_byteAt 0 = .ok (.iload_n 2, 1) := gX10_byteAt_0.1
theorem dX10_byteAt_1 : decode cX10_byteAt 1 = .ok (.iload_n 1, 1) := gX10_byteAt_0.2.1
theorem dX10_byteAt_2 : decode cX10_byteAt 2 = .ok (.if_icmp .ge 9, 3) := gX10_byteAt_0.2.2.1
theorem dX10_byteAt_5 : decode cX10_byteAt 5 = .ok (.aload_n 0, 1) := gX10_byteAt_0.2.2.2.1
theorem dX10_byteAt_6 : decode cX10_byteAt 6 = .ok (.iload_n 2, 1) := gX10_byteAt_0.2.2.2.2.1
theorem dX10_byteAt_7 : decode cX10_byteAt 7 = .ok (.iaload, 1) := gX10_byteAt_0.2.2.2.2.2.1
theorem dX10_byteAt_8 : decode cX10_byteAt 8 = .ok (.goto 4, 3) := gX10_byteAt_0.2.2.2.2.2.2.1
theorem dX10_byteAt_11 : decode cX10_byteAt 11 = .ok (.iconst (-1), 1) := gX10_byteAt_0.2.2.2.2.2.2.2.1
theorem dX10_byteAt_12 : decode cX10_byteAt 12 = .ok (.ireturn, 1) := gX10_byteAt_0.2.2.2.2.2.2.2.2
theorem gX10_push_0 : (decode cX10_push 0 = .ok (.aload_n 0, 1)) ∧ (decode cX10_push 1 = .ok (.getfield 67, 3)) ∧ (decode cX10_push 4 = .ok (.aload_n 0, 1)) ∧ (decode cX10_push 5 = .ok (.getfield 228, 3)) ∧ (decode cX10_push 8 = .ok (.lload_n 1, 1)) ∧ (decode cX10_push 9 = .ok (.lastore, 1)) ∧ (decode cX10_push 10 = .ok (.aload_n 0, 1)) ∧ (decode cX10_push 11 = .ok (.getfield 70, 3)) ∧ (decode cX10_push 14 = .ok (.aload_n 0, 1)) ∧ (decode cX10_push 15 = .ok (.getfield 228, 3)) ∧ (decode cX10_push 18 = .ok (.lload_n 3, 1)) ∧ (decode cX10_push 19 = .ok (.lastore, 1)) := by decide +kernel
theorem dX10_push_0 : decode cX10_push 0 = .ok (.aload_n 0, 1) := gX10_push_0.1
theorem dX10_push_1 : decode cX10_push 1 = .ok (.getfield 67, 3) := gX10_push_0.2.1
theorem dX10_push_4 : decode cX10_push 4 = .ok (.aload_n 0, 1) := gX10_push_0.2.2.1
theorem dX10_push_5 : decode cX10_push 5 = .ok (.getfield 228, 3) := gX10_push_0.2.2.2.1
theorem dX10_push_8 : decode cX10_push 8 = .ok (.lload_n 1, 1) := gX10_push_0.2.2.2.2.1
theorem dX10_push_9 : decode cX10_push 9 = .ok (.lastore, 1) := gX10_push_0.2.2.2.2.2.1
theorem dX10_push_10 : decode cX10_push 10 = .ok (.aload_n 0, 1) := gX10_push_0.2.2.2.2.2.2.1
theorem dX10_push_11 : decode cX10_push 11 = .ok (.getfield 70, 3) := gX10_push_0.2.2.2.2.2.2.2.1
theorem dX10_push_14 : decode cX10_push 14 = .ok (.aload_n 0, 1) := gX10_push_0.2.2.2.2.2.2.2.2.1
theorem dX10_push_15 : decode cX10_push 15 = .ok (.getfield 228, 3) := gX10_push_0.2.2.2.2.2.2.2.2.2.1
theorem dX10_push_18 : decode cX10_push 18 = .ok (.lload_n 3, 1) := gX10_push_0.2.2.2.2.2.2.2.2.2.2.1
theorem dX10_push_19 : decode cX10_push 19 = .ok (.lastore, 1) := gX10_push_0.2.2.2.2.2.2.2.2.2.2.2
theorem gX10_push_12 : (decode cX10_push 20 = .ok (.aload_n 0, 1)) ∧ (decode cX10_push 21 = .ok (.dup, 1)) ∧ (decode cX10_push 22 = .ok (.getfield 228, 3)) ∧ (decode cX10_push 25 = .ok (.iconst 1, 1)) ∧ (decode cX10_push 26 = .ok (.iadd, 1)) ∧ (decode cX10_push 27 = .ok (.putfield 228, 3)) ∧ (decode cX10_push 30 = .ok (.aload_n 0, 1)) ∧ (decode cX10_push 31 = .ok (.dup, 1)) ∧ (decode cX10_push 32 = .ok (.getfield 249, 3)) ∧ (decode cX10_push 35 = .ok (.iconst 1, 1)) ∧ (decode cX10_push 36 = .ok (.iadd, 1)) ∧ (decode cX10_push 37 = .ok (.putfield 249, 3)) := by decide +kernel
theorem dX10_push_20 : decode cX10_push 20 = .ok (.aload_n 0, 1) := gX10_push_12.1
theorem dX10_push_21 : decode cX10_push 21 = .ok (.dup, 1) := gX10_push_12.2.1
theorem dX10_push_22 : decode cX10_push 22 = .ok (.getfield 228, 3) := gX10_push_12.2.2.1
theorem dX10_push_25 : decode cX10_push 25 = .ok (.iconst 1, 1) := gX10_push_12.2.2.2.1
theorem dX10_push_26 : decode cX10_push 26 = .ok (.iadd, 1) := gX10_push_12.2.2.2.2.1
theorem dX10_push_27 : decode cX10_push 27 = .ok (.putfield 228, 3) := gX10_push_12.2.2.2.2.2.1
theorem dX10_push_30 : decode cX10_push 30 = .ok (.aload_n 0, 1) := gX10_push_12.2.2.2.2.2.2.1
theorem dX10_push_31 : decode cX10_push 31 = .ok (.dup, 1) := gX10_push_12.2.2.2.2.2.2.2.1
theorem dX10_push_32 : decode cX10_push 32 = .ok (.getfield 249, 3) := gX10_push_12.2.2.2.2.2.2.2.2.1
theorem dX10_push_35 : decode cX10_push 35 = .ok (.iconst 1, 1) := gX10_push_12.2.2.2.2.2.2.2.2.2.1
theorem dX10_push_36 : decode cX10_push 36 = .ok (.iadd, 1) := gX10_push_12.2.2.2.2.2.2.2.2.2.2.1
theorem dX10_push_37 : decode cX10_push 37 = .ok (.putfield 249, 3) := gX10_push_12.2.2.2.2.2.2.2.2.2.2.2
theorem gX10_push_24 : (decode cX10_push 40 = .ok (.return_, 1)) := by decide +kernel
theorem dX10_push_40 : decode cX10_push 40 = .ok (.return_, 1) := gX10_push_24
theorem gX10_open_0 : (decode cX10_open 0 = .ok (.aload_n 0, 1)) ∧ (decode cX10_open 1 = .ok (.getfield 252, 3)) ∧ (decode cX10_open 4 = .ok (.bipush 6, 2)) ∧ (decode cX10_open 6 = .ok (.if_icmp .ne 9, 3)) ∧ (decode cX10_open 9 = .ok (.aload_n 0, 1)) ∧ (decode cX10_open 10 = .ok (.iconst 1, 1)) ∧ (decode cX10_open 11 = .ok (.putfield 255, 3)) ∧ (decode cX10_open 14 = .ok (.return_, 1)) ∧ (decode cX10_open 15 = .ok (.aload_n 0, 1)) ∧ (decode cX10_open 16 = .ok (.dup, 1)) ∧ (decode cX10_open 17 = .ok (.getfield 252, 3)) ∧ (decode cX10_open 20 = .ok (.iconst 1, 1)) := by decide +kernel
theorem dX10_open_0 : decode cX10_open 0 = .ok (.aload_n 0, 1) := gX10_open_0.1
theorem dX10_open_1 : decode cX10_open 1 = .ok (.getfield 252, 3) := gX10_open_0.2.1
theorem dX10_open_4 : decode cX10_open 4 = .ok (.bipush 6, 2) := gX10_open_0.2.2.1
theorem dX10_open_6 : decode cX10_open 6 = .ok (.if_icmp .ne 9, 3) := gX10_open_0.2.2.2.1
theorem dX10_open_9 : decode cX10_open 9 = .ok (.aload_n 0, 1) := gX10_open_0.2.2.2.2.1
theorem dX10_open_10 : decode cX10_open 10 = .ok (.iconst 1, 1) := gX10_open_0.2.2.2.2.2.1
theorem dX10_open_11 : decode cX10_open 11 = .ok (.putfield 255, 3) := gX10_open_0.2.2.2.2.2.2.1
theorem dX10_open_14 : decode cX10_open 14 = .ok (.return_, 1) := gX10_open_0.2.2.2.2.2.2.2.1
theorem dX10_open_15 : decode cX10_open 15 = .ok (.aload_n 0, 1) := gX10_open_0.2.2.2.2.2.2.2.2.1
theorem dX10_open_16 : decode cX10_open 16 = .ok (.dup, 1) := gX10_open_0.2.2.2.2.2.2.2.2.2.1
theorem dX10_open_17 : decode cX10_open 17 = .ok (.getfield 252, 3) := gX10_open_0.2.2.2.2.2.2.2.2.2.2.1
theorem dX10_open_20 : decode cX10_open 20 = .ok (.iconst 1, 1) := gX10_open_0.2.2.2.2.2.2.2.2.2.2.2
theorem gX10_open_12 : (decode cX10_open 21 = .ok (.iadd, 1)) ∧ (decode cX10_open 22 = .ok (.putfield 252, 3)) ∧ (decode cX10_open 25 = .ok (.aload_n 0, 1)) ∧ (decode cX10_open 26 = .ok (.getfield 73, 3)) ∧ (decode cX10_open 29 = .ok (.aload_n 0, 1)) ∧ (decode cX10_open 30 = .ok (.getfield 238, 3)) ∧ (decode cX10_open 33 = .ok (.iload_n 1, 1)) ∧ (decode cX10_open 34 = .ok (.iastore, 1)) ∧ (decode cX10_open 35 = .ok (.aload_n 0, 1)) ∧ (decode cX10_open 36 = .ok (.dup, 1)) ∧ (decode cX10_open 37 = .ok (.getfield 238, 3)) ∧ (decode cX10_open 40 = .ok (.iconst 1, 1)) := by decide +kernel
theorem dX10_open_21 : decode cX10_open 21 = .ok (.iadd, 1) := gX10_open_12.1
theorem dX10_open_22 : decode cX10_open 22 = .ok (.putfield 252, 3) := gX10_open_12.2.1
theorem dX10_open_25 : decode cX10_open 25 = .ok (.aload_n 0, 1) := gX10_open_12.2.2.1
theorem dX10_open_26 : decode cX10_open 26 = .ok (.getfield 73, 3) := gX10_open_12.2.2.2.1
theorem dX10_open_29 : decode cX10_open 29 = .ok (.aload_n 0, 1) := gX10_open_12.2.2.2.2.1
theorem dX10_open_30 : decode cX10_open 30 = .ok (.getfield 238, 3) := gX10_open_12.2.2.2.2.2.1
theorem dX10_open_33 : decode cX10_open 33 = .ok (.iload_n 1, 1) := gX10_open_12.2.2.2.2.2.2.1
theorem dX10_open_34 : decode cX10_open 34 = .ok (.iastore, 1) := gX10_open_12.2.2.2.2.2.2.2.1
theorem dX10_open_35 : decode cX10_open 35 = .ok (.aload_n 0, 1) := gX10_open_12.2.2.2.2.2.2.2.2.1
theorem dX10_open_36 : decode cX10_open 36 = .ok (.dup, 1) := gX10_open_12.2.2.2.2.2.2.2.2.2.1
theorem dX10_open_37 : decode cX10_open 37 = .ok (.getfield 238, 3) := gX10_open_12.2.2.2.2.2.2.2.2.2.2.1
theorem dX10_open_40 : decode cX10_open 40 = .ok (.iconst 1, 1) := gX10_open_12.2.2.2.2.2.2.2.2.2.2.2
theorem gX10_open_24 : (decode cX10_open 41 = .ok (.iadd, 1)) ∧ (decode cX10_open 42 = .ok (.putfield 238, 3)) ∧ (decode cX10_open 45 = .ok (.aload_n 0, 1)) ∧ (decode cX10_open 46 = .ok (.dup, 1)) ∧ (decode cX10_open 47 = .ok (.getfield 258, 3)) ∧ (decode cX10_open 50 = .ok (.iconst 1, 1)) ∧ (decode cX10_open 51 = .ok (.iadd, 1)) ∧ (decode cX10_open 52 = .ok (.putfield 258, 3)) ∧ (decode cX10_open 55 = .ok (.return_, 1)) := by decide +kernel
theorem dX10_open_41 : decode cX10_open 41 = .ok (.iadd, 1) := gX10_open_24.1
theorem dX10_open_42 : decode cX10_open 42 = .ok (.putfield 238, 3) := gX10_open_24.2.1
theorem dX10_open_45 : decode cX10_open 45 = .ok (.aload_n 0, 1) := gX10_open_24.2.2.1
theorem dX10_open_46 : decode cX10_open 46 = .ok (.dup, 1) := gX10_open_24.2.2.2.1
theorem dX10_open_47 : decode cX10_open 47 = .ok (.getfield 258, 3) := gX10_open_24.2.2.2.2.1
theorem dX10_open_50 : decode cX10_open 50 = .ok (.iconst 1, 1) := gX10_open_24.2.2.2.2.2.1
theorem dX10_open_51 : decode cX10_open 51 = .ok (.iadd, 1) := gX10_open_24.2.2.2.2.2.2.1
theorem dX10_open_52 : decode cX10_open 52 = .ok (.putfield 258, 3) := gX10_open_24.2.2.2.2.2.2.2.1
theorem dX10_open_55 : decode cX10_open 55 = .ok (.return_, 1) := gX10_open_24.2.2.2.2.2.2.2.2
theorem gX10_isDigit_0 : (decode cX10_isDigit 0 = .ok (.iload_n 0, 1)) ∧ (decode cX10_isDigit 1 = .ok (.bipush 48, 2)) ∧ (decode cX10_isDigit 3 = .ok (.bipush 57, 2)) ∧ (decode cX10_isDigit 5 = .ok (.invokestatic 144, 3)) ∧ (decode cX10_isDigit 8 = .ok (.ireturn, 1)) := by decide +kernel
theorem dX10_isDigit_0 : decode cX10_isDigit 0 = .ok (.iload_n 0, 1) := gX10_isDigit_0.1
theorem dX10_isDigit_1 : decode cX10_isDigit 1 = .ok (.bipush 48, 2) := gX10_isDigit_0.2.1
theorem dX10_isDigit_3 : decode cX10_isDigit 3 = .ok (.bipush 57, 2) := gX10_isDigit_0.2.2.1
theorem dX10_isDigit_5 : decode cX10_isDigit 5 = .ok (.invokestatic 144, 3) := gX10_isDigit_0.2.2.2.1
theorem dX10_isDigit_8 : decode cX10_isDigit 8 = .ok (.ireturn, 1) := gX10_isDigit_0.2.2.2.2
theorem gX10_readUnit_0 : (decode cX10_readUnit 0 = .ok (.aload_n 1, 1)) ∧ (decode cX10_readUnit 1 = .ok (.iload_n 2, 1)) ∧ (decode cX10_readUnit 2 = .ok (.aload_n 0, 1)) ∧ (decode cX10_readUnit 3 = .ok (.getfield 258, 3)) ∧ (decode cX10_readUnit 6 = .ok (.invokestatic 261, 3)) ∧ (decode cX10_readUnit 9 = .ok (.istore_n 3, 1)) ∧ (decode cX10_readUnit 10 = .ok (.iload_n 3, 1)) ∧ (decode cX10_readUnit 11 = .ok (.bipush 60, 2)) ∧ (decode cX10_readUnit 13 = .ok (.if_icmp .eq 9, 3)) ∧ (decode cX10_readUnit 16 = .ok (.iload_n 3, 1)) ∧ (decode cX10_readUnit 17 = .ok (.bipush 62, 2)) ∧ (decode cX10_readUnit 19 = .ok (.if_icmp .ne 42, 3)) := by decide +kernel
theorem dX10_readUnit_0 : decode cX10_readUnit 0 = .ok (.aload_n 1, 1) := gX10_readUnit_0.1
theorem dX10_readUnit_1 : decode cX10_readUnit 1 = .ok (.iload_n 2, 1) := gX10_readUnit_0.2.1
theorem dX10_readUnit_2 : decode cX10_readUnit 2 = .ok (.aload_n 0, 1) := gX10_readUnit_0.2.2.1
theorem dX10_readUnit_3 : decode cX10_readUnit 3 = .ok (.getfield 258, 3) := gX10_readUnit_0.2.2.2.1
theorem dX10_readUnit_6 : decode cX10_readUnit 6 = .ok (.invokestatic 261, 3) := gX10_readUnit_0.2.2.2.2.1
theorem dX10_readUnit_9 : decode cX10_readUnit 9 = .ok (.istore_n 3, 1) := gX10_readUnit_0.2.2.2.2.2.1
theorem dX10_readUnit_10 : decode cX10_readUnit 10 = .ok (.iload_n 3, 1) := gX10_readUnit_0.2.2.2.2.2.2.1
theorem dX10_readUnit_11 : decode cX10_readUnit 11 = .ok (.bipush 60, 2) := gX10_readUnit_0.2.2.2.2.2.2.2.1
theorem dX10_readUnit_13 : decode cX10_readUnit 13 = .ok (.if_icmp .eq 9, 3) := gX10_readUnit_0.2.2.2.2.2.2.2.2.1
theorem dX10_readUnit_16 : decode cX10_readUnit 16 = .ok (.iload_n 3, 1) := gX10_readUnit_0.2.2.2.2.2.2.2.2.2.1
theorem dX10_readUnit_17 : decode cX10_readUnit 17 = .ok (.bipush 62, 2) := gX10_readUnit_0.2.2.2.2.2.2.2.2.2.2.1
theorem dX10_readUnit_19 : decode cX10_readUnit 19 = .ok (.if_icmp .ne 42, 3) := gX10_readUnit_0.2.2.2.2.2.2.2.2.2.2.2
theorem gX10_readUnit_12 : (decode cX10_readUnit 22 = .ok (.aload_n 0, 1)) ∧ (decode cX10_readUnit 23 = .ok (.dup, 1)) ∧ (decode cX10_readUnit 24 = .ok (.getfield 258, 3)) ∧ (decode cX10_readUnit 27 = .ok (.iconst 1, 1)) ∧ (decode cX10_readUnit 28 = .ok (.iadd, 1)) ∧ (decode cX10_readUnit 29 = .ok (.putfield 258, 3)) ∧ (decode cX10_readUnit 32 = .ok (.aload_n 1, 1)) ∧ (decode cX10_readUnit 33 = .ok (.iload_n 2, 1)) ∧ (decode cX10_readUnit 34 = .ok (.aload_n 0, 1)) ∧ (decode cX10_readUnit 35 = .ok (.getfield 258, 3)) ∧ (decode cX10_readUnit 38 = .ok (.invokestatic 261, 3)) ∧ (decode cX10_readUnit 41 = .ok (.bipush 40, 2)) := by decide +kernel
theorem dX10_readUnit_22 : decode cX10_readUnit 22 = .ok (.aload_n 0, 1) := gX10_readUnit_12.1
theorem dX10_readUnit_23 : decode cX10_readUnit 23 = .ok (.dup, 1) := gX10_readUnit_12.2.1
theorem dX10_readUnit_24 : decode cX10_readUnit 24 = .ok (.getfield 258, 3) := gX10_readUnit_12.2.2.1
theorem dX10_readUnit_27 : decode cX10_readUnit 27 = .ok (.iconst 1, 1) := gX10_readUnit_12.2.2.2.1
theorem dX10_readUnit_28 : decode cX10_readUnit 28 = .ok (.iadd, 1) := gX10_readUnit_12.2.2.2.2.1
theorem dX10_readUnit_29 : decode cX10_readUnit 29 = .ok (.putfield 258, 3) := gX10_readUnit_12.2.2.2.2.2.1
theorem dX10_readUnit_32 : decode cX10_readUnit 32 = .ok (.aload_n 1, 1) := gX10_readUnit_12.2.2.2.2.2.2.1
theorem dX10_readUnit_33 : decode cX10_readUnit 33 = .ok (.iload_n 2, 1) := gX10_readUnit_12.2.2.2.2.2.2.2.1
theorem dX10_readUnit_34 : decode cX10_readUnit 34 = .ok (.aload_n 0, 1) := gX10_readUnit_12.2.2.2.2.2.2.2.2.1
theorem dX10_readUnit_35 : decode cX10_readUnit 35 = .ok (.getfield 258, 3) := gX10_readUnit_12.2.2.2.2.2.2.2.2.2.1
theorem dX10_readUnit_38 : decode cX10_readUnit 38 = .ok (.invokestatic 261, 3) := gX10_readUnit_12.2.2.2.2.2.2.2.2.2.2.1
theorem dX10_readUnit_41 : decode cX10_readUnit 41 = .ok (.bipush 40, 2) := gX10_readUnit_12.2.2.2.2.2.2.2.2.2.2.2
theorem gX10_readUnit_24 : (decode cX10_readUnit 43 = .ok (.if_icmp .ne 11, 3)) ∧ (decode cX10_readUnit 46 = .ok (.aload_n 0, 1)) ∧ (decode cX10_readUnit 47 = .ok (.iload_n 3, 1)) ∧ (decode cX10_readUnit 48 = .ok (.invokevirtual 265, 3)) ∧ (decode cX10_readUnit 51 = .ok (.goto 8, 3)) ∧ (decode cX10_readUnit 54 = .ok (.aload_n 0, 1)) ∧ (decode cX10_readUnit 55 = .ok (.iconst 1, 1)) ∧ (decode cX10_readUnit 56 = .ok (.putfield 255, 3)) ∧ (decode cX10_readUnit 59 = .ok (.iconst 1, 1)) ∧ (decode cX10_readUnit 60 = .ok (.ireturn, 1)) ∧ (decode cX10_readUnit 61 = .ok (.iload_n 3, 1)) ∧ (decode cX10_readUnit 62 = .ok (.bipush 40, 2)) := by decide +kernel
theorem dX10_readUnit_43 : decode cX10_readUnit 43 = .ok (.if_icmp .ne 11, 3) := gX10_readUnit_24.1
theorem dX10_readUnit_46 : decode cX10_readUnit 46 = .ok (.aload_n 0, 1) := gX10_readUnit_24.2.1
theorem dX10_readUnit_47 : decode cX10_readUnit 47 = .ok (.iload_n 3, 1) := gX10_readUnit_24.2.2.1
theorem dX10_readUnit_48 : decode cX10_readUnit 48 = .ok (.invokevirtual 265, 3) := gX10_readUnit_24.2.2.2.1
theorem dX10_readUnit_51 : decode cX10_readUnit 51 = .ok (.goto 8, 3) := gX10_readUnit_24.2.2.2.2.1
theorem dX10_readUnit_54 : decode cX10_readUnit 54 = .ok (.aload_n 0, 1) := gX10_readUnit_24.2.2.2.2.2.1
theorem dX10_readUnit_55 : decode cX10_readUnit 55 = .ok (.iconst 1, 1) := gX10_readUnit_24.2.2.2.2.2.2.1
theorem dX10_readUnit_56 : decode cX10_readUnit 56 = .ok (.putfield 255, 3) := gX10_readUnit_24.2.2.2.2.2.2.2.1
theorem dX10_readUnit_59 : decode cX10_readUnit 59 = .ok (.iconst 1, 1) := gX10_readUnit_24.2.2.2.2.2.2.2.2.1
theorem dX10_readUnit_60 : decode cX10_readUnit 60 = .ok (.ireturn, 1) := gX10_readUnit_24.2.2.2.2.2.2.2.2.2.1
theorem dX10_readUnit_61 : decode cX10_readUnit 61 = .ok (.iload_n 3, 1) := gX10_readUnit_24.2.2.2.2.2.2.2.2.2.2.1
theorem dX10_readUnit_62 : decode cX10_readUnit 62 = .ok (.bipush 40, 2) := gX10_readUnit_24.2.2.2.2.2.2.2.2.2.2.2
theorem gX10_readUnit_36 : (decode cX10_readUnit 64 = .ok (.if_icmp .ne 11, 3)) ∧ (decode cX10_readUnit 67 = .ok (.aload_n 0, 1)) ∧ (decode cX10_readUnit 68 = .ok (.bipush 40, 2)) ∧ (decode cX10_readUnit 70 = .ok (.invokevirtual 265, 3)) ∧ (decode cX10_readUnit 73 = .ok (.iconst 1, 1)) ∧ (decode cX10_readUnit 74 = .ok (.ireturn, 1)) ∧ (decode cX10_readUnit 75 = .ok (.iload_n 3, 1)) ∧ (decode cX10_readUnit 76 = .ok (.invokestatic 268, 3)) ∧ (decode cX10_readUnit 79 = .ok (.ifCond .lt 37, 3)) ∧ (decode cX10_readUnit 82 = .ok (.aload_n 0, 1)) ∧ (decode cX10_readUnit 83 = .ok (.aload_n 0, 1)) ∧ (decode cX10_readUnit 84 = .ok (.getfield 60, 3)) := by decide +kernel
theorem dX10_readUnit_64 : decode cX10_readUnit 64 = .ok (.if_icmp .ne 11, 3) := gX10_readUnit_36.1
theorem dX10_readUnit_67 : decode cX10_readUnit 67 = .ok (.aload_n 0, 1) := gX10_readUnit_36.2.1
theorem dX10_readUnit_68 : decode cX10_readUnit 68 = .ok (.bipush 40, 2) := gX10_readUnit_36.2.2.1
theorem dX10_readUnit_70 : decode cX10_readUnit 70 = .ok (.invokevirtual 265, 3) := gX10_readUnit_36.2.2.2.1
theorem dX10_readUnit_73 : decode cX10_readUnit 73 = .ok (.iconst 1, 1) := gX10_readUnit_36.2.2.2.2.1
theorem dX10_readUnit_74 : decode cX10_readUnit 74 = .ok (.ireturn, 1) := gX10_readUnit_36.2.2.2.2.2.1
theorem dX10_readUnit_75 : decode cX10_readUnit 75 = .ok (.iload_n 3, 1) := gX10_readUnit_36.2.2.2.2.2.2.1
theorem dX10_readUnit_76 : decode cX10_readUnit 76 = .ok (.invokestatic 268, 3) := gX10_readUnit_36.2.2.2.2.2.2.2.1
theorem dX10_readUnit_79 : decode cX10_readUnit 79 = .ok (.ifCond .lt 37, 3) := gX10_readUnit_36.2.2.2.2.2.2.2.2.1
theorem dX10_readUnit_82 : decode cX10_readUnit 82 = .ok (.aload_n 0, 1) := gX10_readUnit_36.2.2.2.2.2.2.2.2.2.1
theorem dX10_readUnit_83 : decode cX10_readUnit 83 = .ok (.aload_n 0, 1) := gX10_readUnit_36.2.2.2.2.2.2.2.2.2.2.1
theorem dX10_readUnit_84 : decode cX10_readUnit 84 = .ok (.getfield 60, 3) := gX10_readUnit_36.2.2.2.2.2.2.2.2.2.2.2
theorem gX10_readUnit_48 : (decode cX10_readUnit 87 = .ok (.iload_n 3, 1)) ∧ (decode cX10_readUnit 88 = .ok (.invokestatic 268, 3)) ∧ (decode cX10_readUnit 91 = .ok (.laload, 1)) ∧ (decode cX10_readUnit 92 = .ok (.aload_n 0, 1)) ∧ (decode cX10_readUnit 93 = .ok (.getfield 64, 3)) ∧ (decode cX10_readUnit 96 = .ok (.iload_n 3, 1)) ∧ (decode cX10_readUnit 97 = .ok (.invokestatic 268, 3)) ∧ (decode cX10_readUnit 100 = .ok (.laload, 1)) ∧ (decode cX10_readUnit 101 = .ok (.invokevirtual 271, 3)) ∧ (decode cX10_readUnit 104 = .ok (.aload_n 0, 1)) ∧ (decode cX10_readUnit 105 = .ok (.dup, 1)) ∧ (decode cX10_readUnit 106 = .ok (.getfield 258, 3)) := by decide +kernel
theorem dX10_readUnit_87 : decode cX10_readUnit 87 = .ok (.iload_n 3, 1) := gX10_readUnit_48.1
theorem dX10_readUnit_88 : decode cX10_readUnit 88 = .ok (.invokestatic 268, 3) := gX10_readUnit_48.2.1
theorem dX10_readUnit_91 : decode cX10_readUnit 91 = .ok (.laload, 1) := gX10_readUnit_48.2.2.1
theorem dX10_readUnit_92 : decode cX10_readUnit 92 = .ok (.aload_n 0, 1) := gX10_readUnit_48.2.2.2.1
theorem dX10_readUnit_93 : decode cX10_readUnit 93 = .ok (.getfield 64, 3) := gX10_readUnit_48.2.2.2.2.1
theorem dX10_readUnit_96 : decode cX10_readUnit 96 = .ok (.iload_n 3, 1) := gX10_readUnit_48.2.2.2.2.2.1
theorem dX10_readUnit_97 : decode cX10_readUnit 97 = .ok (.invokestatic 268, 3) := gX10_readUnit_48.2.2.2.2.2.2.1
theorem dX10_readUnit_100 : decode cX10_readUnit 100 = .ok (.laload, 1) := gX10_readUnit_48.2.2.2.2.2.2.2.1
theorem dX10_readUnit_101 : decode cX10_readUnit 101 = .ok (.invokevirtual 271, 3) := gX10_readUnit_48.2.2.2.2.2.2.2.2.1
theorem dX10_readUnit_104 : decode cX10_readUnit 104 = .ok (.aload_n 0, 1) := gX10_readUnit_48.2.2.2.2.2.2.2.2.2.1
theorem dX10_readUnit_105 : decode cX10_readUnit 105 = .ok (.dup, 1) := gX10_readUnit_48.2.2.2.2.2.2.2.2.2.2.1
theorem dX10_readUnit_106 : decode cX10_readUnit 106 = .ok (.getfield 258, 3) := gX10_readUnit_48.2.2.2.2.2.2.2.2.2.2.2
theorem gX10_readUnit_60 : (decode cX10_readUnit 109 = .ok (.iconst 1, 1)) ∧ (decode cX10_readUnit 110 = .ok (.iadd, 1)) ∧ (decode cX10_readUnit 111 = .ok (.putfield 258, 3)) ∧ (decode cX10_readUnit 114 = .ok (.iconst 0, 1)) ∧ (decode cX10_readUnit 115 = .ok (.ireturn, 1)) ∧ (decode cX10_readUnit 116 = .ok (.iload_n 3, 1)) ∧ (decode cX10_readUnit 117 = .ok (.invokestatic 275, 3)) ∧ (decode cX10_readUnit 120 = .ok (.ifCond .ne 10, 3)) ∧ (decode cX10_readUnit 123 = .ok (.aload_n 0, 1)) ∧ (decode cX10_readUnit 124 = .ok (.iconst 1, 1)) ∧ (decode cX10_readUnit 125 = .ok (.putfield 255, 3)) ∧ (decode cX10_readUnit 128 = .ok (.iconst 1, 1)) := by decide +kernel
theorem dX10_readUnit_109 : decode cX10_readUnit 109 = .ok (.iconst 1, 1) := gX10_readUnit_60.1
theorem dX10_readUnit_110 : decode cX10_readUnit 110 = .ok (.iadd, 1) := gX10_readUnit_60.2.1
theorem dX10_readUnit_111 : decode cX10_readUnit 111 = .ok (.putfield 258, 3) := gX10_readUnit_60.2.2.1
theorem dX10_readUnit_114 : decode cX10_readUnit 114 = .ok (.iconst 0, 1) := gX10_readUnit_60.2.2.2.1
theorem dX10_readUnit_115 : decode cX10_readUnit 115 = .ok (.ireturn, 1) := gX10_readUnit_60.2.2.2.2.1
theorem dX10_readUnit_116 : decode cX10_readUnit 116 = .ok (.iload_n 3, 1) := gX10_readUnit_60.2.2.2.2.2.1
theorem dX10_readUnit_117 : decode cX10_readUnit 117 = .ok (.invokestatic 275, 3) := gX10_readUnit_60.2.2.2.2.2.2.1
theorem dX10_readUnit_120 : decode cX10_readUnit 120 = .ok (.ifCond .ne 10, 3) := gX10_readUnit_60.2.2.2.2.2.2.2.1
theorem dX10_readUnit_123 : decode cX10_readUnit 123 = .ok (.aload_n 0, 1) := gX10_readUnit_60.2.2.2.2.2.2.2.2.1
theorem dX10_readUnit_124 : decode cX10_readUnit 124 = .ok (.iconst 1, 1) := gX10_readUnit_60.2.2.2.2.2.2.2.2.2.1
theorem dX10_readUnit_125 : decode cX10_readUnit 125 = .ok (.putfield 255, 3) := gX10_readUnit_60.2.2.2.2.2.2.2.2.2.2.1
theorem dX10_readUnit_128 : decode cX10_readUnit 128 = .ok (.iconst 1, 1) := gX10_readUnit_60.2.2.2.2.2.2.2.2.2.2.2
theorem gX10_readUnit_72 : (decode cX10_readUnit 129 = .ok (.ireturn, 1)) ∧ (decode cX10_readUnit 130 = .ok (.lconst 0, 1)) ∧ (decode cX10_readUnit 131 = .ok (.lstore 4, 2)) ∧ (decode cX10_readUnit 133 = .ok (.iconst 0, 1)) ∧ (decode cX10_readUnit 134 = .ok (.istore 6, 2)) ∧ (decode cX10_readUnit 136 = .ok (.iload 6, 2)) ∧ (decode cX10_readUnit 138 = .ok (.bipush 6, 2)) ∧ (decode cX10_readUnit 140 = .ok (.if_icmp .ge 57, 3)) ∧ (decode cX10_readUnit 143 = .ok (.aload_n 1, 1)) ∧ (decode cX10_readUnit 144 = .ok (.iload_n 2, 1)) ∧ (decode cX10_readUnit 145 = .ok (.aload_n 0, 1)) ∧ (decode cX10_readUnit 146 = .ok (.getfield 258, 3)) := by decide +kernel
theorem dX10_readUnit_129 : decode cX10_readUnit 129 = .ok (.ireturn, 1) := gX10_readUnit_72.1
theorem dX10_readUnit_130 : decode cX10_readUnit 130 = .ok (.lconst 0, 1) := gX10_readUnit_72.2.1
theorem dX10_readUnit_131 : decode cX10_readUnit 131 = .ok (.lstore 4, 2) := gX10_readUnit_72.2.2.1
theorem dX10_readUnit_133 : decode cX10_readUnit 133 = .ok (.iconst 0, 1) := gX10_readUnit_72.2.2.2.1
theorem dX10_readUnit_134 : decode cX10_readUnit 134 = .ok (.istore 6, 2) := gX10_readUnit_72.2.2.2.2.1
theorem dX10_readUnit_136 : decode cX10_readUnit 136 = .ok (.iload 6, 2) := gX10_readUnit_72.2.2.2.2.2.1
theorem dX10_readUnit_138 : decode cX10_readUnit 138 = .ok (.bipush 6, 2) := gX10_readUnit_72.2.2.2.2.2.2.1
theorem dX10_readUnit_140 : decode cX10_readUnit 140 = .ok (.if_icmp .ge 57, 3) := gX10_readUnit_72.2.2.2.2.2.2.2.1
theorem dX10_readUnit_143 : decode cX10_readUnit 143 = .ok (.aload_n 1, 1) := gX10_readUnit_72.2.2.2.2.2.2.2.2.1
theorem dX10_readUnit_144 : decode cX10_readUnit 144 = .ok (.iload_n 2, 1) := gX10_readUnit_72.2.2.2.2.2.2.2.2.2.1
theorem dX10_readUnit_145 : decode cX10_readUnit 145 = .ok (.aload_n 0, 1) := gX10_readUnit_72.2.2.2.2.2.2.2.2.2.2.1
theorem dX10_readUnit_146 : decode cX10_readUnit 146 = .ok (.getfield 258, 3) := gX10_readUnit_72.2.2.2.2.2.2.2.2.2.2.2
theorem gX10_readUnit_84 : (decode cX10_readUnit 149 = .ok (.invokestatic 261, 3)) ∧ (decode cX10_readUnit 152 = .ok (.invokestatic 275, 3)) ∧ (decode cX10_readUnit 155 = .ok (.ifCond .eq 42, 3)) ∧ (decode cX10_readUnit 158 = .ok (.ldc2_w 278, 3)) ∧ (decode cX10_readUnit 161 = .ok (.lload 4, 2)) ∧ (decode cX10_readUnit 163 = .ok (.lmul, 1)) ∧ (decode cX10_readUnit 164 = .ok (.aload_n 1, 1)) ∧ (decode cX10_readUnit 165 = .ok (.iload_n 2, 1)) ∧ (decode cX10_readUnit 166 = .ok (.aload_n 0, 1)) ∧ (decode cX10_readUnit 167 = .ok (.getfield 258, 3)) ∧ (decode cX10_readUnit 170 = .ok (.invokestatic 261, 3)) ∧ (decode cX10_readUnit 173 = .ok (.i2l, 1)) := by decide +kernel
theorem dX10_readUnit_149 : decode cX10_readUnit 149 = .ok (.invokestatic 261, 3) := gX10_readUnit_84.1
theorem dX10_readUnit_152 : decode cX10_readUnit 152 = .ok (.invokestatic 275, 3) := gX10_readUnit_84.2.1
theorem dX10_readUnit_155 : decode cX10_readUnit 155 = .ok (.ifCond .eq 42, 3) := gX10_readUnit_84.2.2.1
theorem dX10_readUnit_158 : decode cX10_readUnit 158 = .ok (.ldc2_w 278, 3) := gX10_readUnit_84.2.2.2.1
theorem dX10_readUnit_161 : decode cX10_readUnit 161 = .ok (.lload 4, 2) := gX10_readUnit_84.2.2.2.2.1
theorem dX10_readUnit_163 : decode cX10_readUnit 163 = .ok (.lmul, 1) := gX10_readUnit_84.2.2.2.2.2.1
theorem dX10_readUnit_164 : decode cX10_readUnit 164 = .ok (.aload_n 1, 1) := gX10_readUnit_84.2.2.2.2.2.2.1
theorem dX10_readUnit_165 : decode cX10_readUnit 165 = .ok (.iload_n 2, 1) := gX10_readUnit_84.2.2.2.2.2.2.2.1
theorem dX10_readUnit_166 : decode cX10_readUnit 166 = .ok (.aload_n 0, 1) := gX10_readUnit_84.2.2.2.2.2.2.2.2.1
theorem dX10_readUnit_167 : decode cX10_readUnit 167 = .ok (.getfield 258, 3) := gX10_readUnit_84.2.2.2.2.2.2.2.2.2.1
theorem dX10_readUnit_170 : decode cX10_readUnit 170 = .ok (.invokestatic 261, 3) := gX10_readUnit_84.2.2.2.2.2.2.2.2.2.2.1
theorem dX10_readUnit_173 : decode cX10_readUnit 173 = .ok (.i2l, 1) := gX10_readUnit_84.2.2.2.2.2.2.2.2.2.2.2
theorem gX10_readUnit_96 : (decode cX10_readUnit 174 = .ok (.ladd, 1)) ∧ (decode cX10_readUnit 175 = .ok (.ldc2_w 280, 3)) ∧ (decode cX10_readUnit 178 = .ok (.lsub, 1)) ∧ (decode cX10_readUnit 179 = .ok (.lstore 4, 2)) ∧ (decode cX10_readUnit 181 = .ok (.aload_n 0, 1)) ∧ (decode cX10_readUnit 182 = .ok (.dup, 1)) ∧ (decode cX10_readUnit 183 = .ok (.getfield 258, 3)) ∧ (decode cX10_readUnit 186 = .ok (.iconst 1, 1)) ∧ (decode cX10_readUnit 187 = .ok (.iadd, 1)) ∧ (decode cX10_readUnit 188 = .ok (.putfield 258, 3)) ∧ (decode cX10_readUnit 191 = .ok (.iinc 6 1, 3)) ∧ (decode cX10_readUnit 194 = .ok (.goto (-58), 3)) := by decide +kernel
theorem dX10_readUnit_174 : decode cX10_readUnit 174 = .ok (.ladd, 1) := gX10_readUnit_96.1
theorem dX10_readUnit_175 : decode cX10_readUnit 175 = .ok (.ldc2_w 280, 3) := gX10_readUnit_96.2.1
theorem dX10_readUnit_178 : decode cX10_readUnit 178 = .ok (.lsub, 1) := gX10_readUnit_96.2.2.1
theorem dX10_readUnit_179 : decode cX10_readUnit 179 = .ok (.lstore 4, 2) := gX10_readUnit_96.2.2.2.1
theorem dX10_readUnit_181 : decode cX10_readUnit 181 = .ok (.aload_n 0, 1) := gX10_readUnit_96.2.2.2.2.1
theorem dX10_readUnit_182 : decode cX10_readUnit 182 = .ok (.dup, 1) := gX10_readUnit_96.2.2.2.2.2.1
theorem dX10_readUnit_183 : decode cX10_readUnit 183 = .ok (.getfield 258, 3) := gX10_readUnit_96.2.2.2.2.2.2.1
theorem dX10_readUnit_186 : decode cX10_readUnit 186 = .ok (.iconst 1, 1) := gX10_readUnit_96.2.2.2.2.2.2.2.1
theorem dX10_readUnit_187 : decode cX10_readUnit 187 = .ok (.iadd, 1) := gX10_readUnit_96.2.2.2.2.2.2.2.2.1
theorem dX10_readUnit_188 : decode cX10_readUnit 188 = .ok (.putfield 258, 3) := gX10_readUnit_96.2.2.2.2.2.2.2.2.2.1
theorem dX10_readUnit_191 : decode cX10_readUnit 191 = .ok (.iinc 6 1, 3) := gX10_readUnit_96.2.2.2.2.2.2.2.2.2.2.1
theorem dX10_readUnit_194 : decode cX10_readUnit 194 = .ok (.goto (-58), 3) := gX10_readUnit_96.2.2.2.2.2.2.2.2.2.2.2
theorem gX10_readUnit_108 : (decode cX10_readUnit 197 = .ok (.aload_n 0, 1)) ∧ (decode cX10_readUnit 198 = .ok (.lload 4, 2)) ∧ (decode cX10_readUnit 200 = .ok (.lconst 1, 1)) ∧ (decode cX10_readUnit 201 = .ok (.invokevirtual 271, 3)) ∧ (decode cX10_readUnit 204 = .ok (.iconst 0, 1)) ∧ (decode cX10_readUnit 205 = .ok (.ireturn, 1)) := by decide +kernel
theorem dX10_readUnit_197 : decode cX10_readUnit 197 = .ok (.aload_n 0, 1) := gX10_readUnit_108.1
theorem dX10_readUnit_198 : decode cX10_readUnit 198 = .ok (.lload 4, 2) := gX10_readUnit_108.2.1
theorem dX10_readUnit_200 : decode cX10_readUnit 200 = .ok (.lconst 1, 1) := gX10_readUnit_108.2.2.1
theorem dX10_readUnit_201 : decode cX10_readUnit 201 = .ok (.invokevirtual 271, 3) := gX10_readUnit_108.2.2.2.1
theorem dX10_readUnit_204 : decode cX10_readUnit 204 = .ok (.iconst 0, 1) := gX10_readUnit_108.2.2.2.2.1
theorem dX10_readUnit_205 : decode cX10_readUnit 205 = .ok (.ireturn, 1) := gX10_readUnit_108.2.2.2.2.2
theorem gX10_readSign_0 : (decode cX10_readSign 0 = .ok (.iload_n 1, 1)) ∧ (decode cX10_readSign 1 = .ok (.bipush 42, 2)) ∧ (decode cX10_readSign 3 = .ok (.if_icmp .eq 21, 3)) ∧ (decode cX10_readSign 6 = .ok (.iload_n 1, 1)) ∧ (decode cX10_readSign 7 = .ok (.bipush 47, 2)) ∧ (decode cX10_readSign 9 = .ok (.if_icmp .eq 15, 3)) ∧ (decode cX10_readSign 12 = .ok (.iload_n 1, 1)) ∧ (decode cX10_readSign 13 = .ok (.bipush 43, 2)) ∧ (decode cX10_readSign 15 = .ok (.if_icmp .eq 9, 3)) ∧ (decode cX10_readSign 18 = .ok (.iload_n 1, 1)) ∧ (decode cX10_readSign 19 = .ok (.bipush 45, 2)) ∧ (decode cX10_readSign 21 = .ok (.if_icmp .ne 56, 3)) := by decide +kernel
theorem dX10_readSign_0 : decode cX10_readSign 0 = .ok (.iload_n 1, 1) := gX10_readSign_0.1
theorem dX10_readSign_1 : decode cX10_readSign 1 = .ok (.bipush 42, 2) := gX10_readSign_0.2.1
theorem dX10_readSign_3 : decode cX10_readSign 3 = .ok (.if_icmp .eq 21, 3) := gX10_readSign_0.2.2.1
theorem dX10_readSign_6 : decode cX10_readSign 6 = .ok (.iload_n 1, 1) := gX10_readSign_0.2.2.2.1
theorem dX10_readSign_7 : decode cX10_readSign 7 = .ok (.bipush 47, 2) := gX10_readSign_0.2.2.2.2.1
theorem dX10_readSign_9 : decode cX10_readSign 9 = .ok (.if_icmp .eq 15, 3) := gX10_readSign_0.2.2.2.2.2.1
theorem dX10_readSign_12 : decode cX10_readSign 12 = .ok (.iload_n 1, 1) := gX10_readSign_0.2.2.2.2.2.2.1
theorem dX10_readSign_13 : decode cX10_readSign 13 = .ok (.bipush 43, 2) := gX10_readSign_0.2.2.2.2.2.2.2.1
theorem dX10_readSign_15 : decode cX10_readSign 15 = .ok (.if_icmp .eq 9, 3) := gX10_readSign_0.2.2.2.2.2.2.2.2.1
theorem dX10_readSign_18 : decode cX10_readSign 18 = .ok (.iload_n 1, 1) := gX10_readSign_0.2.2.2.2.2.2.2.2.2.1
theorem dX10_readSign_19 : decode cX10_readSign 19 = .ok (.bipush 45, 2) := gX10_readSign_0.2.2.2.2.2.2.2.2.2.2.1
theorem dX10_readSign_21 : decode cX10_readSign 21 = .ok (.if_icmp .ne 56, 3) := gX10_readSign_0.2.2.2.2.2.2.2.2.2.2.2
theorem gX10_readSign_12 : (decode cX10_readSign 24 = .ok (.aload_n 0, 1)) ∧ (decode cX10_readSign 25 = .ok (.iload_n 1, 1)) ∧ (decode cX10_readSign 26 = .ok (.bipush 43, 2)) ∧ (decode cX10_readSign 28 = .ok (.if_icmp .eq 9, 3)) ∧ (decode cX10_readSign 31 = .ok (.iload_n 1, 1)) ∧ (decode cX10_readSign 32 = .ok (.bipush 45, 2)) ∧ (decode cX10_readSign 34 = .ok (.if_icmp .ne 7, 3)) ∧ (decode cX10_readSign 37 = .ok (.iconst 1, 1)) ∧ (decode cX10_readSign 38 = .ok (.goto 4, 3)) ∧ (decode cX10_readSign 41 = .ok (.iconst 0, 1)) ∧ (decode cX10_readSign 42 = .ok (.invokevirtual 282, 3)) ∧ (decode cX10_readSign 45 = .ok (.aload_n 0, 1)) := by decide +kernel
theorem dX10_readSign_24 : decode cX10_readSign 24 = .ok (.aload_n 0, 1) := gX10_readSign_12.1
theorem dX10_readSign_25 : decode cX10_readSign 25 = .ok (.iload_n 1, 1) := gX10_readSign_12.2.1
theorem dX10_readSign_26 : decode cX10_readSign 26 = .ok (.bipush 43, 2) := gX10_readSign_12.2.2.1
theorem dX10_readSign_28 : decode cX10_readSign 28 = .ok (.if_icmp .eq 9, 3) := gX10_readSign_12.2.2.2.1
theorem dX10_readSign_31 : decode cX10_readSign 31 = .ok (.iload_n 1, 1) := gX10_readSign_12.2.2.2.2.1
theorem dX10_readSign_32 : decode cX10_readSign 32 = .ok (.bipush 45, 2) := gX10_readSign_12.2.2.2.2.2.1
theorem dX10_readSign_34 : decode cX10_readSign 34 = .ok (.if_icmp .ne 7, 3) := gX10_readSign_12.2.2.2.2.2.2.1
theorem dX10_readSign_37 : decode cX10_readSign 37 = .ok (.iconst 1, 1) := gX10_readSign_12.2.2.2.2.2.2.2.1
theorem dX10_readSign_38 : decode cX10_readSign 38 = .ok (.goto 4, 3) := gX10_readSign_12.2.2.2.2.2.2.2.2.1
theorem dX10_readSign_41 : decode cX10_readSign 41 = .ok (.iconst 0, 1) := gX10_readSign_12.2.2.2.2.2.2.2.2.2.1
theorem dX10_readSign_42 : decode cX10_readSign 42 = .ok (.invokevirtual 282, 3) := gX10_readSign_12.2.2.2.2.2.2.2.2.2.2.1
theorem dX10_readSign_45 : decode cX10_readSign 45 = .ok (.aload_n 0, 1) := gX10_readSign_12.2.2.2.2.2.2.2.2.2.2.2
theorem gX10_readSign_24 : (decode cX10_readSign 46 = .ok (.getfield 73, 3)) ∧ (decode cX10_readSign 49 = .ok (.aload_n 0, 1)) ∧ (decode cX10_readSign 50 = .ok (.getfield 238, 3)) ∧ (decode cX10_readSign 53 = .ok (.iload_n 1, 1)) ∧ (decode cX10_readSign 54 = .ok (.iastore, 1)) ∧ (decode cX10_readSign 55 = .ok (.aload_n 0, 1)) ∧ (decode cX10_readSign 56 = .ok (.dup, 1)) ∧ (decode cX10_readSign 57 = .ok (.getfield 238, 3)) ∧ (decode cX10_readSign 60 = .ok (.iconst 1, 1)) ∧ (decode cX10_readSign 61 = .ok (.iadd, 1)) ∧ (decode cX10_readSign 62 = .ok (.putfield 238, 3)) ∧ (decode cX10_readSign 65 = .ok (.aload_n 0, 1)) := by decide +kernel
theorem dX10_readSign_46 : decode cX10_readSign 46 = .ok (.getfield 73, 3) := gX10_readSign_24.1
theorem dX10_readSign_49 : decode cX10_readSign 49 = .ok (.aload_n 0, 1) := gX10_readSign_24.2.1
theorem dX10_readSign_50 : decode cX10_readSign 50 = .ok (.getfield 238, 3) := gX10_readSign_24.2.2.1
theorem dX10_readSign_53 : decode cX10_readSign 53 = .ok (.iload_n 1, 1) := gX10_readSign_24.2.2.2.1
theorem dX10_readSign_54 : decode cX10_readSign 54 = .ok (.iastore, 1) := gX10_readSign_24.2.2.2.2.1
theorem dX10_readSign_55 : decode cX10_readSign 55 = .ok (.aload_n 0, 1) := gX10_readSign_24.2.2.2.2.2.1
theorem dX10_readSign_56 : decode cX10_readSign 56 = .ok (.dup, 1) := gX10_readSign_24.2.2.2.2.2.2.1
theorem dX10_readSign_57 : decode cX10_readSign 57 = .ok (.getfield 238, 3) := gX10_readSign_24.2.2.2.2.2.2.2.1
theorem dX10_readSign_60 : decode cX10_readSign 60 = .ok (.iconst 1, 1) := gX10_readSign_24.2.2.2.2.2.2.2.2.1
theorem dX10_readSign_61 : decode cX10_readSign 61 = .ok (.iadd, 1) := gX10_readSign_24.2.2.2.2.2.2.2.2.2.1
theorem dX10_readSign_62 : decode cX10_readSign 62 = .ok (.putfield 238, 3) := gX10_readSign_24.2.2.2.2.2.2.2.2.2.2.1
theorem dX10_readSign_65 : decode cX10_readSign 65 = .ok (.aload_n 0, 1) := gX10_readSign_24.2.2.2.2.2.2.2.2.2.2.2
theorem gX10_readSign_36 : (decode cX10_readSign 66 = .ok (.dup, 1)) ∧ (decode cX10_readSign 67 = .ok (.getfield 258, 3)) ∧ (decode cX10_readSign 70 = .ok (.iconst 1, 1)) ∧ (decode cX10_readSign 71 = .ok (.iadd, 1)) ∧ (decode cX10_readSign 72 = .ok (.putfield 258, 3)) ∧ (decode cX10_readSign 75 = .ok (.iconst 1, 1)) ∧ (decode cX10_readSign 76 = .ok (.ireturn, 1)) ∧ (decode cX10_readSign 77 = .ok (.iload_n 1, 1)) ∧ (decode cX10_readSign 78 = .ok (.bipush 44, 2)) ∧ (decode cX10_readSign 80 = .ok (.if_icmp .ne 79, 3)) ∧ (decode cX10_readSign 83 = .ok (.aload_n 0, 1)) ∧ (decode cX10_readSign 84 = .ok (.iconst 1, 1)) := by decide +kernel
theorem dX10_readSign_66 : decode cX10_readSign 66 = .ok (.dup, 1) := gX10_readSign_36.1
theorem dX10_readSign_67 : decode cX10_readSign 67 = .ok (.getfield 258, 3) := gX10_readSign_36.2.1
theorem dX10_readSign_70 : decode cX10_readSign 70 = .ok (.iconst 1, 1) := gX10_readSign_36.2.2.1
theorem dX10_readSign_71 : decode cX10_readSign 71 = .ok (.iadd, 1) := gX10_readSign_36.2.2.2.1
theorem dX10_readSign_72 : decode cX10_readSign 72 = .ok (.putfield 258, 3) := gX10_readSign_36.2.2.2.2.1
theorem dX10_readSign_75 : decode cX10_readSign 75 = .ok (.iconst 1, 1) := gX10_readSign_36.2.2.2.2.2.1
theorem dX10_readSign_76 : decode cX10_readSign 76 = .ok (.ireturn, 1) := gX10_readSign_36.2.2.2.2.2.2.1
theorem dX10_readSign_77 : decode cX10_readSign 77 = .ok (.iload_n 1, 1) := gX10_readSign_36.2.2.2.2.2.2.2.1
theorem dX10_readSign_78 : decode cX10_readSign 78 = .ok (.bipush 44, 2) := gX10_readSign_36.2.2.2.2.2.2.2.2.1
theorem dX10_readSign_80 : decode cX10_readSign 80 = .ok (.if_icmp .ne 79, 3) := gX10_readSign_36.2.2.2.2.2.2.2.2.2.1
theorem dX10_readSign_83 : decode cX10_readSign 83 = .ok (.aload_n 0, 1) := gX10_readSign_36.2.2.2.2.2.2.2.2.2.2.1
theorem dX10_readSign_84 : decode cX10_readSign 84 = .ok (.iconst 1, 1) := gX10_readSign_36.2.2.2.2.2.2.2.2.2.2.2
theorem gX10_readSign_48 : (decode cX10_readSign 85 = .ok (.invokevirtual 282, 3)) ∧ (decode cX10_readSign 88 = .ok (.aload_n 0, 1)) ∧ (decode cX10_readSign 89 = .ok (.aload_n 0, 1)) ∧ (decode cX10_readSign 90 = .ok (.invokevirtual 241, 3)) ∧ (decode cX10_readSign 93 = .ok (.bipush 60, 2)) ∧ (decode cX10_readSign 95 = .ok (.if_icmp .eq 16, 3)) ∧ (decode cX10_readSign 98 = .ok (.aload_n 0, 1)) ∧ (decode cX10_readSign 99 = .ok (.invokevirtual 241, 3)) ∧ (decode cX10_readSign 102 = .ok (.bipush 62, 2)) ∧ (decode cX10_readSign 104 = .ok (.if_icmp .eq 7, 3)) ∧ (decode cX10_readSign 107 = .ok (.iconst 1, 1)) ∧ (decode cX10_readSign 108 = .ok (.goto 4, 3)) := by decide +kernel
theorem dX10_readSign_85 : decode cX10_readSign 85 = .ok (.invokevirtual 282, 3) := gX10_readSign_48.1
theorem dX10_readSign_88 : decode cX10_readSign 88 = .ok (.aload_n 0, 1) := gX10_readSign_48.2.1
theorem dX10_readSign_89 : decode cX10_readSign 89 = .ok (.aload_n 0, 1) := gX10_readSign_48.2.2.1
theorem dX10_readSign_90 : decode cX10_readSign 90 = .ok (.invokevirtual 241, 3) := gX10_readSign_48.2.2.2.1
theorem dX10_readSign_93 : decode cX10_readSign 93 = .ok (.bipush 60, 2) := gX10_readSign_48.2.2.2.2.1
theorem dX10_readSign_95 : decode cX10_readSign 95 = .ok (.if_icmp .eq 16, 3) := gX10_readSign_48.2.2.2.2.2.1
theorem dX10_readSign_98 : decode cX10_readSign 98 = .ok (.aload_n 0, 1) := gX10_readSign_48.2.2.2.2.2.2.1
theorem dX10_readSign_99 : decode cX10_readSign 99 = .ok (.invokevirtual 241, 3) := gX10_readSign_48.2.2.2.2.2.2.2.1
theorem dX10_readSign_102 : decode cX10_readSign 102 = .ok (.bipush 62, 2) := gX10_readSign_48.2.2.2.2.2.2.2.2.1
theorem dX10_readSign_104 : decode cX10_readSign 104 = .ok (.if_icmp .eq 7, 3) := gX10_readSign_48.2.2.2.2.2.2.2.2.2.1
theorem dX10_readSign_107 : decode cX10_readSign 107 = .ok (.iconst 1, 1) := gX10_readSign_48.2.2.2.2.2.2.2.2.2.2.1
theorem dX10_readSign_108 : decode cX10_readSign 108 = .ok (.goto 4, 3) := gX10_readSign_48.2.2.2.2.2.2.2.2.2.2.2
theorem gX10_readSign_60 : (decode cX10_readSign 111 = .ok (.iconst 0, 1)) ∧ (decode cX10_readSign 112 = .ok (.putfield 255, 3)) ∧ (decode cX10_readSign 115 = .ok (.aload_n 0, 1)) ∧ (decode cX10_readSign 116 = .ok (.getfield 255, 3)) ∧ (decode cX10_readSign 119 = .ok (.ifCond .ne 38, 3)) ∧ (decode cX10_readSign 122 = .ok (.aload_n 0, 1)) ∧ (decode cX10_readSign 123 = .ok (.getfield 73, 3)) ∧ (decode cX10_readSign 126 = .ok (.aload_n 0, 1)) ∧ (decode cX10_readSign 127 = .ok (.getfield 238, 3)) ∧ (decode cX10_readSign 130 = .ok (.iconst 1, 1)) ∧ (decode cX10_readSign 131 = .ok (.isub, 1)) ∧ (decode cX10_readSign 132 = .ok (.aload_n 0, 1)) := by decide +kernel
theorem dX10_readSign_111 : decode cX10_readSign 111 = .ok (.iconst 0, 1) := gX10_readSign_60.1
theorem dX10_readSign_112 : decode cX10_readSign 112 = .ok (.putfield 255, 3) := gX10_readSign_60.2.1
theorem dX10_readSign_115 : decode cX10_readSign 115 = .ok (.aload_n 0, 1) := gX10_readSign_60.2.2.1
theorem dX10_readSign_116 : decode cX10_readSign 116 = .ok (.getfield 255, 3) := gX10_readSign_60.2.2.2.1
theorem dX10_readSign_119 : decode cX10_readSign 119 = .ok (.ifCond .ne 38, 3) := gX10_readSign_60.2.2.2.2.1
theorem dX10_readSign_122 : decode cX10_readSign 122 = .ok (.aload_n 0, 1) := gX10_readSign_60.2.2.2.2.2.1
theorem dX10_readSign_123 : decode cX10_readSign 123 = .ok (.getfield 73, 3) := gX10_readSign_60.2.2.2.2.2.2.1
theorem dX10_readSign_126 : decode cX10_readSign 126 = .ok (.aload_n 0, 1) := gX10_readSign_60.2.2.2.2.2.2.2.1
theorem dX10_readSign_127 : decode cX10_readSign 127 = .ok (.getfield 238, 3) := gX10_readSign_60.2.2.2.2.2.2.2.2.1
theorem dX10_readSign_130 : decode cX10_readSign 130 = .ok (.iconst 1, 1) := gX10_readSign_60.2.2.2.2.2.2.2.2.2.1
theorem dX10_readSign_131 : decode cX10_readSign 131 = .ok (.isub, 1) := gX10_readSign_60.2.2.2.2.2.2.2.2.2.2.1
theorem dX10_readSign_132 : decode cX10_readSign 132 = .ok (.aload_n 0, 1) := gX10_readSign_60.2.2.2.2.2.2.2.2.2.2.2
theorem gX10_readSign_72 : (decode cX10_readSign 133 = .ok (.invokevirtual 241, 3)) ∧ (decode cX10_readSign 136 = .ok (.bipush 60, 2)) ∧ (decode cX10_readSign 138 = .ok (.if_icmp .ne 7, 3)) ∧ (decode cX10_readSign 141 = .ok (.iconst 1, 1)) ∧ (decode cX10_readSign 142 = .ok (.goto 4, 3)) ∧ (decode cX10_readSign 145 = .ok (.iconst 2, 1)) ∧ (decode cX10_readSign 146 = .ok (.iastore, 1)) ∧ (decode cX10_readSign 147 = .ok (.aload_n 0, 1)) ∧ (decode cX10_readSign 148 = .ok (.dup, 1)) ∧ (decode cX10_readSign 149 = .ok (.getfield 258, 3)) ∧ (decode cX10_readSign 152 = .ok (.iconst 1, 1)) ∧ (decode cX10_readSign 153 = .ok (.iadd, 1)) := by decide +kernel
theorem dX10_readSign_133 : decode cX10_readSign 133 = .ok (.invokevirtual 241, 3) := gX10_readSign_72.1
theorem dX10_readSign_136 : decode cX10_readSign 136 = .ok (.bipush 60, 2) := gX10_readSign_72.2.1
theorem dX10_readSign_138 : decode cX10_readSign 138 = .ok (.if_icmp .ne 7, 3) := gX10_readSign_72.2.2.1
theorem dX10_readSign_141 : decode cX10_readSign 141 = .ok (.iconst 1, 1) := gX10_readSign_72.2.2.2.1
theorem dX10_readSign_142 : decode cX10_readSign 142 = .ok (.goto 4, 3) := gX10_readSign_72.2.2.2.2.1
theorem dX10_readSign_145 : decode cX10_readSign 145 = .ok (.iconst 2, 1) := gX10_readSign_72.2.2.2.2.2.1
theorem dX10_readSign_146 : decode cX10_readSign 146 = .ok (.iastore, 1) := gX10_readSign_72.2.2.2.2.2.2.1
theorem dX10_readSign_147 : decode cX10_readSign 147 = .ok (.aload_n 0, 1) := gX10_readSign_72.2.2.2.2.2.2.2.1
theorem dX10_readSign_148 : decode cX10_readSign 148 = .ok (.dup, 1) := gX10_readSign_72.2.2.2.2.2.2.2.2.1
theorem dX10_readSign_149 : decode cX10_readSign 149 = .ok (.getfield 258, 3) := gX10_readSign_72.2.2.2.2.2.2.2.2.2.1
theorem dX10_readSign_152 : decode cX10_readSign 152 = .ok (.iconst 1, 1) := gX10_readSign_72.2.2.2.2.2.2.2.2.2.2.1
theorem dX10_readSign_153 : decode cX10_readSign 153 = .ok (.iadd, 1) := gX10_readSign_72.2.2.2.2.2.2.2.2.2.2.2
theorem gX10_readSign_84 : (decode cX10_readSign 154 = .ok (.putfield 258, 3)) ∧ (decode cX10_readSign 157 = .ok (.iconst 1, 1)) ∧ (decode cX10_readSign 158 = .ok (.ireturn, 1)) ∧ (decode cX10_readSign 159 = .ok (.iload_n 1, 1)) ∧ (decode cX10_readSign 160 = .ok (.bipush 41, 2)) ∧ (decode cX10_readSign 162 = .ok (.if_icmp .ne 99, 3)) ∧ (decode cX10_readSign 165 = .ok (.aload_n 0, 1)) ∧ (decode cX10_readSign 166 = .ok (.iconst 1, 1)) ∧ (decode cX10_readSign 167 = .ok (.invokevirtual 282, 3)) ∧ (decode cX10_readSign 170 = .ok (.aload_n 0, 1)) ∧ (decode cX10_readSign 171 = .ok (.invokevirtual 241, 3)) ∧ (decode cX10_readSign 174 = .ok (.istore_n 2, 1)) := by decide +kernel
theorem dX10_readSign_154 : decode cX10_readSign 154 = .ok (.putfield 258, 3) := gX10_readSign_84.1
theorem dX10_readSign_157 : decode cX10_readSign 157 = .ok (.iconst 1, 1) := gX10_readSign_84.2.1
theorem dX10_readSign_158 : decode cX10_readSign 158 = .ok (.ireturn, 1) := gX10_readSign_84.2.2.1
theorem dX10_readSign_159 : decode cX10_readSign 159 = .ok (.iload_n 1, 1) := gX10_readSign_84.2.2.2.1
theorem dX10_readSign_160 : decode cX10_readSign 160 = .ok (.bipush 41, 2) := gX10_readSign_84.2.2.2.2.1
theorem dX10_readSign_162 : decode cX10_readSign 162 = .ok (.if_icmp .ne 99, 3) := gX10_readSign_84.2.2.2.2.2.1
theorem dX10_readSign_165 : decode cX10_readSign 165 = .ok (.aload_n 0, 1) := gX10_readSign_84.2.2.2.2.2.2.1
theorem dX10_readSign_166 : decode cX10_readSign 166 = .ok (.iconst 1, 1) := gX10_readSign_84.2.2.2.2.2.2.2.1
theorem dX10_readSign_167 : decode cX10_readSign 167 = .ok (.invokevirtual 282, 3) := gX10_readSign_84.2.2.2.2.2.2.2.2.1
theorem dX10_readSign_170 : decode cX10_readSign 170 = .ok (.aload_n 0, 1) := gX10_readSign_84.2.2.2.2.2.2.2.2.2.1
theorem dX10_readSign_171 : decode cX10_readSign 171 = .ok (.invokevirtual 241, 3) := gX10_readSign_84.2.2.2.2.2.2.2.2.2.2.1
theorem dX10_readSign_174 : decode cX10_readSign 174 = .ok (.istore_n 2, 1) := gX10_readSign_84.2.2.2.2.2.2.2.2.2.2.2
theorem gX10_readSign_96 : (decode cX10_readSign 175 = .ok (.aload_n 0, 1)) ∧ (decode cX10_readSign 176 = .ok (.iload_n 2, 1)) ∧ (decode cX10_readSign 177 = .ok (.bipush 40, 2)) ∧ (decode cX10_readSign 179 = .ok (.if_icmp .eq 17, 3)) ∧ (decode cX10_readSign 182 = .ok (.iload_n 2, 1)) ∧ (decode cX10_readSign 183 = .ok (.iconst 1, 1)) ∧ (decode cX10_readSign 184 = .ok (.if_icmp .eq 12, 3)) ∧ (decode cX10_readSign 187 = .ok (.iload_n 2, 1)) ∧ (decode cX10_readSign 188 = .ok (.iconst 2, 1)) ∧ (decode cX10_readSign 189 = .ok (.if_icmp .eq 7, 3)) ∧ (decode cX10_readSign 192 = .ok (.iconst 1, 1)) ∧ (decode cX10_readSign 193 = .ok (.goto 4, 3)) := by decide +kernel
theorem dX10_readSign_175 : decode cX10_readSign 175 = .ok (.aload_n 0, 1) := gX10_readSign_96.1
theorem dX10_readSign_176 : decode cX10_readSign 176 = .ok (.iload_n 2, 1) := gX10_readSign_96.2.1
theorem dX10_readSign_177 : decode cX10_readSign 177 = .ok (.bipush 40, 2) := gX10_readSign_96.2.2.1
theorem dX10_readSign_179 : decode cX10_readSign 179 = .ok (.if_icmp .eq 17, 3) := gX10_readSign_96.2.2.2.1
theorem dX10_readSign_182 : decode cX10_readSign 182 = .ok (.iload_n 2, 1) := gX10_readSign_96.2.2.2.2.1
theorem dX10_readSign_183 : decode cX10_readSign 183 = .ok (.iconst 1, 1) := gX10_readSign_96.2.2.2.2.2.1
theorem dX10_readSign_184 : decode cX10_readSign 184 = .ok (.if_icmp .eq 12, 3) := gX10_readSign_96.2.2.2.2.2.2.1
theorem dX10_readSign_187 : decode cX10_readSign 187 = .ok (.iload_n 2, 1) := gX10_readSign_96.2.2.2.2.2.2.2.1
theorem dX10_readSign_188 : decode cX10_readSign 188 = .ok (.iconst 2, 1) := gX10_readSign_96.2.2.2.2.2.2.2.2.1
theorem dX10_readSign_189 : decode cX10_readSign 189 = .ok (.if_icmp .eq 7, 3) := gX10_readSign_96.2.2.2.2.2.2.2.2.2.1
theorem dX10_readSign_192 : decode cX10_readSign 192 = .ok (.iconst 1, 1) := gX10_readSign_96.2.2.2.2.2.2.2.2.2.2.1
theorem dX10_readSign_193 : decode cX10_readSign 193 = .ok (.goto 4, 3) := gX10_readSign_96.2.2.2.2.2.2.2.2.2.2.2
theorem gX10_readSign_108 : (decode cX10_readSign 196 = .ok (.iconst 0, 1)) ∧ (decode cX10_readSign 197 = .ok (.putfield 255, 3)) ∧ (decode cX10_readSign 200 = .ok (.aload_n 0, 1)) ∧ (decode cX10_readSign 201 = .ok (.getfield 255, 3)) ∧ (decode cX10_readSign 204 = .ok (.ifCond .ne 55, 3)) ∧ (decode cX10_readSign 207 = .ok (.aload_n 0, 1)) ∧ (decode cX10_readSign 208 = .ok (.dup, 1)) ∧ (decode cX10_readSign 209 = .ok (.getfield 238, 3)) ∧ (decode cX10_readSign 212 = .ok (.iconst 1, 1)) ∧ (decode cX10_readSign 213 = .ok (.isub, 1)) ∧ (decode cX10_readSign 214 = .ok (.putfield 238, 3)) ∧ (decode cX10_readSign 217 = .ok (.aload_n 0, 1)) := by decide +kernel
theorem dX10_readSign_196 : decode cX10_readSign 196 = .ok (.iconst 0, 1) := gX10_readSign_108.1
theorem dX10_readSign_197 : decode cX10_readSign 197 = .ok (.putfield 255, 3) := gX10_readSign_108.2.1
theorem dX10_readSign_200 : decode cX10_readSign 200 = .ok (.aload_n 0, 1) := gX10_readSign_108.2.2.1
theorem dX10_readSign_201 : decode cX10_readSign 201 = .ok (.getfield 255, 3) := gX10_readSign_108.2.2.2.1
theorem dX10_readSign_204 : decode cX10_readSign 204 = .ok (.ifCond .ne 55, 3) := gX10_readSign_108.2.2.2.2.1
theorem dX10_readSign_207 : decode cX10_readSign 207 = .ok (.aload_n 0, 1) := gX10_readSign_108.2.2.2.2.2.1
theorem dX10_readSign_208 : decode cX10_readSign 208 = .ok (.dup, 1) := gX10_readSign_108.2.2.2.2.2.2.1
theorem dX10_readSign_209 : decode cX10_readSign 209 = .ok (.getfield 238, 3) := gX10_readSign_108.2.2.2.2.2.2.2.1
theorem dX10_readSign_212 : decode cX10_readSign 212 = .ok (.iconst 1, 1) := gX10_readSign_108.2.2.2.2.2.2.2.2.1
theorem dX10_readSign_213 : decode cX10_readSign 213 = .ok (.isub, 1) := gX10_readSign_108.2.2.2.2.2.2.2.2.2.1
theorem dX10_readSign_214 : decode cX10_readSign 214 = .ok (.putfield 238, 3) := gX10_readSign_108.2.2.2.2.2.2.2.2.2.2.1
theorem dX10_readSign_217 : decode cX10_readSign 217 = .ok (.aload_n 0, 1) := gX10_readSign_108.2.2.2.2.2.2.2.2.2.2.2
theorem gX10_readSign_120 : (decode cX10_readSign 218 = .ok (.dup, 1)) ∧ (decode cX10_readSign 219 = .ok (.getfield 252, 3)) ∧ (decode cX10_readSign 222 = .ok (.iconst 1, 1)) ∧ (decode cX10_readSign 223 = .ok (.isub, 1)) ∧ (decode cX10_readSign 224 = .ok (.putfield 252, 3)) ∧ (decode cX10_readSign 227 = .ok (.aload_n 0, 1)) ∧ (decode cX10_readSign 228 = .ok (.dup, 1)) ∧ (decode cX10_readSign 229 = .ok (.getfield 258, 3)) ∧ (decode cX10_readSign 232 = .ok (.iconst 1, 1)) ∧ (decode cX10_readSign 233 = .ok (.iadd, 1)) ∧ (decode cX10_readSign 234 = .ok (.putfield 258, 3)) ∧ (decode cX10_readSign 237 = .ok (.iload_n 2, 1)) := by decide +kernel
theorem dX10_readSign_218 : decode cX10_readSign 218 = .ok (.dup, 1) := gX10_readSign_120.1
theorem dX10_readSign_219 : decode cX10_readSign 219 = .ok (.getfield 252, 3) := gX10_readSign_120.2.1
theorem dX10_readSign_222 : decode cX10_readSign 222 = .ok (.iconst 1, 1) := gX10_readSign_120.2.2.1
theorem dX10_readSign_223 : decode cX10_readSign 223 = .ok (.isub, 1) := gX10_readSign_120.2.2.2.1
theorem dX10_readSign_224 : decode cX10_readSign 224 = .ok (.putfield 252, 3) := gX10_readSign_120.2.2.2.2.1
theorem dX10_readSign_227 : decode cX10_readSign 227 = .ok (.aload_n 0, 1) := gX10_readSign_120.2.2.2.2.2.1
theorem dX10_readSign_228 : decode cX10_readSign 228 = .ok (.dup, 1) := gX10_readSign_120.2.2.2.2.2.2.1
theorem dX10_readSign_229 : decode cX10_readSign 229 = .ok (.getfield 258, 3) := gX10_readSign_120.2.2.2.2.2.2.2.1
theorem dX10_readSign_232 : decode cX10_readSign 232 = .ok (.iconst 1, 1) := gX10_readSign_120.2.2.2.2.2.2.2.2.1
theorem dX10_readSign_233 : decode cX10_readSign 233 = .ok (.iadd, 1) := gX10_readSign_120.2.2.2.2.2.2.2.2.2.1
theorem dX10_readSign_234 : decode cX10_readSign 234 = .ok (.putfield 258, 3) := gX10_readSign_120.2.2.2.2.2.2.2.2.2.2.1
theorem dX10_readSign_237 : decode cX10_readSign 237 = .ok (.iload_n 2, 1) := gX10_readSign_120.2.2.2.2.2.2.2.2.2.2.2
theorem gX10_readSign_132 : (decode cX10_readSign 238 = .ok (.bipush 40, 2)) ∧ (decode cX10_readSign 240 = .ok (.if_icmp .eq 19, 3)) ∧ (decode cX10_readSign 243 = .ok (.aload_n 0, 1)) ∧ (decode cX10_readSign 244 = .ok (.iload_n 2, 1)) ∧ (decode cX10_readSign 245 = .ok (.iconst 1, 1)) ∧ (decode cX10_readSign 246 = .ok (.if_icmp .ne 8, 3)) ∧ (decode cX10_readSign 249 = .ok (.bipush 60, 2)) ∧ (decode cX10_readSign 251 = .ok (.goto 5, 3)) ∧ (decode cX10_readSign 254 = .ok (.bipush 62, 2)) ∧ (decode cX10_readSign 256 = .ok (.invokevirtual 245, 3)) ∧ (decode cX10_readSign 259 = .ok (.iconst 0, 1)) ∧ (decode cX10_readSign 260 = .ok (.ireturn, 1)) := by decide +kernel
theorem dX10_readSign_238 : decode cX10_readSign 238 = .ok (.bipush 40, 2) := gX10_readSign_132.1
theorem dX10_readSign_240 : decode cX10_readSign 240 = .ok (.if_icmp .eq 19, 3) := gX10_readSign_132.2.1
theorem dX10_readSign_243 : decode cX10_readSign 243 = .ok (.aload_n 0, 1) := gX10_readSign_132.2.2.1
theorem dX10_readSign_244 : decode cX10_readSign 244 = .ok (.iload_n 2, 1) := gX10_readSign_132.2.2.2.1
theorem dX10_readSign_245 : decode cX10_readSign 245 = .ok (.iconst 1, 1) := gX10_readSign_132.2.2.2.2.1
theorem dX10_readSign_246 : decode cX10_readSign 246 = .ok (.if_icmp .ne 8, 3) := gX10_readSign_132.2.2.2.2.2.1
theorem dX10_readSign_249 : decode cX10_readSign 249 = .ok (.bipush 60, 2) := gX10_readSign_132.2.2.2.2.2.2.1
theorem dX10_readSign_251 : decode cX10_readSign 251 = .ok (.goto 5, 3) := gX10_readSign_132.2.2.2.2.2.2.2.1
theorem dX10_readSign_254 : decode cX10_readSign 254 = .ok (.bipush 62, 2) := gX10_readSign_132.2.2.2.2.2.2.2.2.1
theorem dX10_readSign_256 : decode cX10_readSign 256 = .ok (.invokevirtual 245, 3) := gX10_readSign_132.2.2.2.2.2.2.2.2.2.1
theorem dX10_readSign_259 : decode cX10_readSign 259 = .ok (.iconst 0, 1) := gX10_readSign_132.2.2.2.2.2.2.2.2.2.2.1
theorem dX10_readSign_260 : decode cX10_readSign 260 = .ok (.ireturn, 1) := gX10_readSign_132.2.2.2.2.2.2.2.2.2.2.2
theorem gX10_readSign_144 : (decode cX10_readSign 261 = .ok (.aload_n 0, 1)) ∧ (decode cX10_readSign 262 = .ok (.iconst 1, 1)) ∧ (decode cX10_readSign 263 = .ok (.putfield 255, 3)) ∧ (decode cX10_readSign 266 = .ok (.iconst 0, 1)) ∧ (decode cX10_readSign 267 = .ok (.ireturn, 1)) := by decide +kernel
theorem dX10_readSign_261 : decode cX10_readSign 261 = .ok (.aload_n 0, 1) := gX10_readSign_144.1
theorem dX10_readSign_262 : decode cX10_readSign 262 = .ok (.iconst 1, 1) := gX10_readSign_144.2.1
theorem dX10_readSign_263 : decode cX10_readSign 263 = .ok (.putfield 255, 3) := gX10_readSign_144.2.2.1
theorem dX10_readSign_266 : decode cX10_readSign 266 = .ok (.iconst 0, 1) := gX10_readSign_144.2.2.2.1
theorem dX10_readSign_267 : decode cX10_readSign 267 = .ok (.ireturn, 1) := gX10_readSign_144.2.2.2.2
theorem gX10_workText_0 : (decode cX10_workText 0 = .ok (.aload_n 0, 1)) ∧ (decode cX10_workText 1 = .ok (.iconst 0, 1)) ∧ (decode cX10_workText 2 = .ok (.putfield 228, 3)) ∧ (decode cX10_workText 5 = .ok (.aload_n 0, 1)) ∧ (decode cX10_workText 6 = .ok (.iconst 0, 1)) ∧ (decode cX10_workText 7 = .ok (.putfield 238, 3)) ∧ (decode cX10_workText 10 = .ok (.aload_n 0, 1)) ∧ (decode cX10_workText 11 = .ok (.iconst 0, 1)) ∧ (decode cX10_workText 12 = .ok (.putfield 252, 3)) ∧ (decode cX10_workText 15 = .ok (.aload_n 0, 1)) ∧ (decode cX10_workText 16 = .ok (.iconst 0, 1)) ∧ (decode cX10_workText 17 = .ok (.putfield 258, 3)) := by decide +kernel
theorem dX10_workText_0 : decode cX10_workText 0 = .ok (.aload_n 0, 1) := gX10_workText_0.1
theorem dX10_workText_1 : decode cX10_workText 1 = .ok (.iconst 0, 1) := gX10_workText_0.2.1
theorem dX10_workText_2 : decode cX10_workText 2 = .ok (.putfield 228, 3) := gX10_workText_0.2.2.1
theorem dX10_workText_5 : decode cX10_workText 5 = .ok (.aload_n 0, 1) := gX10_workText_0.2.2.2.1
theorem dX10_workText_6 : decode cX10_workText 6 = .ok (.iconst 0, 1) := gX10_workText_0.2.2.2.2.1
theorem dX10_workText_7 : decode cX10_workText 7 = .ok (.putfield 238, 3) := gX10_workText_0.2.2.2.2.2.1
theorem dX10_workText_10 : decode cX10_workText 10 = .ok (.aload_n 0, 1) := gX10_workText_0.2.2.2.2.2.2.1
theorem dX10_workText_11 : decode cX10_workText 11 = .ok (.iconst 0, 1) := gX10_workText_0.2.2.2.2.2.2.2.1
theorem dX10_workText_12 : decode cX10_workText 12 = .ok (.putfield 252, 3) := gX10_workText_0.2.2.2.2.2.2.2.2.1
theorem dX10_workText_15 : decode cX10_workText 15 = .ok (.aload_n 0, 1) := gX10_workText_0.2.2.2.2.2.2.2.2.2.1
theorem dX10_workText_16 : decode cX10_workText 16 = .ok (.iconst 0, 1) := gX10_workText_0.2.2.2.2.2.2.2.2.2.2.1
theorem dX10_workText_17 : decode cX10_workText 17 = .ok (.putfield 258, 3) := gX10_workText_0.2.2.2.2.2.2.2.2.2.2.2
theorem gX10_workText_12 : (decode cX10_workText 20 = .ok (.aload_n 0, 1)) ∧ (decode cX10_workText 21 = .ok (.iconst 0, 1)) ∧ (decode cX10_workText 22 = .ok (.putfield 249, 3)) ∧ (decode cX10_workText 25 = .ok (.aload_n 0, 1)) ∧ (decode cX10_workText 26 = .ok (.iconst 0, 1)) ∧ (decode cX10_workText 27 = .ok (.putfield 255, 3)) ∧ (decode cX10_workText 30 = .ok (.aload_n 0, 1)) ∧ (decode cX10_workText 31 = .ok (.iconst 0, 1)) ∧ (decode cX10_workText 32 = .ok (.putfield 231, 3)) ∧ (decode cX10_workText 35 = .ok (.iconst 1, 1)) ∧ (decode cX10_workText 36 = .ok (.istore_n 3, 1)) ∧ (decode cX10_workText 37 = .ok (.aload_n 0, 1)) := by decide +kernel
theorem dX10_workText_20 : decode cX10_workText 20 = .ok (.aload_n 0, 1) := gX10_workText_12.1
theorem dX10_workText_21 : decode cX10_workText 21 = .ok (.iconst 0, 1) := gX10_workText_12.2.1
theorem dX10_workText_22 : decode cX10_workText 22 = .ok (.putfield 249, 3) := gX10_workText_12.2.2.1
theorem dX10_workText_25 : decode cX10_workText 25 = .ok (.aload_n 0, 1) := gX10_workText_12.2.2.2.1
theorem dX10_workText_26 : decode cX10_workText 26 = .ok (.iconst 0, 1) := gX10_workText_12.2.2.2.2.1
theorem dX10_workText_27 : decode cX10_workText 27 = .ok (.putfield 255, 3) := gX10_workText_12.2.2.2.2.2.1
theorem dX10_workText_30 : decode cX10_workText 30 = .ok (.aload_n 0, 1) := gX10_workText_12.2.2.2.2.2.2.1
theorem dX10_workText_31 : decode cX10_workText 31 = .ok (.iconst 0, 1) := gX10_workText_12.2.2.2.2.2.2.2.1
theorem dX10_workText_32 : decode cX10_workText 32 = .ok (.putfield 231, 3) := gX10_workText_12.2.2.2.2.2.2.2.2.1
theorem dX10_workText_35 : decode cX10_workText 35 = .ok (.iconst 1, 1) := gX10_workText_12.2.2.2.2.2.2.2.2.2.1
theorem dX10_workText_36 : decode cX10_workText 36 = .ok (.istore_n 3, 1) := gX10_workText_12.2.2.2.2.2.2.2.2.2.2.1
theorem dX10_workText_37 : decode cX10_workText 37 = .ok (.aload_n 0, 1) := gX10_workText_12.2.2.2.2.2.2.2.2.2.2.2
theorem gX10_workText_24 : (decode cX10_workText 38 = .ok (.getfield 255, 3)) ∧ (decode cX10_workText 41 = .ok (.ifCond .ne 42, 3)) ∧ (decode cX10_workText 44 = .ok (.iload_n 3, 1)) ∧ (decode cX10_workText 45 = .ok (.ifCond .ne 11, 3)) ∧ (decode cX10_workText 48 = .ok (.aload_n 0, 1)) ∧ (decode cX10_workText 49 = .ok (.getfield 258, 3)) ∧ (decode cX10_workText 52 = .ok (.iload_n 2, 1)) ∧ (decode cX10_workText 53 = .ok (.if_icmp .ge 30, 3)) ∧ (decode cX10_workText 56 = .ok (.iload_n 3, 1)) ∧ (decode cX10_workText 57 = .ok (.ifCond .eq 12, 3)) ∧ (decode cX10_workText 60 = .ok (.aload_n 0, 1)) ∧ (decode cX10_workText 61 = .ok (.aload_n 1, 1)) := by decide +kernel
theorem dX10_workText_38 : decode cX10_workText 38 = .ok (.getfield 255, 3) := gX10_workText_24.1
theorem dX10_workText_41 : decode cX10_workText 41 = .ok (.ifCond .ne 42, 3) := gX10_workText_24.2.1
theorem dX10_workText_44 : decode cX10_workText 44 = .ok (.iload_n 3, 1) := gX10_workText_24.2.2.1
theorem dX10_workText_45 : decode cX10_workText 45 = .ok (.ifCond .ne 11, 3) := gX10_workText_24.2.2.2.1
theorem dX10_workText_48 : decode cX10_workText 48 = .ok (.aload_n 0, 1) := gX10_workText_24.2.2.2.2.1
theorem dX10_workText_49 : decode cX10_workText 49 = .ok (.getfield 258, 3) := gX10_workText_24.2.2.2.2.2.1
theorem dX10_workText_52 : decode cX10_workText 52 = .ok (.iload_n 2, 1) := gX10_workText_24.2.2.2.2.2.2.1
theorem dX10_workText_53 : decode cX10_workText 53 = .ok (.if_icmp .ge 30, 3) := gX10_workText_24.2.2.2.2.2.2.2.1
theorem dX10_workText_56 : decode cX10_workText 56 = .ok (.iload_n 3, 1) := gX10_workText_24.2.2.2.2.2.2.2.2.1
theorem dX10_workText_57 : decode cX10_workText 57 = .ok (.ifCond .eq 12, 3) := gX10_workText_24.2.2.2.2.2.2.2.2.2.1
theorem dX10_workText_60 : decode cX10_workText 60 = .ok (.aload_n 0, 1) := gX10_workText_24.2.2.2.2.2.2.2.2.2.2.1
theorem dX10_workText_61 : decode cX10_workText 61 = .ok (.aload_n 1, 1) := gX10_workText_24.2.2.2.2.2.2.2.2.2.2.2
theorem gX10_workText_36 : (decode cX10_workText 62 = .ok (.iload_n 2, 1)) ∧ (decode cX10_workText 63 = .ok (.invokevirtual 286, 3)) ∧ (decode cX10_workText 66 = .ok (.goto 13, 3)) ∧ (decode cX10_workText 69 = .ok (.aload_n 0, 1)) ∧ (decode cX10_workText 70 = .ok (.aload_n 1, 1)) ∧ (decode cX10_workText 71 = .ok (.aload_n 0, 1)) ∧ (decode cX10_workText 72 = .ok (.getfield 258, 3)) ∧ (decode cX10_workText 75 = .ok (.iaload, 1)) ∧ (decode cX10_workText 76 = .ok (.invokevirtual 290, 3)) ∧ (decode cX10_workText 79 = .ok (.istore_n 3, 1)) ∧ (decode cX10_workText 80 = .ok (.goto (-43), 3)) ∧ (decode cX10_workText 83 = .ok (.aload_n 0, 1)) := by decide +kernel
theorem dX10_workText_62 : decode cX10_workText 62 = .ok (.iload_n 2, 1) := gX10_workText_36.1
theorem dX10_workText_63 : decode cX10_workText 63 = .ok (.invokevirtual 286, 3) := gX10_workText_36.2.1
theorem dX10_workText_66 : decode cX10_workText 66 = .ok (.goto 13, 3) := gX10_workText_36.2.2.1
theorem dX10_workText_69 : decode cX10_workText 69 = .ok (.aload_n 0, 1) := gX10_workText_36.2.2.2.1
theorem dX10_workText_70 : decode cX10_workText 70 = .ok (.aload_n 1, 1) := gX10_workText_36.2.2.2.2.1
theorem dX10_workText_71 : decode cX10_workText 71 = .ok (.aload_n 0, 1) := gX10_workText_36.2.2.2.2.2.1
theorem dX10_workText_72 : decode cX10_workText 72 = .ok (.getfield 258, 3) := gX10_workText_36.2.2.2.2.2.2.1
theorem dX10_workText_75 : decode cX10_workText 75 = .ok (.iaload, 1) := gX10_workText_36.2.2.2.2.2.2.2.1
theorem dX10_workText_76 : decode cX10_workText 76 = .ok (.invokevirtual 290, 3) := gX10_workText_36.2.2.2.2.2.2.2.2.1
theorem dX10_workText_79 : decode cX10_workText 79 = .ok (.istore_n 3, 1) := gX10_workText_36.2.2.2.2.2.2.2.2.2.1
theorem dX10_workText_80 : decode cX10_workText 80 = .ok (.goto (-43), 3) := gX10_workText_36.2.2.2.2.2.2.2.2.2.2.1
theorem dX10_workText_83 : decode cX10_workText 83 = .ok (.aload_n 0, 1) := gX10_workText_36.2.2.2.2.2.2.2.2.2.2.2
theorem gX10_workText_48 : (decode cX10_workText 84 = .ok (.getfield 255, 3)) ∧ (decode cX10_workText 87 = .ok (.ifCond .ne 24, 3)) ∧ (decode cX10_workText 90 = .ok (.aload_n 0, 1)) ∧ (decode cX10_workText 91 = .ok (.iconst 1, 1)) ∧ (decode cX10_workText 92 = .ok (.invokevirtual 282, 3)) ∧ (decode cX10_workText 95 = .ok (.aload_n 0, 1)) ∧ (decode cX10_workText 96 = .ok (.aload_n 0, 1)) ∧ (decode cX10_workText 97 = .ok (.getfield 238, 3)) ∧ (decode cX10_workText 100 = .ok (.ifCond .le 7, 3)) ∧ (decode cX10_workText 103 = .ok (.iconst 1, 1)) ∧ (decode cX10_workText 104 = .ok (.goto 4, 3)) ∧ (decode cX10_workText 107 = .ok (.iconst 0, 1)) := by decide +kernel
theorem dX10_workText_84 : decode cX10_workText 84 = .ok (.getfield 255, 3) := gX10_workText_48.1
theorem dX10_workText_87 : decode cX10_workText 87 = .ok (.ifCond .ne 24, 3) := gX10_workText_48.2.1
theorem dX10_workText_90 : decode cX10_workText 90 = .ok (.aload_n 0, 1) := gX10_workText_48.2.2.1
theorem dX10_workText_91 : decode cX10_workText 91 = .ok (.iconst 1, 1) := gX10_workText_48.2.2.2.1
theorem dX10_workText_92 : decode cX10_workText 92 = .ok (.invokevirtual 282, 3) := gX10_workText_48.2.2.2.2.1
theorem dX10_workText_95 : decode cX10_workText 95 = .ok (.aload_n 0, 1) := gX10_workText_48.2.2.2.2.2.1
theorem dX10_workText_96 : decode cX10_workText 96 = .ok (.aload_n 0, 1) := gX10_workText_48.2.2.2.2.2.2.1
theorem dX10_workText_97 : decode cX10_workText 97 = .ok (.getfield 238, 3) := gX10_workText_48.2.2.2.2.2.2.2.1
theorem dX10_workText_100 : decode cX10_workText 100 = .ok (.ifCond .le 7, 3) := gX10_workText_48.2.2.2.2.2.2.2.2.1
theorem dX10_workText_103 : decode cX10_workText 103 = .ok (.iconst 1, 1) := gX10_workText_48.2.2.2.2.2.2.2.2.2.1
theorem dX10_workText_104 : decode cX10_workText 104 = .ok (.goto 4, 3) := gX10_workText_48.2.2.2.2.2.2.2.2.2.2.1
theorem dX10_workText_107 : decode cX10_workText 107 = .ok (.iconst 0, 1) := gX10_workText_48.2.2.2.2.2.2.2.2.2.2.2
theorem gX10_workText_60 : (decode cX10_workText 108 = .ok (.putfield 255, 3)) ∧ (decode cX10_workText 111 = .ok (.return_, 1)) := by decide +kernel
theorem dX10_workText_108 : decode cX10_workText 108 = .ok (.putfield 255, 3) := gX10_workText_60.1
theorem dX10_workText_111 : decode cX10_workText 111 = .ok (.return_, 1) := gX10_workText_60.2
theorem gX10_formula_0 : (decode cX10_formula 0 = .ok (.iconst 0, 1)) ∧ (decode cX10_formula 1 = .ok (.istore_n 1, 1)) ∧ (decode cX10_formula 2 = .ok (.iload_n 1, 1)) ∧ (decode cX10_formula 3 = .ok (.bipush 7, 2)) ∧ (decode cX10_formula 5 = .ok (.if_icmp .ge 23, 3)) ∧ (decode cX10_formula 8 = .ok (.aload_n 0, 1)) ∧ (decode cX10_formula 9 = .ok (.getfield 60, 3)) ∧ (decode cX10_formula 12 = .ok (.iload_n 1, 1)) ∧ (decode cX10_formula 13 = .ok (.lconst 1, 1)) ∧ (decode cX10_formula 14 = .ok (.lastore, 1)) ∧ (decode cX10_formula 15 = .ok (.aload_n 0, 1)) ∧ (decode cX10_formula 16 = .ok (.getfield 64, 3)) := by decide +kernel
theorem dX10_formula_0 : decode cX10_formula 0 = .ok (.iconst 0, 1) := gX10_formula_0.1
theorem dX10_formula_1 : decode cX10_formula 1 = .ok (.istore_n 1, 1) := gX10_formula_0.2.1
theorem dX10_formula_2 : decode cX10_formula 2 = .ok (.iload_n 1, 1) := gX10_formula_0.2.2.1
theorem dX10_formula_3 : decode cX10_formula 3 = .ok (.bipush 7, 2) := gX10_formula_0.2.2.2.1
theorem dX10_formula_5 : decode cX10_formula 5 = .ok (.if_icmp .ge 23, 3) := gX10_formula_0.2.2.2.2.1
theorem dX10_formula_8 : decode cX10_formula 8 = .ok (.aload_n 0, 1) := gX10_formula_0.2.2.2.2.2.1
theorem dX10_formula_9 : decode cX10_formula 9 = .ok (.getfield 60, 3) := gX10_formula_0.2.2.2.2.2.2.1
theorem dX10_formula_12 : decode cX10_formula 12 = .ok (.iload_n 1, 1) := gX10_formula_0.2.2.2.2.2.2.2.1
theorem dX10_formula_13 : decode cX10_formula 13 = .ok (.lconst 1, 1) := gX10_formula_0.2.2.2.2.2.2.2.2.1
theorem dX10_formula_14 : decode cX10_formula 14 = .ok (.lastore, 1) := gX10_formula_0.2.2.2.2.2.2.2.2.2.1
theorem dX10_formula_15 : decode cX10_formula 15 = .ok (.aload_n 0, 1) := gX10_formula_0.2.2.2.2.2.2.2.2.2.2.1
theorem dX10_formula_16 : decode cX10_formula 16 = .ok (.getfield 64, 3) := gX10_formula_0.2.2.2.2.2.2.2.2.2.2.2
theorem gX10_formula_12 : (decode cX10_formula 19 = .ok (.iload_n 1, 1)) ∧ (decode cX10_formula 20 = .ok (.lconst 1, 1)) ∧ (decode cX10_formula 21 = .ok (.lastore, 1)) ∧ (decode cX10_formula 22 = .ok (.iinc 1 1, 3)) ∧ (decode cX10_formula 25 = .ok (.goto (-23), 3)) ∧ (decode cX10_formula 28 = .ok (.aload_n 0, 1)) ∧ (decode cX10_formula 29 = .ok (.getfield 223, 3)) ∧ (decode cX10_formula 32 = .ok (.istore_n 1, 1)) ∧ (decode cX10_formula 33 = .ok (.aload_n 0, 1)) ∧ (decode cX10_formula 34 = .ok (.iconst 0, 1)) ∧ (decode cX10_formula 35 = .ok (.putfield 223, 3)) ∧ (decode cX10_formula 38 = .ok (.aload_n 0, 1)) := by decide +kernel
theorem dX10_formula_19 : decode cX10_formula 19 = .ok (.iload_n 1, 1) := gX10_formula_12.1
theorem dX10_formula_20 : decode cX10_formula 20 = .ok (.lconst 1, 1) := gX10_formula_12.2.1
theorem dX10_formula_21 : decode cX10_formula 21 = .ok (.lastore, 1) := gX10_formula_12.2.2.1
theorem dX10_formula_22 : decode cX10_formula 22 = .ok (.iinc 1 1, 3) := gX10_formula_12.2.2.2.1
theorem dX10_formula_25 : decode cX10_formula 25 = .ok (.goto (-23), 3) := gX10_formula_12.2.2.2.2.1
theorem dX10_formula_28 : decode cX10_formula 28 = .ok (.aload_n 0, 1) := gX10_formula_12.2.2.2.2.2.1
theorem dX10_formula_29 : decode cX10_formula 29 = .ok (.getfield 223, 3) := gX10_formula_12.2.2.2.2.2.2.1
theorem dX10_formula_32 : decode cX10_formula 32 = .ok (.istore_n 1, 1) := gX10_formula_12.2.2.2.2.2.2.2.1
theorem dX10_formula_33 : decode cX10_formula 33 = .ok (.aload_n 0, 1) := gX10_formula_12.2.2.2.2.2.2.2.2.1
theorem dX10_formula_34 : decode cX10_formula 34 = .ok (.iconst 0, 1) := gX10_formula_12.2.2.2.2.2.2.2.2.2.1
theorem dX10_formula_35 : decode cX10_formula 35 = .ok (.putfield 223, 3) := gX10_formula_12.2.2.2.2.2.2.2.2.2.2.1
theorem dX10_formula_38 : decode cX10_formula 38 = .ok (.aload_n 0, 1) := gX10_formula_12.2.2.2.2.2.2.2.2.2.2.2
theorem gX10_formula_24 : (decode cX10_formula 39 = .ok (.aload_n 0, 1)) ∧ (decode cX10_formula 40 = .ok (.getfield 54, 3)) ∧ (decode cX10_formula 43 = .ok (.iload_n 1, 1)) ∧ (decode cX10_formula 44 = .ok (.invokevirtual 293, 3)) ∧ (decode cX10_formula 47 = .ok (.aload_n 0, 1)) ∧ (decode cX10_formula 48 = .ok (.getfield 255, 3)) ∧ (decode cX10_formula 51 = .ok (.ifCond .eq 11, 3)) ∧ (decode cX10_formula 54 = .ok (.bipush (-20), 2)) ∧ (decode cX10_formula 56 = .ok (.aload_n 0, 1)) ∧ (decode cX10_formula 57 = .ok (.getfield 258, 3)) ∧ (decode cX10_formula 60 = .ok (.isub, 1)) ∧ (decode cX10_formula 61 = .ok (.ireturn, 1)) := by decide +kernel
theorem dX10_formula_39 : decode cX10_formula 39 = .ok (.aload_n 0, 1) := gX10_formula_24.1
theorem dX10_formula_40 : decode cX10_formula 40 = .ok (.getfield 54, 3) := gX10_formula_24.2.1
theorem dX10_formula_43 : decode cX10_formula 43 = .ok (.iload_n 1, 1) := gX10_formula_24.2.2.1
theorem dX10_formula_44 : decode cX10_formula 44 = .ok (.invokevirtual 293, 3) := gX10_formula_24.2.2.2.1
theorem dX10_formula_47 : decode cX10_formula 47 = .ok (.aload_n 0, 1) := gX10_formula_24.2.2.2.2.1
theorem dX10_formula_48 : decode cX10_formula 48 = .ok (.getfield 255, 3) := gX10_formula_24.2.2.2.2.2.1
theorem dX10_formula_51 : decode cX10_formula 51 = .ok (.ifCond .eq 11, 3) := gX10_formula_24.2.2.2.2.2.2.1
theorem dX10_formula_54 : decode cX10_formula 54 = .ok (.bipush (-20), 2) := gX10_formula_24.2.2.2.2.2.2.2.1
theorem dX10_formula_56 : decode cX10_formula 56 = .ok (.aload_n 0, 1) := gX10_formula_24.2.2.2.2.2.2.2.2.1
theorem dX10_formula_57 : decode cX10_formula 57 = .ok (.getfield 258, 3) := gX10_formula_24.2.2.2.2.2.2.2.2.2.1
theorem dX10_formula_60 : decode cX10_formula 60 = .ok (.isub, 1) := gX10_formula_24.2.2.2.2.2.2.2.2.2.2.1
theorem dX10_formula_61 : decode cX10_formula 61 = .ok (.ireturn, 1) := gX10_formula_24.2.2.2.2.2.2.2.2.2.2.2
theorem gX10_formula_36 : (decode cX10_formula 62 = .ok (.aload_n 0, 1)) ∧ (decode cX10_formula 63 = .ok (.iload_n 1, 1)) ∧ (decode cX10_formula 64 = .ok (.putfield 139, 3)) ∧ (decode cX10_formula 67 = .ok (.iconst 0, 1)) ∧ (decode cX10_formula 68 = .ok (.istore_n 2, 1)) ∧ (decode cX10_formula 69 = .ok (.iload_n 2, 1)) ∧ (decode cX10_formula 70 = .ok (.iload_n 1, 1)) ∧ (decode cX10_formula 71 = .ok (.if_icmp .ge 21, 3)) ∧ (decode cX10_formula 74 = .ok (.aload_n 0, 1)) ∧ (decode cX10_formula 75 = .ok (.getfield 57, 3)) ∧ (decode cX10_formula 78 = .ok (.iload_n 2, 1)) ∧ (decode cX10_formula 79 = .ok (.aload_n 0, 1)) := by decide +kernel
theorem dX10_formula_62 : decode cX10_formula 62 = .ok (.aload_n 0, 1) := gX10_formula_36.1
theorem dX10_formula_63 : decode cX10_formula 63 = .ok (.iload_n 1, 1) := gX10_formula_36.2.1
theorem dX10_formula_64 : decode cX10_formula 64 = .ok (.putfield 139, 3) := gX10_formula_36.2.2.1
theorem dX10_formula_67 : decode cX10_formula 67 = .ok (.iconst 0, 1) := gX10_formula_36.2.2.2.1
theorem dX10_formula_68 : decode cX10_formula 68 = .ok (.istore_n 2, 1) := gX10_formula_36.2.2.2.2.1
theorem dX10_formula_69 : decode cX10_formula 69 = .ok (.iload_n 2, 1) := gX10_formula_36.2.2.2.2.2.1
theorem dX10_formula_70 : decode cX10_formula 70 = .ok (.iload_n 1, 1) := gX10_formula_36.2.2.2.2.2.2.1
theorem dX10_formula_71 : decode cX10_formula 71 = .ok (.if_icmp .ge 21, 3) := gX10_formula_36.2.2.2.2.2.2.2.1
theorem dX10_formula_74 : decode cX10_formula 74 = .ok (.aload_n 0, 1) := gX10_formula_36.2.2.2.2.2.2.2.2.1
theorem dX10_formula_75 : decode cX10_formula 75 = .ok (.getfield 57, 3) := gX10_formula_36.2.2.2.2.2.2.2.2.2.1
theorem dX10_formula_78 : decode cX10_formula 78 = .ok (.iload_n 2, 1) := gX10_formula_36.2.2.2.2.2.2.2.2.2.2.1
theorem dX10_formula_79 : decode cX10_formula 79 = .ok (.aload_n 0, 1) := gX10_formula_36.2.2.2.2.2.2.2.2.2.2.2
theorem gX10_formula_48 : (decode cX10_formula 80 = .ok (.getfield 54, 3)) ∧ (decode cX10_formula 83 = .ok (.iload_n 2, 1)) ∧ (decode cX10_formula 84 = .ok (.iaload, 1)) ∧ (decode cX10_formula 85 = .ok (.iastore, 1)) ∧ (decode cX10_formula 86 = .ok (.iinc 2 1, 3)) ∧ (decode cX10_formula 89 = .ok (.goto (-20), 3)) ∧ (decode cX10_formula 92 = .ok (.aload_n 0, 1)) ∧ (decode cX10_formula 93 = .ok (.iconst 0, 1)) ∧ (decode cX10_formula 94 = .ok (.putfield 156, 3)) ∧ (decode cX10_formula 97 = .ok (.aload_n 0, 1)) ∧ (decode cX10_formula 98 = .ok (.getfield 249, 3)) ∧ (decode cX10_formula 101 = .ok (.ireturn, 1)) := by decide +kernel
theorem dX10_formula_80 : decode cX10_formula 80 = .ok (.getfield 54, 3) := gX10_formula_48.1
theorem dX10_formula_83 : decode cX10_formula 83 = .ok (.iload_n 2, 1) := gX10_formula_48.2.1
theorem dX10_formula_84 : decode cX10_formula 84 = .ok (.iaload, 1) := gX10_formula_48.2.2.1
theorem dX10_formula_85 : decode cX10_formula 85 = .ok (.iastore, 1) := gX10_formula_48.2.2.2.1
theorem dX10_formula_86 : decode cX10_formula 86 = .ok (.iinc 2 1, 3) := gX10_formula_48.2.2.2.2.1
theorem dX10_formula_89 : decode cX10_formula 89 = .ok (.goto (-20), 3) := gX10_formula_48.2.2.2.2.2.1
theorem dX10_formula_92 : decode cX10_formula 92 = .ok (.aload_n 0, 1) := gX10_formula_48.2.2.2.2.2.2.1
theorem dX10_formula_93 : decode cX10_formula 93 = .ok (.iconst 0, 1) := gX10_formula_48.2.2.2.2.2.2.2.1
theorem dX10_formula_94 : decode cX10_formula 94 = .ok (.putfield 156, 3) := gX10_formula_48.2.2.2.2.2.2.2.2.1
theorem dX10_formula_97 : decode cX10_formula 97 = .ok (.aload_n 0, 1) := gX10_formula_48.2.2.2.2.2.2.2.2.2.1
theorem dX10_formula_98 : decode cX10_formula 98 = .ok (.getfield 249, 3) := gX10_formula_48.2.2.2.2.2.2.2.2.2.2.1
theorem dX10_formula_101 : decode cX10_formula 101 = .ok (.ireturn, 1) := gX10_formula_48.2.2.2.2.2.2.2.2.2.2.2
theorem gX10_findNames_0 : (decode cX10_findNames 0 = .ok (.iload_n 1, 1)) ∧ (decode cX10_findNames 1 = .ok (.bipush 8, 2)) ∧ (decode cX10_findNames 3 = .ok (.idiv, 1)) ∧ (decode cX10_findNames 4 = .ok (.istore 4, 2)) ∧ (decode cX10_findNames 6 = .ok (.lconst 0, 1)) ∧ (decode cX10_findNames 7 = .ok (.lstore 5, 2)) ∧ (decode cX10_findNames 9 = .ok (.lconst 0, 1)) ∧ (decode cX10_findNames 10 = .ok (.lstore 7, 2)) ∧ (decode cX10_findNames 12 = .ok (.lconst 0, 1)) ∧ (decode cX10_findNames 13 = .ok (.lstore 9, 2)) ∧ (decode cX10_findNames 15 = .ok (.iconst 0, 1)) ∧ (decode cX10_findNames 16 = .ok (.istore 11, 2)) := by decide +kernel
theorem dX10_findNames_0 : decode cX10_findNames 0 = .ok (.iload_n 1, 1) := gX10_findNames_0.1
theorem dX10_findNames_1 : decode cX10_findNames 1 = .ok (.bipush 8, 2) := gX10_findNames_0.2.1
theorem dX10_findNames_3 : decode cX10_findNames 3 = .ok (.idiv, 1) := gX10_findNames_0.2.2.1
theorem dX10_findNames_4 : decode cX10_findNames 4 = .ok (.istore 4, 2) := gX10_findNames_0.2.2.2.1
theorem dX10_findNames_6 : decode cX10_findNames 6 = .ok (.lconst 0, 1) := gX10_findNames_0.2.2.2.2.1
theorem dX10_findNames_7 : decode cX10_findNames 7 = .ok (.lstore 5, 2) := gX10_findNames_0.2.2.2.2.2.1
theorem dX10_findNames_9 : decode cX10_findNames 9 = .ok (.lconst 0, 1) := gX10_findNames_0.2.2.2.2.2.2.1
theorem dX10_findNames_10 : decode cX10_findNames 10 = .ok (.lstore 7, 2) := gX10_findNames_0.2.2.2.2.2.2.2.1
theorem dX10_findNames_12 : decode cX10_findNames 12 = .ok (.lconst 0, 1) := gX10_findNames_0.2.2.2.2.2.2.2.2.1
theorem dX10_findNames_13 : decode cX10_findNames 13 = .ok (.lstore 9, 2) := gX10_findNames_0.2.2.2.2.2.2.2.2.2.1
theorem dX10_findNames_15 : decode cX10_findNames 15 = .ok (.iconst 0, 1) := gX10_findNames_0.2.2.2.2.2.2.2.2.2.2.1
theorem dX10_findNames_16 : decode cX10_findNames 16 = .ok (.istore 11, 2) := gX10_findNames_0.2.2.2.2.2.2.2.2.2.2.2
theorem gX10_findNames_12 : (decode cX10_findNames 18 = .ok (.aload_n 0, 1)) ∧ (decode cX10_findNames 19 = .ok (.getfield 60, 3)) ∧ (decode cX10_findNames 22 = .ok (.iconst 5, 1)) ∧ (decode cX10_findNames 23 = .ok (.lconst 0, 1)) ∧ (decode cX10_findNames 24 = .ok (.lastore, 1)) ∧ (decode cX10_findNames 25 = .ok (.aload_n 0, 1)) ∧ (decode cX10_findNames 26 = .ok (.getfield 64, 3)) ∧ (decode cX10_findNames 29 = .ok (.iconst 5, 1)) ∧ (decode cX10_findNames 30 = .ok (.lconst 1, 1)) ∧ (decode cX10_findNames 31 = .ok (.lastore, 1)) ∧ (decode cX10_findNames 32 = .ok (.iconst 0, 1)) ∧ (decode cX10_findNames 33 = .ok (.istore 12, 2)) := by decide +kernel
theorem dX10_findNames_18 : decode cX10_findNames 18 = .ok (.aload_n 0, 1) := gX10_findNames_12.1
theorem dX10_findNames_19 : decode cX10_findNames 19 = .ok (.getfield 60, 3) := gX10_findNames_12.2.1
theorem dX10_findNames_22 : decode cX10_findNames 22 = .ok (.iconst 5, 1) := gX10_findNames_12.2.2.1
theorem dX10_findNames_23 : decode cX10_findNames 23 = .ok (.lconst 0, 1) := gX10_findNames_12.2.2.2.1
theorem dX10_findNames_24 : decode cX10_findNames 24 = .ok (.lastore, 1) := gX10_findNames_12.2.2.2.2.1
theorem dX10_findNames_25 : decode cX10_findNames 25 = .ok (.aload_n 0, 1) := gX10_findNames_12.2.2.2.2.2.1
theorem dX10_findNames_26 : decode cX10_findNames 26 = .ok (.getfield 64, 3) := gX10_findNames_12.2.2.2.2.2.2.1
theorem dX10_findNames_29 : decode cX10_findNames 29 = .ok (.iconst 5, 1) := gX10_findNames_12.2.2.2.2.2.2.2.1
theorem dX10_findNames_30 : decode cX10_findNames 30 = .ok (.lconst 1, 1) := gX10_findNames_12.2.2.2.2.2.2.2.2.1
theorem dX10_findNames_31 : decode cX10_findNames 31 = .ok (.lastore, 1) := gX10_findNames_12.2.2.2.2.2.2.2.2.2.1
theorem dX10_findNames_32 : decode cX10_findNames 32 = .ok (.iconst 0, 1) := gX10_findNames_12.2.2.2.2.2.2.2.2.2.2.1
theorem dX10_findNames_33 : decode cX10_findNames 33 = .ok (.istore 12, 2) := gX10_findNames_12.2.2.2.2.2.2.2.2.2.2.2
theorem gX10_findNames_24 : (decode cX10_findNames 35 = .ok (.iload 12, 2)) ∧ (decode cX10_findNames 37 = .ok (.bipush 8, 2)) ∧ (decode cX10_findNames 39 = .ok (.if_icmp .ge 176, 3)) ∧ (decode cX10_findNames 42 = .ok (.bipush 8, 2)) ∧ (decode cX10_findNames 44 = .ok (.iload 4, 2)) ∧ (decode cX10_findNames 46 = .ok (.imul, 1)) ∧ (decode cX10_findNames 47 = .ok (.iload 12, 2)) ∧ (decode cX10_findNames 49 = .ok (.iadd, 1)) ∧ (decode cX10_findNames 50 = .ok (.istore 13, 2)) ∧ (decode cX10_findNames 52 = .ok (.aload_n 0, 1)) ∧ (decode cX10_findNames 53 = .ok (.iload 13, 2)) ∧ (decode cX10_findNames 55 = .ok (.invokevirtual 197, 3)) := by decide +kernel
theorem dX10_findNames_35 : decode cX10_findNames 35 = .ok (.iload 12, 2) := gX10_findNames_24.1
theorem dX10_findNames_37 : decode cX10_findNames 37 = .ok (.bipush 8, 2) := gX10_findNames_24.2.1
theorem dX10_findNames_39 : decode cX10_findNames 39 = .ok (.if_icmp .ge 176, 3) := gX10_findNames_24.2.2.1
theorem dX10_findNames_42 : decode cX10_findNames 42 = .ok (.bipush 8, 2) := gX10_findNames_24.2.2.2.1
theorem dX10_findNames_44 : decode cX10_findNames 44 = .ok (.iload 4, 2) := gX10_findNames_24.2.2.2.2.1
theorem dX10_findNames_46 : decode cX10_findNames 46 = .ok (.imul, 1) := gX10_findNames_24.2.2.2.2.2.1
theorem dX10_findNames_47 : decode cX10_findNames 47 = .ok (.iload 12, 2) := gX10_findNames_24.2.2.2.2.2.2.1
theorem dX10_findNames_49 : decode cX10_findNames 49 = .ok (.iadd, 1) := gX10_findNames_24.2.2.2.2.2.2.2.1
theorem dX10_findNames_50 : decode cX10_findNames 50 = .ok (.istore 13, 2) := gX10_findNames_24.2.2.2.2.2.2.2.2.1
theorem dX10_findNames_52 : decode cX10_findNames 52 = .ok (.aload_n 0, 1) := gX10_findNames_24.2.2.2.2.2.2.2.2.2.1
theorem dX10_findNames_53 : decode cX10_findNames 53 = .ok (.iload 13, 2) := gX10_findNames_24.2.2.2.2.2.2.2.2.2.2.1
theorem dX10_findNames_55 : decode cX10_findNames 55 = .ok (.invokevirtual 197, 3) := gX10_findNames_24.2.2.2.2.2.2.2.2.2.2.2
theorem gX10_findNames_36 : (decode cX10_findNames 58 = .ok (.ifCond .eq 151, 3)) ∧ (decode cX10_findNames 61 = .ok (.iload 12, 2)) ∧ (decode cX10_findNames 63 = .ok (.iload_n 3, 1)) ∧ (decode cX10_findNames 64 = .ok (.if_icmp .eq 145, 3)) ∧ (decode cX10_findNames 67 = .ok (.aload_n 0, 1)) ∧ (decode cX10_findNames 68 = .ok (.iload 13, 2)) ∧ (decode cX10_findNames 70 = .ok (.invokevirtual 191, 3)) ∧ (decode cX10_findNames 73 = .ok (.iload 13, 2)) ∧ (decode cX10_findNames 75 = .ok (.iload_n 1, 1)) ∧ (decode cX10_findNames 76 = .ok (.if_icmp .ne 7, 3)) ∧ (decode cX10_findNames 79 = .ok (.iload_n 2, 1)) ∧ (decode cX10_findNames 80 = .ok (.goto 4, 3)) := by decide +kernel
theorem dX10_findNames_58 : decode cX10_findNames 58 = .ok (.ifCond .eq 151, 3) := gX10_findNames_36.1
theorem dX10_findNames_61 : decode cX10_findNames 61 = .ok (.iload 12, 2) := gX10_findNames_36.2.1
theorem dX10_findNames_63 : decode cX10_findNames 63 = .ok (.iload_n 3, 1) := gX10_findNames_36.2.2.1
theorem dX10_findNames_64 : decode cX10_findNames 64 = .ok (.if_icmp .eq 145, 3) := gX10_findNames_36.2.2.2.1
theorem dX10_findNames_67 : decode cX10_findNames 67 = .ok (.aload_n 0, 1) := gX10_findNames_36.2.2.2.2.1
theorem dX10_findNames_68 : decode cX10_findNames 68 = .ok (.iload 13, 2) := gX10_findNames_36.2.2.2.2.2.1
theorem dX10_findNames_70 : decode cX10_findNames 70 = .ok (.invokevirtual 191, 3) := gX10_findNames_36.2.2.2.2.2.2.1
theorem dX10_findNames_73 : decode cX10_findNames 73 = .ok (.iload 13, 2) := gX10_findNames_36.2.2.2.2.2.2.2.1
theorem dX10_findNames_75 : decode cX10_findNames 75 = .ok (.iload_n 1, 1) := gX10_findNames_36.2.2.2.2.2.2.2.2.1
theorem dX10_findNames_76 : decode cX10_findNames 76 = .ok (.if_icmp .ne 7, 3) := gX10_findNames_36.2.2.2.2.2.2.2.2.2.1
theorem dX10_findNames_79 : decode cX10_findNames 79 = .ok (.iload_n 2, 1) := gX10_findNames_36.2.2.2.2.2.2.2.2.2.2.1
theorem dX10_findNames_80 : decode cX10_findNames 80 = .ok (.goto 4, 3) := gX10_findNames_36.2.2.2.2.2.2.2.2.2.2.2
theorem gX10_findNames_48 : (decode cX10_findNames 83 = .ok (.iconst 0, 1)) ∧ (decode cX10_findNames 84 = .ok (.isub, 1)) ∧ (decode cX10_findNames 85 = .ok (.i2l, 1)) ∧ (decode cX10_findNames 86 = .ok (.lstore 14, 2)) ∧ (decode cX10_findNames 88 = .ok (.lload 14, 2)) ∧ (decode cX10_findNames 90 = .ok (.lconst 1, 1)) ∧ (decode cX10_findNames 91 = .ok (.lcmp, 1)) ∧ (decode cX10_findNames 92 = .ok (.ifCond .ge 7, 3)) ∧ (decode cX10_findNames 95 = .ok (.lconst 1, 1)) ∧ (decode cX10_findNames 96 = .ok (.goto 5, 3)) ∧ (decode cX10_findNames 99 = .ok (.lload 14, 2)) ∧ (decode cX10_findNames 101 = .ok (.lstore 14, 2)) := by decide +kernel
theorem dX10_findNames_83 : decode cX10_findNames 83 = .ok (.iconst 0, 1) := gX10_findNames_48.1
theorem dX10_findNames_84 : decode cX10_findNames 84 = .ok (.isub, 1) := gX10_findNames_48.2.1
theorem dX10_findNames_85 : decode cX10_findNames 85 = .ok (.i2l, 1) := gX10_findNames_48.2.2.1
theorem dX10_findNames_86 : decode cX10_findNames 86 = .ok (.lstore 14, 2) := gX10_findNames_48.2.2.2.1
theorem dX10_findNames_88 : decode cX10_findNames 88 = .ok (.lload 14, 2) := gX10_findNames_48.2.2.2.2.1
theorem dX10_findNames_90 : decode cX10_findNames 90 = .ok (.lconst 1, 1) := gX10_findNames_48.2.2.2.2.2.1
theorem dX10_findNames_91 : decode cX10_findNames 91 = .ok (.lcmp, 1) := gX10_findNames_48.2.2.2.2.2.2.1
theorem dX10_findNames_92 : decode cX10_findNames 92 = .ok (.ifCond .ge 7, 3) := gX10_findNames_48.2.2.2.2.2.2.2.1
theorem dX10_findNames_95 : decode cX10_findNames 95 = .ok (.lconst 1, 1) := gX10_findNames_48.2.2.2.2.2.2.2.2.1
theorem dX10_findNames_96 : decode cX10_findNames 96 = .ok (.goto 5, 3) := gX10_findNames_48.2.2.2.2.2.2.2.2.2.1
theorem dX10_findNames_99 : decode cX10_findNames 99 = .ok (.lload 14, 2) := gX10_findNames_48.2.2.2.2.2.2.2.2.2.2.1
theorem dX10_findNames_101 : decode cX10_findNames 101 = .ok (.lstore 14, 2) := gX10_findNames_48.2.2.2.2.2.2.2.2.2.2.2
theorem gX10_findNames_60 : (decode cX10_findNames 103 = .ok (.iload 11, 2)) ∧ (decode cX10_findNames 105 = .ok (.ifCond .eq 11, 3)) ∧ (decode cX10_findNames 108 = .ok (.lload 14, 2)) ∧ (decode cX10_findNames 110 = .ok (.lload 5, 2)) ∧ (decode cX10_findNames 112 = .ok (.lcmp, 1)) ∧ (decode cX10_findNames 113 = .ok (.ifCond .ge 8, 3)) ∧ (decode cX10_findNames 116 = .ok (.lload 14, 2)) ∧ (decode cX10_findNames 118 = .ok (.goto 5, 3)) ∧ (decode cX10_findNames 121 = .ok (.lload 5, 2)) ∧ (decode cX10_findNames 123 = .ok (.lstore 5, 2)) ∧ (decode cX10_findNames 125 = .ok (.lload 14, 2)) ∧ (decode cX10_findNames 127 = .ok (.lload 7, 2)) := by decide +kernel
theorem dX10_findNames_103 : decode cX10_findNames 103 = .ok (.iload 11, 2) := gX10_findNames_60.1
theorem dX10_findNames_105 : decode cX10_findNames 105 = .ok (.ifCond .eq 11, 3) := gX10_findNames_60.2.1
theorem dX10_findNames_108 : decode cX10_findNames 108 = .ok (.lload 14, 2) := gX10_findNames_60.2.2.1
theorem dX10_findNames_110 : decode cX10_findNames 110 = .ok (.lload 5, 2) := gX10_findNames_60.2.2.2.1
theorem dX10_findNames_112 : decode cX10_findNames 112 = .ok (.lcmp, 1) := gX10_findNames_60.2.2.2.2.1
theorem dX10_findNames_113 : decode cX10_findNames 113 = .ok (.ifCond .ge 8, 3) := gX10_findNames_60.2.2.2.2.2.1
theorem dX10_findNames_116 : decode cX10_findNames 116 = .ok (.lload 14, 2) := gX10_findNames_60.2.2.2.2.2.2.1
theorem dX10_findNames_118 : decode cX10_findNames 118 = .ok (.goto 5, 3) := gX10_findNames_60.2.2.2.2.2.2.2.1
theorem dX10_findNames_121 : decode cX10_findNames 121 = .ok (.lload 5, 2) := gX10_findNames_60.2.2.2.2.2.2.2.2.1
theorem dX10_findNames_123 : decode cX10_findNames 123 = .ok (.lstore 5, 2) := gX10_findNames_60.2.2.2.2.2.2.2.2.2.1
theorem dX10_findNames_125 : decode cX10_findNames 125 = .ok (.lload 14, 2) := gX10_findNames_60.2.2.2.2.2.2.2.2.2.2.1
theorem dX10_findNames_127 : decode cX10_findNames 127 = .ok (.lload 7, 2) := gX10_findNames_60.2.2.2.2.2.2.2.2.2.2.2
theorem gX10_findNames_72 : (decode cX10_findNames 129 = .ok (.lcmp, 1)) ∧ (decode cX10_findNames 130 = .ok (.ifCond .le 8, 3)) ∧ (decode cX10_findNames 133 = .ok (.lload 14, 2)) ∧ (decode cX10_findNames 135 = .ok (.goto 5, 3)) ∧ (decode cX10_findNames 138 = .ok (.lload 7, 2)) ∧ (decode cX10_findNames 140 = .ok (.lstore 7, 2)) ∧ (decode cX10_findNames 142 = .ok (.lload 9, 2)) ∧ (decode cX10_findNames 144 = .ok (.lload 14, 2)) ∧ (decode cX10_findNames 146 = .ok (.ladd, 1)) ∧ (decode cX10_findNames 147 = .ok (.lstore 9, 2)) ∧ (decode cX10_findNames 149 = .ok (.iinc 11 1, 3)) ∧ (decode cX10_findNames 152 = .ok (.aload_n 0, 1)) := by decide +kernel
theorem dX10_findNames_129 : decode cX10_findNames 129 = .ok (.lcmp, 1) := gX10_findNames_72.1
theorem dX10_findNames_130 : decode cX10_findNames 130 = .ok (.ifCond .le 8, 3) := gX10_findNames_72.2.1
theorem dX10_findNames_133 : decode cX10_findNames 133 = .ok (.lload 14, 2) := gX10_findNames_72.2.2.1
theorem dX10_findNames_135 : decode cX10_findNames 135 = .ok (.goto 5, 3) := gX10_findNames_72.2.2.2.1
theorem dX10_findNames_138 : decode cX10_findNames 138 = .ok (.lload 7, 2) := gX10_findNames_72.2.2.2.2.1
theorem dX10_findNames_140 : decode cX10_findNames 140 = .ok (.lstore 7, 2) := gX10_findNames_72.2.2.2.2.2.1
theorem dX10_findNames_142 : decode cX10_findNames 142 = .ok (.lload 9, 2) := gX10_findNames_72.2.2.2.2.2.2.1
theorem dX10_findNames_144 : decode cX10_findNames 144 = .ok (.lload 14, 2) := gX10_findNames_72.2.2.2.2.2.2.2.1
theorem dX10_findNames_146 : decode cX10_findNames 146 = .ok (.ladd, 1) := gX10_findNames_72.2.2.2.2.2.2.2.2.1
theorem dX10_findNames_147 : decode cX10_findNames 147 = .ok (.lstore 9, 2) := gX10_findNames_72.2.2.2.2.2.2.2.2.2.1
theorem dX10_findNames_149 : decode cX10_findNames 149 = .ok (.iinc 11 1, 3) := gX10_findNames_72.2.2.2.2.2.2.2.2.2.2.1
theorem dX10_findNames_152 : decode cX10_findNames 152 = .ok (.aload_n 0, 1) := gX10_findNames_72.2.2.2.2.2.2.2.2.2.2.2
theorem gX10_findNames_84 : (decode cX10_findNames 153 = .ok (.iload 13, 2)) ∧ (decode cX10_findNames 155 = .ok (.iload_n 3, 1)) ∧ (decode cX10_findNames 156 = .ok (.invokevirtual 215, 3)) ∧ (decode cX10_findNames 159 = .ok (.aload_n 0, 1)) ∧ (decode cX10_findNames 160 = .ok (.getfield 206, 3)) ∧ (decode cX10_findNames 163 = .ok (.i2l, 1)) ∧ (decode cX10_findNames 164 = .ok (.aload_n 0, 1)) ∧ (decode cX10_findNames 165 = .ok (.getfield 64, 3)) ∧ (decode cX10_findNames 168 = .ok (.iconst 5, 1)) ∧ (decode cX10_findNames 169 = .ok (.laload, 1)) ∧ (decode cX10_findNames 170 = .ok (.lmul, 1)) ∧ (decode cX10_findNames 171 = .ok (.aload_n 0, 1)) := by decide +kernel
theorem dX10_findNames_153 : decode cX10_findNames 153 = .ok (.iload 13, 2) := gX10_findNames_84.1
theorem dX10_findNames_155 : decode cX10_findNames 155 = .ok (.iload_n 3, 1) := gX10_findNames_84.2.1
theorem dX10_findNames_156 : decode cX10_findNames 156 = .ok (.invokevirtual 215, 3) := gX10_findNames_84.2.2.1
theorem dX10_findNames_159 : decode cX10_findNames 159 = .ok (.aload_n 0, 1) := gX10_findNames_84.2.2.2.1
theorem dX10_findNames_160 : decode cX10_findNames 160 = .ok (.getfield 206, 3) := gX10_findNames_84.2.2.2.2.1
theorem dX10_findNames_163 : decode cX10_findNames 163 = .ok (.i2l, 1) := gX10_findNames_84.2.2.2.2.2.1
theorem dX10_findNames_164 : decode cX10_findNames 164 = .ok (.aload_n 0, 1) := gX10_findNames_84.2.2.2.2.2.2.1
theorem dX10_findNames_165 : decode cX10_findNames 165 = .ok (.getfield 64, 3) := gX10_findNames_84.2.2.2.2.2.2.2.1
theorem dX10_findNames_168 : decode cX10_findNames 168 = .ok (.iconst 5, 1) := gX10_findNames_84.2.2.2.2.2.2.2.2.1
theorem dX10_findNames_169 : decode cX10_findNames 169 = .ok (.laload, 1) := gX10_findNames_84.2.2.2.2.2.2.2.2.2.1
theorem dX10_findNames_170 : decode cX10_findNames 170 = .ok (.lmul, 1) := gX10_findNames_84.2.2.2.2.2.2.2.2.2.2.1
theorem dX10_findNames_171 : decode cX10_findNames 171 = .ok (.aload_n 0, 1) := gX10_findNames_84.2.2.2.2.2.2.2.2.2.2.2
theorem gX10_findNames_96 : (decode cX10_findNames 172 = .ok (.getfield 60, 3)) ∧ (decode cX10_findNames 175 = .ok (.iconst 5, 1)) ∧ (decode cX10_findNames 176 = .ok (.laload, 1)) ∧ (decode cX10_findNames 177 = .ok (.aload_n 0, 1)) ∧ (decode cX10_findNames 178 = .ok (.getfield 209, 3)) ∧ (decode cX10_findNames 181 = .ok (.i2l, 1)) ∧ (decode cX10_findNames 182 = .ok (.lmul, 1)) ∧ (decode cX10_findNames 183 = .ok (.lcmp, 1)) ∧ (decode cX10_findNames 184 = .ok (.ifCond .le 25, 3)) ∧ (decode cX10_findNames 187 = .ok (.aload_n 0, 1)) ∧ (decode cX10_findNames 188 = .ok (.getfield 60, 3)) ∧ (decode cX10_findNames 191 = .ok (.iconst 5, 1)) := by decide +kernel
theorem dX10_findNames_172 : decode cX10_findNames 172 = .ok (.getfield 60, 3) := gX10_findNames_96.1
theorem dX10_findNames_175 : decode cX10_findNames 175 = .ok (.iconst 5, 1) := gX10_findNames_96.2.1
theorem dX10_findNames_176 : decode cX10_findNames 176 = .ok (.laload, 1) := gX10_findNames_96.2.2.1
theorem dX10_findNames_177 : decode cX10_findNames 177 = .ok (.aload_n 0, 1) := gX10_findNames_96.2.2.2.1
theorem dX10_findNames_178 : decode cX10_findNames 178 = .ok (.getfield 209, 3) := gX10_findNames_96.2.2.2.2.1
theorem dX10_findNames_181 : decode cX10_findNames 181 = .ok (.i2l, 1) := gX10_findNames_96.2.2.2.2.2.1
theorem dX10_findNames_182 : decode cX10_findNames 182 = .ok (.lmul, 1) := gX10_findNames_96.2.2.2.2.2.2.1
theorem dX10_findNames_183 : decode cX10_findNames 183 = .ok (.lcmp, 1) := gX10_findNames_96.2.2.2.2.2.2.2.1
theorem dX10_findNames_184 : decode cX10_findNames 184 = .ok (.ifCond .le 25, 3) := gX10_findNames_96.2.2.2.2.2.2.2.2.1
theorem dX10_findNames_187 : decode cX10_findNames 187 = .ok (.aload_n 0, 1) := gX10_findNames_96.2.2.2.2.2.2.2.2.2.1
theorem dX10_findNames_188 : decode cX10_findNames 188 = .ok (.getfield 60, 3) := gX10_findNames_96.2.2.2.2.2.2.2.2.2.2.1
theorem dX10_findNames_191 : decode cX10_findNames 191 = .ok (.iconst 5, 1) := gX10_findNames_96.2.2.2.2.2.2.2.2.2.2.2
theorem gX10_findNames_108 : (decode cX10_findNames 192 = .ok (.aload_n 0, 1)) ∧ (decode cX10_findNames 193 = .ok (.getfield 206, 3)) ∧ (decode cX10_findNames 196 = .ok (.i2l, 1)) ∧ (decode cX10_findNames 197 = .ok (.lastore, 1)) ∧ (decode cX10_findNames 198 = .ok (.aload_n 0, 1)) ∧ (decode cX10_findNames 199 = .ok (.getfield 64, 3)) ∧ (decode cX10_findNames 202 = .ok (.iconst 5, 1)) ∧ (decode cX10_findNames 203 = .ok (.aload_n 0, 1)) ∧ (decode cX10_findNames 204 = .ok (.getfield 209, 3)) ∧ (decode cX10_findNames 207 = .ok (.i2l, 1)) ∧ (decode cX10_findNames 208 = .ok (.lastore, 1)) ∧ (decode cX10_findNames 209 = .ok (.iinc 12 1, 3)) := by decide +kernel
theorem dX10_findNames_192 : decode cX10_findNames 192 = .ok (.aload_n 0, 1) := gX10_findNames_108.1
theorem dX10_findNames_193 : decode cX10_findNames 193 = .ok (.getfield 206, 3) := gX10_findNames_108.2.1
theorem dX10_findNames_196 : decode cX10_findNames 196 = .ok (.i2l, 1) := gX10_findNames_108.2.2.1
theorem dX10_findNames_197 : decode cX10_findNames 197 = .ok (.lastore, 1) := gX10_findNames_108.2.2.2.1
theorem dX10_findNames_198 : decode cX10_findNames 198 = .ok (.aload_n 0, 1) := gX10_findNames_108.2.2.2.2.1
theorem dX10_findNames_199 : decode cX10_findNames 199 = .ok (.getfield 64, 3) := gX10_findNames_108.2.2.2.2.2.1
theorem dX10_findNames_202 : decode cX10_findNames 202 = .ok (.iconst 5, 1) := gX10_findNames_108.2.2.2.2.2.2.1
theorem dX10_findNames_203 : decode cX10_findNames 203 = .ok (.aload_n 0, 1) := gX10_findNames_108.2.2.2.2.2.2.2.1
theorem dX10_findNames_204 : decode cX10_findNames 204 = .ok (.getfield 209, 3) := gX10_findNames_108.2.2.2.2.2.2.2.2.1
theorem dX10_findNames_207 : decode cX10_findNames 207 = .ok (.i2l, 1) := gX10_findNames_108.2.2.2.2.2.2.2.2.2.1
theorem dX10_findNames_208 : decode cX10_findNames 208 = .ok (.lastore, 1) := gX10_findNames_108.2.2.2.2.2.2.2.2.2.2.1
theorem dX10_findNames_209 : decode cX10_findNames 209 = .ok (.iinc 12 1, 3) := gX10_findNames_108.2.2.2.2.2.2.2.2.2.2.2
theorem gX10_findNames_120 : (decode cX10_findNames 212 = .ok (.goto (-177), 3)) ∧ (decode cX10_findNames 215 = .ok (.aload_n 0, 1)) ∧ (decode cX10_findNames 216 = .ok (.iload_n 1, 1)) ∧ (decode cX10_findNames 217 = .ok (.invokevirtual 191, 3)) ∧ (decode cX10_findNames 220 = .ok (.iload_n 2, 1)) ∧ (decode cX10_findNames 221 = .ok (.isub, 1)) ∧ (decode cX10_findNames 222 = .ok (.i2l, 1)) ∧ (decode cX10_findNames 223 = .ok (.lstore 12, 2)) ∧ (decode cX10_findNames 225 = .ok (.aload_n 0, 1)) ∧ (decode cX10_findNames 226 = .ok (.getfield 60, 3)) ∧ (decode cX10_findNames 229 = .ok (.iconst 0, 1)) ∧ (decode cX10_findNames 230 = .ok (.lload 12, 2)) := by decide +kernel
theorem dX10_findNames_212 : decode cX10_findNames 212 = .ok (.goto (-177), 3) := gX10_findNames_120.1
theorem dX10_findNames_215 : decode cX10_findNames 215 = .ok (.aload_n 0, 1) := gX10_findNames_120.2.1
theorem dX10_findNames_216 : decode cX10_findNames 216 = .ok (.iload_n 1, 1) := gX10_findNames_120.2.2.1
theorem dX10_findNames_217 : decode cX10_findNames 217 = .ok (.invokevirtual 191, 3) := gX10_findNames_120.2.2.2.1
theorem dX10_findNames_220 : decode cX10_findNames 220 = .ok (.iload_n 2, 1) := gX10_findNames_120.2.2.2.2.1
theorem dX10_findNames_221 : decode cX10_findNames 221 = .ok (.isub, 1) := gX10_findNames_120.2.2.2.2.2.1
theorem dX10_findNames_222 : decode cX10_findNames 222 = .ok (.i2l, 1) := gX10_findNames_120.2.2.2.2.2.2.1
theorem dX10_findNames_223 : decode cX10_findNames 223 = .ok (.lstore 12, 2) := gX10_findNames_120.2.2.2.2.2.2.2.1
theorem dX10_findNames_225 : decode cX10_findNames 225 = .ok (.aload_n 0, 1) := gX10_findNames_120.2.2.2.2.2.2.2.2.1
theorem dX10_findNames_226 : decode cX10_findNames 226 = .ok (.getfield 60, 3) := gX10_findNames_120.2.2.2.2.2.2.2.2.2.1
theorem dX10_findNames_229 : decode cX10_findNames 229 = .ok (.iconst 0, 1) := gX10_findNames_120.2.2.2.2.2.2.2.2.2.2.1
theorem dX10_findNames_230 : decode cX10_findNames 230 = .ok (.lload 12, 2) := gX10_findNames_120.2.2.2.2.2.2.2.2.2.2.2
theorem gX10_findNames_132 : (decode cX10_findNames 232 = .ok (.lconst 1, 1)) ∧ (decode cX10_findNames 233 = .ok (.lcmp, 1)) ∧ (decode cX10_findNames 234 = .ok (.ifCond .ge 7, 3)) ∧ (decode cX10_findNames 237 = .ok (.lconst 1, 1)) ∧ (decode cX10_findNames 238 = .ok (.goto 5, 3)) ∧ (decode cX10_findNames 241 = .ok (.lload 12, 2)) ∧ (decode cX10_findNames 243 = .ok (.lastore, 1)) ∧ (decode cX10_findNames 244 = .ok (.aload_n 0, 1)) ∧ (decode cX10_findNames 245 = .ok (.getfield 60, 3)) ∧ (decode cX10_findNames 248 = .ok (.iconst 1, 1)) ∧ (decode cX10_findNames 249 = .ok (.lload 5, 2)) ∧ (decode cX10_findNames 251 = .ok (.lastore, 1)) := by decide +kernel
theorem dX10_findNames_232 : decode cX10_findNames 232 = .ok (.lconst 1, 1) := gX10_findNames_132.1
theorem dX10_findNames_233 : decode cX10_findNames 233 = .ok (.lcmp, 1) := gX10_findNames_132.2.1
theorem dX10_findNames_234 : decode cX10_findNames 234 = .ok (.ifCond .ge 7, 3) := gX10_findNames_132.2.2.1
theorem dX10_findNames_237 : decode cX10_findNames 237 = .ok (.lconst 1, 1) := gX10_findNames_132.2.2.2.1
theorem dX10_findNames_238 : decode cX10_findNames 238 = .ok (.goto 5, 3) := gX10_findNames_132.2.2.2.2.1
theorem dX10_findNames_241 : decode cX10_findNames 241 = .ok (.lload 12, 2) := gX10_findNames_132.2.2.2.2.2.1
theorem dX10_findNames_243 : decode cX10_findNames 243 = .ok (.lastore, 1) := gX10_findNames_132.2.2.2.2.2.2.1
theorem dX10_findNames_244 : decode cX10_findNames 244 = .ok (.aload_n 0, 1) := gX10_findNames_132.2.2.2.2.2.2.2.1
theorem dX10_findNames_245 : decode cX10_findNames 245 = .ok (.getfield 60, 3) := gX10_findNames_132.2.2.2.2.2.2.2.2.1
theorem dX10_findNames_248 : decode cX10_findNames 248 = .ok (.iconst 1, 1) := gX10_findNames_132.2.2.2.2.2.2.2.2.2.1
theorem dX10_findNames_249 : decode cX10_findNames 249 = .ok (.lload 5, 2) := gX10_findNames_132.2.2.2.2.2.2.2.2.2.2.1
theorem dX10_findNames_251 : decode cX10_findNames 251 = .ok (.lastore, 1) := gX10_findNames_132.2.2.2.2.2.2.2.2.2.2.2
theorem gX10_findNames_144 : (decode cX10_findNames 252 = .ok (.aload_n 0, 1)) ∧ (decode cX10_findNames 253 = .ok (.getfield 60, 3)) ∧ (decode cX10_findNames 256 = .ok (.iconst 2, 1)) ∧ (decode cX10_findNames 257 = .ok (.lload 7, 2)) ∧ (decode cX10_findNames 259 = .ok (.lastore, 1)) ∧ (decode cX10_findNames 260 = .ok (.aload_n 0, 1)) ∧ (decode cX10_findNames 261 = .ok (.getfield 60, 3)) ∧ (decode cX10_findNames 264 = .ok (.iconst 3, 1)) ∧ (decode cX10_findNames 265 = .ok (.lload 9, 2)) ∧ (decode cX10_findNames 267 = .ok (.lastore, 1)) ∧ (decode cX10_findNames 268 = .ok (.aload_n 0, 1)) ∧ (decode cX10_findNames 269 = .ok (.getfield 60, 3)) := by decide +kernel
theorem dX10_findNames_252 : decode cX10_findNames 252 = .ok (.aload_n 0, 1) := gX10_findNames_144.1
theorem dX10_findNames_253 : decode cX10_findNames 253 = .ok (.getfield 60, 3) := gX10_findNames_144.2.1
theorem dX10_findNames_256 : decode cX10_findNames 256 = .ok (.iconst 2, 1) := gX10_findNames_144.2.2.1
theorem dX10_findNames_257 : decode cX10_findNames 257 = .ok (.lload 7, 2) := gX10_findNames_144.2.2.2.1
theorem dX10_findNames_259 : decode cX10_findNames 259 = .ok (.lastore, 1) := gX10_findNames_144.2.2.2.2.1
theorem dX10_findNames_260 : decode cX10_findNames 260 = .ok (.aload_n 0, 1) := gX10_findNames_144.2.2.2.2.2.1
theorem dX10_findNames_261 : decode cX10_findNames 261 = .ok (.getfield 60, 3) := gX10_findNames_144.2.2.2.2.2.2.1
theorem dX10_findNames_264 : decode cX10_findNames 264 = .ok (.iconst 3, 1) := gX10_findNames_144.2.2.2.2.2.2.2.1
theorem dX10_findNames_265 : decode cX10_findNames 265 = .ok (.lload 9, 2) := gX10_findNames_144.2.2.2.2.2.2.2.2.1
theorem dX10_findNames_267 : decode cX10_findNames 267 = .ok (.lastore, 1) := gX10_findNames_144.2.2.2.2.2.2.2.2.2.1
theorem dX10_findNames_268 : decode cX10_findNames 268 = .ok (.aload_n 0, 1) := gX10_findNames_144.2.2.2.2.2.2.2.2.2.2.1
theorem dX10_findNames_269 : decode cX10_findNames 269 = .ok (.getfield 60, 3) := gX10_findNames_144.2.2.2.2.2.2.2.2.2.2.2
theorem gX10_findNames_156 : (decode cX10_findNames 272 = .ok (.bipush 6, 2)) ∧ (decode cX10_findNames 274 = .ok (.iload 11, 2)) ∧ (decode cX10_findNames 276 = .ok (.i2l, 1)) ∧ (decode cX10_findNames 277 = .ok (.lastore, 1)) ∧ (decode cX10_findNames 278 = .ok (.iconst 0, 1)) ∧ (decode cX10_findNames 279 = .ok (.istore 14, 2)) ∧ (decode cX10_findNames 281 = .ok (.iload 14, 2)) ∧ (decode cX10_findNames 283 = .ok (.bipush 7, 2)) ∧ (decode cX10_findNames 285 = .ok (.if_icmp .ge 32, 3)) ∧ (decode cX10_findNames 288 = .ok (.aload_n 0, 1)) ∧ (decode cX10_findNames 289 = .ok (.getfield 64, 3)) ∧ (decode cX10_findNames 292 = .ok (.iload 14, 2)) := by decide +kernel
theorem dX10_findNames_272 : decode cX10_findNames 272 = .ok (.bipush 6, 2) := gX10_findNames_156.1
theorem dX10_findNames_274 : decode cX10_findNames 274 = .ok (.iload 11, 2) := gX10_findNames_156.2.1
theorem dX10_findNames_276 : decode cX10_findNames 276 = .ok (.i2l, 1) := gX10_findNames_156.2.2.1
theorem dX10_findNames_277 : decode cX10_findNames 277 = .ok (.lastore, 1) := gX10_findNames_156.2.2.2.1
theorem dX10_findNames_278 : decode cX10_findNames 278 = .ok (.iconst 0, 1) := gX10_findNames_156.2.2.2.2.1
theorem dX10_findNames_279 : decode cX10_findNames 279 = .ok (.istore 14, 2) := gX10_findNames_156.2.2.2.2.2.1
theorem dX10_findNames_281 : decode cX10_findNames 281 = .ok (.iload 14, 2) := gX10_findNames_156.2.2.2.2.2.2.1
theorem dX10_findNames_283 : decode cX10_findNames 283 = .ok (.bipush 7, 2) := gX10_findNames_156.2.2.2.2.2.2.2.1
theorem dX10_findNames_285 : decode cX10_findNames 285 = .ok (.if_icmp .ge 32, 3) := gX10_findNames_156.2.2.2.2.2.2.2.2.1
theorem dX10_findNames_288 : decode cX10_findNames 288 = .ok (.aload_n 0, 1) := gX10_findNames_156.2.2.2.2.2.2.2.2.2.1
theorem dX10_findNames_289 : decode cX10_findNames 289 = .ok (.getfield 64, 3) := gX10_findNames_156.2.2.2.2.2.2.2.2.2.2.1
theorem dX10_findNames_292 : decode cX10_findNames 292 = .ok (.iload 14, 2) := gX10_findNames_156.2.2.2.2.2.2.2.2.2.2.2
theorem gX10_findNames_168 : (decode cX10_findNames 294 = .ok (.iload 14, 2)) ∧ (decode cX10_findNames 296 = .ok (.iconst 5, 1)) ∧ (decode cX10_findNames 297 = .ok (.if_icmp .ne 12, 3)) ∧ (decode cX10_findNames 300 = .ok (.aload_n 0, 1)) ∧ (decode cX10_findNames 301 = .ok (.getfield 64, 3)) ∧ (decode cX10_findNames 304 = .ok (.iconst 5, 1)) ∧ (decode cX10_findNames 305 = .ok (.laload, 1)) ∧ (decode cX10_findNames 306 = .ok (.goto 4, 3)) ∧ (decode cX10_findNames 309 = .ok (.lconst 1, 1)) ∧ (decode cX10_findNames 310 = .ok (.lastore, 1)) ∧ (decode cX10_findNames 311 = .ok (.iinc 14 1, 3)) ∧ (decode cX10_findNames 314 = .ok (.goto (-33), 3)) := by decide +kernel
theorem dX10_findNames_294 : decode cX10_findNames 294 = .ok (.iload 14, 2) := gX10_findNames_168.1
theorem dX10_findNames_296 : decode cX10_findNames 296 = .ok (.iconst 5, 1) := gX10_findNames_168.2.1
theorem dX10_findNames_297 : decode cX10_findNames 297 = .ok (.if_icmp .ne 12, 3) := gX10_findNames_168.2.2.1
theorem dX10_findNames_300 : decode cX10_findNames 300 = .ok (.aload_n 0, 1) := gX10_findNames_168.2.2.2.1
theorem dX10_findNames_301 : decode cX10_findNames 301 = .ok (.getfield 64, 3) := gX10_findNames_168.2.2.2.2.1
theorem dX10_findNames_304 : decode cX10_findNames 304 = .ok (.iconst 5, 1) := gX10_findNames_168.2.2.2.2.2.1
theorem dX10_findNames_305 : decode cX10_findNames 305 = .ok (.laload, 1) := gX10_findNames_168.2.2.2.2.2.2.1
theorem dX10_findNames_306 : decode cX10_findNames 306 = .ok (.goto 4, 3) := gX10_findNames_168.2.2.2.2.2.2.2.1
theorem dX10_findNames_309 : decode cX10_findNames 309 = .ok (.lconst 1, 1) := gX10_findNames_168.2.2.2.2.2.2.2.2.1
theorem dX10_findNames_310 : decode cX10_findNames 310 = .ok (.lastore, 1) := gX10_findNames_168.2.2.2.2.2.2.2.2.2.1
theorem dX10_findNames_311 : decode cX10_findNames 311 = .ok (.iinc 14 1, 3) := gX10_findNames_168.2.2.2.2.2.2.2.2.2.2.1
theorem dX10_findNames_314 : decode cX10_findNames 314 = .ok (.goto (-33), 3) := gX10_findNames_168.2.2.2.2.2.2.2.2.2.2.2
theorem gX10_findNames_180 : (decode cX10_findNames 317 = .ok (.aload_n 0, 1)) ∧ (decode cX10_findNames 318 = .ok (.getfield 64, 3)) ∧ (decode cX10_findNames 321 = .ok (.iconst 3, 1)) ∧ (decode cX10_findNames 322 = .ok (.iload 11, 2)) ∧ (decode cX10_findNames 324 = .ok (.i2l, 1)) ∧ (decode cX10_findNames 325 = .ok (.lastore, 1)) ∧ (decode cX10_findNames 326 = .ok (.aload_n 0, 1)) ∧ (decode cX10_findNames 327 = .ok (.iload_n 1, 1)) ∧ (decode cX10_findNames 328 = .ok (.iload_n 3, 1)) ∧ (decode cX10_findNames 329 = .ok (.invokevirtual 215, 3)) ∧ (decode cX10_findNames 332 = .ok (.aload_n 0, 1)) ∧ (decode cX10_findNames 333 = .ok (.getfield 60, 3)) := by decide +kernel
theorem dX10_findNames_317 : decode cX10_findNames 317 = .ok (.aload_n 0, 1) := gX10_findNames_180.1
theorem dX10_findNames_318 : decode cX10_findNames 318 = .ok (.getfield 64, 3) := gX10_findNames_180.2.1
theorem dX10_findNames_321 : decode cX10_findNames 321 = .ok (.iconst 3, 1) := gX10_findNames_180.2.2.1
theorem dX10_findNames_322 : decode cX10_findNames 322 = .ok (.iload 11, 2) := gX10_findNames_180.2.2.2.1
theorem dX10_findNames_324 : decode cX10_findNames 324 = .ok (.i2l, 1) := gX10_findNames_180.2.2.2.2.1
theorem dX10_findNames_325 : decode cX10_findNames 325 = .ok (.lastore, 1) := gX10_findNames_180.2.2.2.2.2.1
theorem dX10_findNames_326 : decode cX10_findNames 326 = .ok (.aload_n 0, 1) := gX10_findNames_180.2.2.2.2.2.2.1
theorem dX10_findNames_327 : decode cX10_findNames 327 = .ok (.iload_n 1, 1) := gX10_findNames_180.2.2.2.2.2.2.2.1
theorem dX10_findNames_328 : decode cX10_findNames 328 = .ok (.iload_n 3, 1) := gX10_findNames_180.2.2.2.2.2.2.2.2.1
theorem dX10_findNames_329 : decode cX10_findNames 329 = .ok (.invokevirtual 215, 3) := gX10_findNames_180.2.2.2.2.2.2.2.2.2.1
theorem dX10_findNames_332 : decode cX10_findNames 332 = .ok (.aload_n 0, 1) := gX10_findNames_180.2.2.2.2.2.2.2.2.2.2.1
theorem dX10_findNames_333 : decode cX10_findNames 333 = .ok (.getfield 60, 3) := gX10_findNames_180.2.2.2.2.2.2.2.2.2.2.2
theorem gX10_findNames_192 : (decode cX10_findNames 336 = .ok (.iconst 4, 1)) ∧ (decode cX10_findNames 337 = .ok (.aload_n 0, 1)) ∧ (decode cX10_findNames 338 = .ok (.getfield 206, 3)) ∧ (decode cX10_findNames 341 = .ok (.i2l, 1)) ∧ (decode cX10_findNames 342 = .ok (.lastore, 1)) ∧ (decode cX10_findNames 343 = .ok (.aload_n 0, 1)) ∧ (decode cX10_findNames 344 = .ok (.getfield 64, 3)) ∧ (decode cX10_findNames 347 = .ok (.iconst 4, 1)) ∧ (decode cX10_findNames 348 = .ok (.aload_n 0, 1)) ∧ (decode cX10_findNames 349 = .ok (.getfield 209, 3)) ∧ (decode cX10_findNames 352 = .ok (.i2l, 1)) ∧ (decode cX10_findNames 353 = .ok (.lastore, 1)) := by decide +kernel
theorem dX10_findNames_336 : decode cX10_findNames 336 = .ok (.iconst 4, 1) := gX10_findNames_192.1
theorem dX10_findNames_337 : decode cX10_findNames 337 = .ok (.aload_n 0, 1) := gX10_findNames_192.2.1
theorem dX10_findNames_338 : decode cX10_findNames 338 = .ok (.getfield 206, 3) := gX10_findNames_192.2.2.1
theorem dX10_findNames_341 : decode cX10_findNames 341 = .ok (.i2l, 1) := gX10_findNames_192.2.2.2.1
theorem dX10_findNames_342 : decode cX10_findNames 342 = .ok (.lastore, 1) := gX10_findNames_192.2.2.2.2.1
theorem dX10_findNames_343 : decode cX10_findNames 343 = .ok (.aload_n 0, 1) := gX10_findNames_192.2.2.2.2.2.1
theorem dX10_findNames_344 : decode cX10_findNames 344 = .ok (.getfield 64, 3) := gX10_findNames_192.2.2.2.2.2.2.1
theorem dX10_findNames_347 : decode cX10_findNames 347 = .ok (.iconst 4, 1) := gX10_findNames_192.2.2.2.2.2.2.2.1
theorem dX10_findNames_348 : decode cX10_findNames 348 = .ok (.aload_n 0, 1) := gX10_findNames_192.2.2.2.2.2.2.2.2.1
theorem dX10_findNames_349 : decode cX10_findNames 349 = .ok (.getfield 209, 3) := gX10_findNames_192.2.2.2.2.2.2.2.2.2.1
theorem dX10_findNames_352 : decode cX10_findNames 352 = .ok (.i2l, 1) := gX10_findNames_192.2.2.2.2.2.2.2.2.2.2.1
theorem dX10_findNames_353 : decode cX10_findNames 353 = .ok (.lastore, 1) := gX10_findNames_192.2.2.2.2.2.2.2.2.2.2.2
theorem gX10_findNames_204 : (decode cX10_findNames 354 = .ok (.iconst 3, 1)) ∧ (decode cX10_findNames 355 = .ok (.istore 14, 2)) ∧ (decode cX10_findNames 357 = .ok (.iload 14, 2)) ∧ (decode cX10_findNames 359 = .ok (.bipush 6, 2)) ∧ (decode cX10_findNames 361 = .ok (.if_icmp .ge 52, 3)) ∧ (decode cX10_findNames 364 = .ok (.aload_n 0, 1)) ∧ (decode cX10_findNames 365 = .ok (.getfield 60, 3)) ∧ (decode cX10_findNames 368 = .ok (.iload 14, 2)) ∧ (decode cX10_findNames 370 = .ok (.laload, 1)) ∧ (decode cX10_findNames 371 = .ok (.aload_n 0, 1)) ∧ (decode cX10_findNames 372 = .ok (.getfield 64, 3)) ∧ (decode cX10_findNames 375 = .ok (.iload 14, 2)) := by decide +kernel
theorem dX10_findNames_354 : decode cX10_findNames 354 = .ok (.iconst 3, 1) := gX10_findNames_204.1
theorem dX10_findNames_355 : decode cX10_findNames 355 = .ok (.istore 14, 2) := gX10_findNames_204.2.1
theorem dX10_findNames_357 : decode cX10_findNames 357 = .ok (.iload 14, 2) := gX10_findNames_204.2.2.1
theorem dX10_findNames_359 : decode cX10_findNames 359 = .ok (.bipush 6, 2) := gX10_findNames_204.2.2.2.1
theorem dX10_findNames_361 : decode cX10_findNames 361 = .ok (.if_icmp .ge 52, 3) := gX10_findNames_204.2.2.2.2.1
theorem dX10_findNames_364 : decode cX10_findNames 364 = .ok (.aload_n 0, 1) := gX10_findNames_204.2.2.2.2.2.1
theorem dX10_findNames_365 : decode cX10_findNames 365 = .ok (.getfield 60, 3) := gX10_findNames_204.2.2.2.2.2.2.1
theorem dX10_findNames_368 : decode cX10_findNames 368 = .ok (.iload 14, 2) := gX10_findNames_204.2.2.2.2.2.2.2.1
theorem dX10_findNames_370 : decode cX10_findNames 370 = .ok (.laload, 1) := gX10_findNames_204.2.2.2.2.2.2.2.2.1
theorem dX10_findNames_371 : decode cX10_findNames 371 = .ok (.aload_n 0, 1) := gX10_findNames_204.2.2.2.2.2.2.2.2.2.1
theorem dX10_findNames_372 : decode cX10_findNames 372 = .ok (.getfield 64, 3) := gX10_findNames_204.2.2.2.2.2.2.2.2.2.2.1
theorem dX10_findNames_375 : decode cX10_findNames 375 = .ok (.iload 14, 2) := gX10_findNames_204.2.2.2.2.2.2.2.2.2.2.2
theorem gX10_findNames_216 : (decode cX10_findNames 377 = .ok (.laload, 1)) ∧ (decode cX10_findNames 378 = .ok (.invokestatic 219, 3)) ∧ (decode cX10_findNames 381 = .ok (.lstore 15, 2)) ∧ (decode cX10_findNames 383 = .ok (.aload_n 0, 1)) ∧ (decode cX10_findNames 384 = .ok (.getfield 60, 3)) ∧ (decode cX10_findNames 387 = .ok (.iload 14, 2)) ∧ (decode cX10_findNames 389 = .ok (.dup2, 1)) ∧ (decode cX10_findNames 390 = .ok (.laload, 1)) ∧ (decode cX10_findNames 391 = .ok (.lload 15, 2)) ∧ (decode cX10_findNames 393 = .ok (.ldiv, 1)) ∧ (decode cX10_findNames 394 = .ok (.lastore, 1)) ∧ (decode cX10_findNames 395 = .ok (.aload_n 0, 1)) := by decide +kernel
theorem dX10_findNames_377 : decode cX10_findNames 377 = .ok (.laload, 1) := gX10_findNames_216.1
theorem dX10_findNames_378 : decode cX10_findNames 378 = .ok (.invokestatic 219, 3) := gX10_findNames_216.2.1
theorem dX10_findNames_381 : decode cX10_findNames 381 = .ok (.lstore 15, 2) := gX10_findNames_216.2.2.1
theorem dX10_findNames_383 : decode cX10_findNames 383 = .ok (.aload_n 0, 1) := gX10_findNames_216.2.2.2.1
theorem dX10_findNames_384 : decode cX10_findNames 384 = .ok (.getfield 60, 3) := gX10_findNames_216.2.2.2.2.1
theorem dX10_findNames_387 : decode cX10_findNames 387 = .ok (.iload 14, 2) := gX10_findNames_216.2.2.2.2.2.1
theorem dX10_findNames_389 : decode cX10_findNames 389 = .ok (.dup2, 1) := gX10_findNames_216.2.2.2.2.2.2.1
theorem dX10_findNames_390 : decode cX10_findNames 390 = .ok (.laload, 1) := gX10_findNames_216.2.2.2.2.2.2.2.1
theorem dX10_findNames_391 : decode cX10_findNames 391 = .ok (.lload 15, 2) := gX10_findNames_216.2.2.2.2.2.2.2.2.1
theorem dX10_findNames_393 : decode cX10_findNames 393 = .ok (.ldiv, 1) := gX10_findNames_216.2.2.2.2.2.2.2.2.2.1
theorem dX10_findNames_394 : decode cX10_findNames 394 = .ok (.lastore, 1) := gX10_findNames_216.2.2.2.2.2.2.2.2.2.2.1
theorem dX10_findNames_395 : decode cX10_findNames 395 = .ok (.aload_n 0, 1) := gX10_findNames_216.2.2.2.2.2.2.2.2.2.2.2
theorem gX10_findNames_228 : (decode cX10_findNames 396 = .ok (.getfield 64, 3)) ∧ (decode cX10_findNames 399 = .ok (.iload 14, 2)) ∧ (decode cX10_findNames 401 = .ok (.dup2, 1)) ∧ (decode cX10_findNames 402 = .ok (.laload, 1)) ∧ (decode cX10_findNames 403 = .ok (.lload 15, 2)) ∧ (decode cX10_findNames 405 = .ok (.ldiv, 1)) ∧ (decode cX10_findNames 406 = .ok (.lastore, 1)) ∧ (decode cX10_findNames 407 = .ok (.iinc 14 1, 3)) ∧ (decode cX10_findNames 410 = .ok (.goto (-53), 3)) ∧ (decode cX10_findNames 413 = .ok (.return_, 1)) := by decide +kernel
theorem dX10_findNames_396 : decode cX10_findNames 396 = .ok (.getfield 64, 3) := gX10_findNames_228.1
theorem dX10_findNames_399 : decode cX10_findNames 399 = .ok (.iload 14, 2) := gX10_findNames_228.2.1
theorem dX10_findNames_401 : decode cX10_findNames 401 = .ok (.dup2, 1) := gX10_findNames_228.2.2.1
theorem dX10_findNames_402 : decode cX10_findNames 402 = .ok (.laload, 1) := gX10_findNames_228.2.2.2.1
theorem dX10_findNames_403 : decode cX10_findNames 403 = .ok (.lload 15, 2) := gX10_findNames_228.2.2.2.2.1
theorem dX10_findNames_405 : decode cX10_findNames 405 = .ok (.ldiv, 1) := gX10_findNames_228.2.2.2.2.2.1
theorem dX10_findNames_406 : decode cX10_findNames 406 = .ok (.lastore, 1) := gX10_findNames_228.2.2.2.2.2.2.1
theorem dX10_findNames_407 : decode cX10_findNames 407 = .ok (.iinc 14 1, 3) := gX10_findNames_228.2.2.2.2.2.2.2.1
theorem dX10_findNames_410 : decode cX10_findNames 410 = .ok (.goto (-53), 3) := gX10_findNames_228.2.2.2.2.2.2.2.2.1
theorem dX10_findNames_413 : decode cX10_findNames 413 = .ok (.return_, 1) := gX10_findNames_228.2.2.2.2.2.2.2.2.2
theorem gX10_findPoints_0 : (decode cX10_findPoints 0 = .ok (.aload_n 0, 1)) ∧ (decode cX10_findPoints 1 = .ok (.iload_n 1, 1)) ∧ (decode cX10_findPoints 2 = .ok (.iload_n 2, 1)) ∧ (decode cX10_findPoints 3 = .ok (.iload_n 3, 1)) ∧ (decode cX10_findPoints 4 = .ok (.invokevirtual 297, 3)) ∧ (decode cX10_findPoints 7 = .ok (.aload_n 0, 1)) ∧ (decode cX10_findPoints 8 = .ok (.aload_n 0, 1)) ∧ (decode cX10_findPoints 9 = .ok (.getfield 57, 3)) ∧ (decode cX10_findPoints 12 = .ok (.aload_n 0, 1)) ∧ (decode cX10_findPoints 13 = .ok (.getfield 139, 3)) ∧ (decode cX10_findPoints 16 = .ok (.invokevirtual 293, 3)) ∧ (decode cX10_findPoints 19 = .ok (.aload_n 0, 1)) := by decide +kernel
theorem dX10_findPoints_0 : decode cX10_findPoints 0 = .ok (.aload_n 0, 1) := gX10_findPoints_0.1
theorem dX10_findPoints_1 : decode cX10_findPoints 1 = .ok (.iload_n 1, 1) := gX10_findPoints_0.2.1
theorem dX10_findPoints_2 : decode cX10_findPoints 2 = .ok (.iload_n 2, 1) := gX10_findPoints_0.2.2.1
theorem dX10_findPoints_3 : decode cX10_findPoints 3 = .ok (.iload_n 3, 1) := gX10_findPoints_0.2.2.2.1
theorem dX10_findPoints_4 : decode cX10_findPoints 4 = .ok (.invokevirtual 297, 3) := gX10_findPoints_0.2.2.2.2.1
theorem dX10_findPoints_7 : decode cX10_findPoints 7 = .ok (.aload_n 0, 1) := gX10_findPoints_0.2.2.2.2.2.1
theorem dX10_findPoints_8 : decode cX10_findPoints 8 = .ok (.aload_n 0, 1) := gX10_findPoints_0.2.2.2.2.2.2.1
theorem dX10_findPoints_9 : decode cX10_findPoints 9 = .ok (.getfield 57, 3) := gX10_findPoints_0.2.2.2.2.2.2.2.1
theorem dX10_findPoints_12 : decode cX10_findPoints 12 = .ok (.aload_n 0, 1) := gX10_findPoints_0.2.2.2.2.2.2.2.2.1
theorem dX10_findPoints_13 : decode cX10_findPoints 13 = .ok (.getfield 139, 3) := gX10_findPoints_0.2.2.2.2.2.2.2.2.2.1
theorem dX10_findPoints_16 : decode cX10_findPoints 16 = .ok (.invokevirtual 293, 3) := gX10_findPoints_0.2.2.2.2.2.2.2.2.2.2.1
theorem dX10_findPoints_19 : decode cX10_findPoints 19 = .ok (.aload_n 0, 1) := gX10_findPoints_0.2.2.2.2.2.2.2.2.2.2.2
theorem gX10_findPoints_12 : (decode cX10_findPoints 20 = .ok (.aload_n 0, 1)) ∧ (decode cX10_findPoints 21 = .ok (.getfield 67, 3)) ∧ (decode cX10_findPoints 24 = .ok (.iconst 0, 1)) ∧ (decode cX10_findPoints 25 = .ok (.laload, 1)) ∧ (decode cX10_findPoints 26 = .ok (.putfield 301, 3)) ∧ (decode cX10_findPoints 29 = .ok (.aload_n 0, 1)) ∧ (decode cX10_findPoints 30 = .ok (.aload_n 0, 1)) ∧ (decode cX10_findPoints 31 = .ok (.getfield 70, 3)) ∧ (decode cX10_findPoints 34 = .ok (.iconst 0, 1)) ∧ (decode cX10_findPoints 35 = .ok (.laload, 1)) ∧ (decode cX10_findPoints 36 = .ok (.putfield 305, 3)) ∧ (decode cX10_findPoints 39 = .ok (.aload_n 0, 1)) := by decide +kernel
theorem dX10_findPoints_20 : decode cX10_findPoints 20 = .ok (.aload_n 0, 1) := gX10_findPoints_12.1
theorem dX10_findPoints_21 : decode cX10_findPoints 21 = .ok (.getfield 67, 3) := gX10_findPoints_12.2.1
theorem dX10_findPoints_24 : decode cX10_findPoints 24 = .ok (.iconst 0, 1) := gX10_findPoints_12.2.2.1
theorem dX10_findPoints_25 : decode cX10_findPoints 25 = .ok (.laload, 1) := gX10_findPoints_12.2.2.2.1
theorem dX10_findPoints_26 : decode cX10_findPoints 26 = .ok (.putfield 301, 3) := gX10_findPoints_12.2.2.2.2.1
theorem dX10_findPoints_29 : decode cX10_findPoints 29 = .ok (.aload_n 0, 1) := gX10_findPoints_12.2.2.2.2.2.1
theorem dX10_findPoints_30 : decode cX10_findPoints 30 = .ok (.aload_n 0, 1) := gX10_findPoints_12.2.2.2.2.2.2.1
theorem dX10_findPoints_31 : decode cX10_findPoints 31 = .ok (.getfield 70, 3) := gX10_findPoints_12.2.2.2.2.2.2.2.1
theorem dX10_findPoints_34 : decode cX10_findPoints 34 = .ok (.iconst 0, 1) := gX10_findPoints_12.2.2.2.2.2.2.2.2.1
theorem dX10_findPoints_35 : decode cX10_findPoints 35 = .ok (.laload, 1) := gX10_findPoints_12.2.2.2.2.2.2.2.2.2.1
theorem dX10_findPoints_36 : decode cX10_findPoints 36 = .ok (.putfield 305, 3) := gX10_findPoints_12.2.2.2.2.2.2.2.2.2.2.1
theorem dX10_findPoints_39 : decode cX10_findPoints 39 = .ok (.aload_n 0, 1) := gX10_findPoints_12.2.2.2.2.2.2.2.2.2.2.2
theorem gX10_findPoints_24 : (decode cX10_findPoints 40 = .ok (.getfield 231, 3)) ∧ (decode cX10_findPoints 43 = .ok (.ifCond .ne 7, 3)) ∧ (decode cX10_findPoints 46 = .ok (.iconst 1, 1)) ∧ (decode cX10_findPoints 47 = .ok (.goto 4, 3)) ∧ (decode cX10_findPoints 50 = .ok (.iconst 0, 1)) ∧ (decode cX10_findPoints 51 = .ok (.ireturn, 1)) := by decide +kernel
theorem dX10_findPoints_40 : decode cX10_findPoints 40 = .ok (.getfield 231, 3) := gX10_findPoints_24.1
theorem dX10_findPoints_43 : decode cX10_findPoints 43 = .ok (.ifCond .ne 7, 3) := gX10_findPoints_24.2.1
theorem dX10_findPoints_46 : decode cX10_findPoints 46 = .ok (.iconst 1, 1) := gX10_findPoints_24.2.2.1
theorem dX10_findPoints_47 : decode cX10_findPoints 47 = .ok (.goto 4, 3) := gX10_findPoints_24.2.2.2.1
theorem dX10_findPoints_50 : decode cX10_findPoints 50 = .ok (.iconst 0, 1) := gX10_findPoints_24.2.2.2.2.1
theorem dX10_findPoints_51 : decode cX10_findPoints 51 = .ok (.ireturn, 1) := gX10_findPoints_24.2.2.2.2.2
theorem gX10_points_0 : (decode cX10_points 0 = .ok (.iload_n 1, 1)) ∧ (decode cX10_points 1 = .ok (.invokestatic 166, 3)) ∧ (decode cX10_points 4 = .ok (.ifCond .eq 11, 3)) ∧ (decode cX10_points 7 = .ok (.aload_n 0, 1)) ∧ (decode cX10_points 8 = .ok (.iload_n 2, 1)) ∧ (decode cX10_points 9 = .ok (.invokevirtual 170, 3)) ∧ (decode cX10_points 12 = .ok (.ifCond .ne 9, 3)) ∧ (decode cX10_points 15 = .ok (.aload_n 0, 1)) ∧ (decode cX10_points 16 = .ok (.iconst (-1), 1)) ∧ (decode cX10_points 17 = .ok (.invokevirtual 308, 3)) ∧ (decode cX10_points 20 = .ok (.lreturn, 1)) ∧ (decode cX10_points 21 = .ok (.iload_n 3, 1)) := by decide +kernel
theorem dX10_points_0 : decode cX10_points 0 = .ok (.iload_n 1, 1) := gX10_points_0.1
theorem dX10_points_1 : decode cX10_points 1 = .ok (.invokestatic 166, 3) := gX10_points_0.2.1
theorem dX10_points_4 : decode cX10_points 4 = .ok (.ifCond .eq 11, 3) := gX10_points_0.2.2.1
theorem dX10_points_7 : decode cX10_points 7 = .ok (.aload_n 0, 1) := gX10_points_0.2.2.2.1
theorem dX10_points_8 : decode cX10_points 8 = .ok (.iload_n 2, 1) := gX10_points_0.2.2.2.2.1
theorem dX10_points_9 : decode cX10_points 9 = .ok (.invokevirtual 170, 3) := gX10_points_0.2.2.2.2.2.1
theorem dX10_points_12 : decode cX10_points 12 = .ok (.ifCond .ne 9, 3) := gX10_points_0.2.2.2.2.2.2.1
theorem dX10_points_15 : decode cX10_points 15 = .ok (.aload_n 0, 1) := gX10_points_0.2.2.2.2.2.2.2.1
theorem dX10_points_16 : decode cX10_points 16 = .ok (.iconst (-1), 1) := gX10_points_0.2.2.2.2.2.2.2.2.1
theorem dX10_points_17 : decode cX10_points 17 = .ok (.invokevirtual 308, 3) := gX10_points_0.2.2.2.2.2.2.2.2.2.1
theorem dX10_points_20 : decode cX10_points 20 = .ok (.lreturn, 1) := gX10_points_0.2.2.2.2.2.2.2.2.2.2.1
theorem dX10_points_21 : decode cX10_points 21 = .ok (.iload_n 3, 1) := gX10_points_0.2.2.2.2.2.2.2.2.2.2.2
theorem gX10_points_12 : (decode cX10_points 22 = .ok (.iconst 0, 1)) ∧ (decode cX10_points 23 = .ok (.iconst 1, 1)) ∧ (decode cX10_points 24 = .ok (.invokestatic 144, 3)) ∧ (decode cX10_points 27 = .ok (.ifCond .ne 10, 3)) ∧ (decode cX10_points 30 = .ok (.aload_n 0, 1)) ∧ (decode cX10_points 31 = .ok (.bipush (-2), 2)) ∧ (decode cX10_points 33 = .ok (.invokevirtual 308, 3)) ∧ (decode cX10_points 36 = .ok (.lreturn, 1)) ∧ (decode cX10_points 37 = .ok (.aload_n 0, 1)) ∧ (decode cX10_points 38 = .ok (.iload_n 1, 1)) ∧ (decode cX10_points 39 = .ok (.iload_n 2, 1)) ∧ (decode cX10_points 40 = .ok (.invokevirtual 203, 3)) := by decide +kernel
theorem dX10_points_22 : decode cX10_points 22 = .ok (.iconst 0, 1) := gX10_points_12.1
theorem dX10_points_23 : decode cX10_points 23 = .ok (.iconst 1, 1) := gX10_points_12.2.1
theorem dX10_points_24 : decode cX10_points 24 = .ok (.invokestatic 144, 3) := gX10_points_12.2.2.1
theorem dX10_points_27 : decode cX10_points 27 = .ok (.ifCond .ne 10, 3) := gX10_points_12.2.2.2.1
theorem dX10_points_30 : decode cX10_points 30 = .ok (.aload_n 0, 1) := gX10_points_12.2.2.2.2.1
theorem dX10_points_31 : decode cX10_points 31 = .ok (.bipush (-2), 2) := gX10_points_12.2.2.2.2.2.1
theorem dX10_points_33 : decode cX10_points 33 = .ok (.invokevirtual 308, 3) := gX10_points_12.2.2.2.2.2.2.1
theorem dX10_points_36 : decode cX10_points 36 = .ok (.lreturn, 1) := gX10_points_12.2.2.2.2.2.2.2.1
theorem dX10_points_37 : decode cX10_points 37 = .ok (.aload_n 0, 1) := gX10_points_12.2.2.2.2.2.2.2.2.1
theorem dX10_points_38 : decode cX10_points 38 = .ok (.iload_n 1, 1) := gX10_points_12.2.2.2.2.2.2.2.2.2.1
theorem dX10_points_39 : decode cX10_points 39 = .ok (.iload_n 2, 1) := gX10_points_12.2.2.2.2.2.2.2.2.2.2.1
theorem dX10_points_40 : decode cX10_points 40 = .ok (.invokevirtual 203, 3) := gX10_points_12.2.2.2.2.2.2.2.2.2.2.2
theorem gX10_points_24 : (decode cX10_points 43 = .ok (.ifCond .ge 10, 3)) ∧ (decode cX10_points 46 = .ok (.aload_n 0, 1)) ∧ (decode cX10_points 47 = .ok (.bipush (-5), 2)) ∧ (decode cX10_points 49 = .ok (.invokevirtual 308, 3)) ∧ (decode cX10_points 52 = .ok (.lreturn, 1)) ∧ (decode cX10_points 53 = .ok (.aload_n 0, 1)) ∧ (decode cX10_points 54 = .ok (.bipush 8, 2)) ∧ (decode cX10_points 56 = .ok (.iload_n 2, 1)) ∧ (decode cX10_points 57 = .ok (.imul, 1)) ∧ (decode cX10_points 58 = .ok (.iload_n 1, 1)) ∧ (decode cX10_points 59 = .ok (.iadd, 1)) ∧ (decode cX10_points 60 = .ok (.iconst 0, 1)) := by decide +kernel
theorem dX10_points_43 : decode cX10_points 43 = .ok (.ifCond .ge 10, 3) := gX10_points_24.1
theorem dX10_points_46 : decode cX10_points 46 = .ok (.aload_n 0, 1) := gX10_points_24.2.1
theorem dX10_points_47 : decode cX10_points 47 = .ok (.bipush (-5), 2) := gX10_points_24.2.2.1
theorem dX10_points_49 : decode cX10_points 49 = .ok (.invokevirtual 308, 3) := gX10_points_24.2.2.2.1
theorem dX10_points_52 : decode cX10_points 52 = .ok (.lreturn, 1) := gX10_points_24.2.2.2.2.1
theorem dX10_points_53 : decode cX10_points 53 = .ok (.aload_n 0, 1) := gX10_points_24.2.2.2.2.2.1
theorem dX10_points_54 : decode cX10_points 54 = .ok (.bipush 8, 2) := gX10_points_24.2.2.2.2.2.2.1
theorem dX10_points_56 : decode cX10_points 56 = .ok (.iload_n 2, 1) := gX10_points_24.2.2.2.2.2.2.2.1
theorem dX10_points_57 : decode cX10_points 57 = .ok (.imul, 1) := gX10_points_24.2.2.2.2.2.2.2.2.1
theorem dX10_points_58 : decode cX10_points 58 = .ok (.iload_n 1, 1) := gX10_points_24.2.2.2.2.2.2.2.2.2.1
theorem dX10_points_59 : decode cX10_points 59 = .ok (.iadd, 1) := gX10_points_24.2.2.2.2.2.2.2.2.2.2.1
theorem dX10_points_60 : decode cX10_points 60 = .ok (.iconst 0, 1) := gX10_points_24.2.2.2.2.2.2.2.2.2.2.2
theorem gX10_points_36 : (decode cX10_points 61 = .ok (.iconst (-1), 1)) ∧ (decode cX10_points 62 = .ok (.invokevirtual 312, 3)) ∧ (decode cX10_points 65 = .ok (.ifCond .ne 10, 3)) ∧ (decode cX10_points 68 = .ok (.aload_n 0, 1)) ∧ (decode cX10_points 69 = .ok (.bipush (-7), 2)) ∧ (decode cX10_points 71 = .ok (.invokevirtual 308, 3)) ∧ (decode cX10_points 74 = .ok (.lreturn, 1)) ∧ (decode cX10_points 75 = .ok (.iload_n 3, 1)) ∧ (decode cX10_points 76 = .ok (.ifCond .ne 10, 3)) ∧ (decode cX10_points 79 = .ok (.aload_n 0, 1)) ∧ (decode cX10_points 80 = .ok (.getfield 301, 3)) ∧ (decode cX10_points 83 = .ok (.goto 7, 3)) := by decide +kernel
theorem dX10_points_61 : decode cX10_points 61 = .ok (.iconst (-1), 1) := gX10_points_36.1
theorem dX10_points_62 : decode cX10_points 62 = .ok (.invokevirtual 312, 3) := gX10_points_36.2.1
theorem dX10_points_65 : decode cX10_points 65 = .ok (.ifCond .ne 10, 3) := gX10_points_36.2.2.1
theorem dX10_points_68 : decode cX10_points 68 = .ok (.aload_n 0, 1) := gX10_points_36.2.2.2.1
theorem dX10_points_69 : decode cX10_points 69 = .ok (.bipush (-7), 2) := gX10_points_36.2.2.2.2.1
theorem dX10_points_71 : decode cX10_points 71 = .ok (.invokevirtual 308, 3) := gX10_points_36.2.2.2.2.2.1
theorem dX10_points_74 : decode cX10_points 74 = .ok (.lreturn, 1) := gX10_points_36.2.2.2.2.2.2.1
theorem dX10_points_75 : decode cX10_points 75 = .ok (.iload_n 3, 1) := gX10_points_36.2.2.2.2.2.2.2.1
theorem dX10_points_76 : decode cX10_points 76 = .ok (.ifCond .ne 10, 3) := gX10_points_36.2.2.2.2.2.2.2.2.1
theorem dX10_points_79 : decode cX10_points 79 = .ok (.aload_n 0, 1) := gX10_points_36.2.2.2.2.2.2.2.2.2.1
theorem dX10_points_80 : decode cX10_points 80 = .ok (.getfield 301, 3) := gX10_points_36.2.2.2.2.2.2.2.2.2.2.1
theorem dX10_points_83 : decode cX10_points 83 = .ok (.goto 7, 3) := gX10_points_36.2.2.2.2.2.2.2.2.2.2.2
theorem gX10_points_48 : (decode cX10_points 86 = .ok (.aload_n 0, 1)) ∧ (decode cX10_points 87 = .ok (.getfield 305, 3)) ∧ (decode cX10_points 90 = .ok (.lreturn, 1)) := by decide +kernel
theorem dX10_points_86 : decode cX10_points 86 = .ok (.aload_n 0, 1) := gX10_points_48.1
theorem dX10_points_87 : decode cX10_points 87 = .ok (.getfield 305, 3) := gX10_points_48.2.1
theorem dX10_points_90 : decode cX10_points 90 = .ok (.lreturn, 1) := gX10_points_48.2.2
theorem gX10_isAhead_0 : (decode cX10_isAhead 0 = .ok (.aload_n 0, 1)) ∧ (decode cX10_isAhead 1 = .ok (.iload_n 1, 1)) ∧ (decode cX10_isAhead 2 = .ok (.iconst 0, 1)) ∧ (decode cX10_isAhead 3 = .ok (.iload_n 3, 1)) ∧ (decode cX10_isAhead 4 = .ok (.invokevirtual 312, 3)) ∧ (decode cX10_isAhead 7 = .ok (.istore 4, 2)) ∧ (decode cX10_isAhead 9 = .ok (.aload_n 0, 1)) ∧ (decode cX10_isAhead 10 = .ok (.getfield 301, 3)) ∧ (decode cX10_isAhead 13 = .ok (.lstore 5, 2)) ∧ (decode cX10_isAhead 15 = .ok (.aload_n 0, 1)) ∧ (decode cX10_isAhead 16 = .ok (.getfield 305, 3)) ∧ (decode cX10_isAhead 19 = .ok (.lstore 7, 2)) := by decide +kernel
theorem dX10_isAhead_0 : decode cX10_isAhead 0 = .ok (.aload_n 0, 1) := gX10_isAhead_0.1
theorem dX10_isAhead_1 : decode cX10_isAhead 1 = .ok (.iload_n 1, 1) := gX10_isAhead_0.2.1
theorem dX10_isAhead_2 : decode cX10_isAhead 2 = .ok (.iconst 0, 1) := gX10_isAhead_0.2.2.1
theorem dX10_isAhead_3 : decode cX10_isAhead 3 = .ok (.iload_n 3, 1) := gX10_isAhead_0.2.2.2.1
theorem dX10_isAhead_4 : decode cX10_isAhead 4 = .ok (.invokevirtual 312, 3) := gX10_isAhead_0.2.2.2.2.1
theorem dX10_isAhead_7 : decode cX10_isAhead 7 = .ok (.istore 4, 2) := gX10_isAhead_0.2.2.2.2.2.1
theorem dX10_isAhead_9 : decode cX10_isAhead 9 = .ok (.aload_n 0, 1) := gX10_isAhead_0.2.2.2.2.2.2.1
theorem dX10_isAhead_10 : decode cX10_isAhead 10 = .ok (.getfield 301, 3) := gX10_isAhead_0.2.2.2.2.2.2.2.1
theorem dX10_isAhead_13 : decode cX10_isAhead 13 = .ok (.lstore 5, 2) := gX10_isAhead_0.2.2.2.2.2.2.2.2.1
theorem dX10_isAhead_15 : decode cX10_isAhead 15 = .ok (.aload_n 0, 1) := gX10_isAhead_0.2.2.2.2.2.2.2.2.2.1
theorem dX10_isAhead_16 : decode cX10_isAhead 16 = .ok (.getfield 305, 3) := gX10_isAhead_0.2.2.2.2.2.2.2.2.2.2.1
theorem dX10_isAhead_19 : decode cX10_isAhead 19 = .ok (.lstore 7, 2) := gX10_isAhead_0.2.2.2.2.2.2.2.2.2.2.2
theorem gX10_isAhead_12 : (decode cX10_isAhead 21 = .ok (.aload_n 0, 1)) ∧ (decode cX10_isAhead 22 = .ok (.iload_n 2, 1)) ∧ (decode cX10_isAhead 23 = .ok (.iconst 0, 1)) ∧ (decode cX10_isAhead 24 = .ok (.iload_n 3, 1)) ∧ (decode cX10_isAhead 25 = .ok (.invokevirtual 312, 3)) ∧ (decode cX10_isAhead 28 = .ok (.istore 9, 2)) ∧ (decode cX10_isAhead 30 = .ok (.lload 5, 2)) ∧ (decode cX10_isAhead 32 = .ok (.aload_n 0, 1)) ∧ (decode cX10_isAhead 33 = .ok (.getfield 305, 3)) ∧ (decode cX10_isAhead 36 = .ok (.lmul, 1)) ∧ (decode cX10_isAhead 37 = .ok (.lstore 10, 2)) ∧ (decode cX10_isAhead 39 = .ok (.aload_n 0, 1)) := by decide +kernel
theorem dX10_isAhead_21 : decode cX10_isAhead 21 = .ok (.aload_n 0, 1) := gX10_isAhead_12.1
theorem dX10_isAhead_22 : decode cX10_isAhead 22 = .ok (.iload_n 2, 1) := gX10_isAhead_12.2.1
theorem dX10_isAhead_23 : decode cX10_isAhead 23 = .ok (.iconst 0, 1) := gX10_isAhead_12.2.2.1
theorem dX10_isAhead_24 : decode cX10_isAhead 24 = .ok (.iload_n 3, 1) := gX10_isAhead_12.2.2.2.1
theorem dX10_isAhead_25 : decode cX10_isAhead 25 = .ok (.invokevirtual 312, 3) := gX10_isAhead_12.2.2.2.2.1
theorem dX10_isAhead_28 : decode cX10_isAhead 28 = .ok (.istore 9, 2) := gX10_isAhead_12.2.2.2.2.2.1
theorem dX10_isAhead_30 : decode cX10_isAhead 30 = .ok (.lload 5, 2) := gX10_isAhead_12.2.2.2.2.2.2.1
theorem dX10_isAhead_32 : decode cX10_isAhead 32 = .ok (.aload_n 0, 1) := gX10_isAhead_12.2.2.2.2.2.2.2.1
theorem dX10_isAhead_33 : decode cX10_isAhead 33 = .ok (.getfield 305, 3) := gX10_isAhead_12.2.2.2.2.2.2.2.2.1
theorem dX10_isAhead_36 : decode cX10_isAhead 36 = .ok (.lmul, 1) := gX10_isAhead_12.2.2.2.2.2.2.2.2.2.1
theorem dX10_isAhead_37 : decode cX10_isAhead 37 = .ok (.lstore 10, 2) := gX10_isAhead_12.2.2.2.2.2.2.2.2.2.2.1
theorem dX10_isAhead_39 : decode cX10_isAhead 39 = .ok (.aload_n 0, 1) := gX10_isAhead_12.2.2.2.2.2.2.2.2.2.2.2
theorem gX10_isAhead_24 : (decode cX10_isAhead 40 = .ok (.getfield 301, 3)) ∧ (decode cX10_isAhead 43 = .ok (.lload 7, 2)) ∧ (decode cX10_isAhead 45 = .ok (.lmul, 1)) ∧ (decode cX10_isAhead 46 = .ok (.lstore 12, 2)) ∧ (decode cX10_isAhead 48 = .ok (.lload 10, 2)) ∧ (decode cX10_isAhead 50 = .ok (.lload 12, 2)) ∧ (decode cX10_isAhead 52 = .ok (.lcmp, 1)) ∧ (decode cX10_isAhead 53 = .ok (.ifCond .eq 17, 3)) ∧ (decode cX10_isAhead 56 = .ok (.lload 10, 2)) ∧ (decode cX10_isAhead 58 = .ok (.lload 12, 2)) ∧ (decode cX10_isAhead 60 = .ok (.lcmp, 1)) ∧ (decode cX10_isAhead 61 = .ok (.ifCond .le 7, 3)) := by decide +kernel
theorem dX10_isAhead_40 : decode cX10_isAhead 40 = .ok (.getfield 301, 3) := gX10_isAhead_24.1
theorem dX10_isAhead_43 : decode cX10_isAhead 43 = .ok (.lload 7, 2) := gX10_isAhead_24.2.1
theorem dX10_isAhead_45 : decode cX10_isAhead 45 = .ok (.lmul, 1) := gX10_isAhead_24.2.2.1
theorem dX10_isAhead_46 : decode cX10_isAhead 46 = .ok (.lstore 12, 2) := gX10_isAhead_24.2.2.2.1
theorem dX10_isAhead_48 : decode cX10_isAhead 48 = .ok (.lload 10, 2) := gX10_isAhead_24.2.2.2.2.1
theorem dX10_isAhead_50 : decode cX10_isAhead 50 = .ok (.lload 12, 2) := gX10_isAhead_24.2.2.2.2.2.1
theorem dX10_isAhead_52 : decode cX10_isAhead 52 = .ok (.lcmp, 1) := gX10_isAhead_24.2.2.2.2.2.2.1
theorem dX10_isAhead_53 : decode cX10_isAhead 53 = .ok (.ifCond .eq 17, 3) := gX10_isAhead_24.2.2.2.2.2.2.2.1
theorem dX10_isAhead_56 : decode cX10_isAhead 56 = .ok (.lload 10, 2) := gX10_isAhead_24.2.2.2.2.2.2.2.2.1
theorem dX10_isAhead_58 : decode cX10_isAhead 58 = .ok (.lload 12, 2) := gX10_isAhead_24.2.2.2.2.2.2.2.2.2.1
theorem dX10_isAhead_60 : decode cX10_isAhead 60 = .ok (.lcmp, 1) := gX10_isAhead_24.2.2.2.2.2.2.2.2.2.2.1
theorem dX10_isAhead_61 : decode cX10_isAhead 61 = .ok (.ifCond .le 7, 3) := gX10_isAhead_24.2.2.2.2.2.2.2.2.2.2.2
theorem gX10_isAhead_36 : (decode cX10_isAhead 64 = .ok (.iconst 1, 1)) ∧ (decode cX10_isAhead 65 = .ok (.goto 4, 3)) ∧ (decode cX10_isAhead 68 = .ok (.iconst 0, 1)) ∧ (decode cX10_isAhead 69 = .ok (.ireturn, 1)) ∧ (decode cX10_isAhead 70 = .ok (.aload_n 0, 1)) ∧ (decode cX10_isAhead 71 = .ok (.iload_n 1, 1)) ∧ (decode cX10_isAhead 72 = .ok (.iload_n 3, 1)) ∧ (decode cX10_isAhead 73 = .ok (.invokevirtual 215, 3)) ∧ (decode cX10_isAhead 76 = .ok (.aload_n 0, 1)) ∧ (decode cX10_isAhead 77 = .ok (.getfield 206, 3)) ∧ (decode cX10_isAhead 80 = .ok (.istore 14, 2)) ∧ (decode cX10_isAhead 82 = .ok (.aload_n 0, 1)) := by decide +kernel
theorem dX10_isAhead_64 : decode cX10_isAhead 64 = .ok (.iconst 1, 1) := gX10_isAhead_36.1
theorem dX10_isAhead_65 : decode cX10_isAhead 65 = .ok (.goto 4, 3) := gX10_isAhead_36.2.1
theorem dX10_isAhead_68 : decode cX10_isAhead 68 = .ok (.iconst 0, 1) := gX10_isAhead_36.2.2.1
theorem dX10_isAhead_69 : decode cX10_isAhead 69 = .ok (.ireturn, 1) := gX10_isAhead_36.2.2.2.1
theorem dX10_isAhead_70 : decode cX10_isAhead 70 = .ok (.aload_n 0, 1) := gX10_isAhead_36.2.2.2.2.1
theorem dX10_isAhead_71 : decode cX10_isAhead 71 = .ok (.iload_n 1, 1) := gX10_isAhead_36.2.2.2.2.2.1
theorem dX10_isAhead_72 : decode cX10_isAhead 72 = .ok (.iload_n 3, 1) := gX10_isAhead_36.2.2.2.2.2.2.1
theorem dX10_isAhead_73 : decode cX10_isAhead 73 = .ok (.invokevirtual 215, 3) := gX10_isAhead_36.2.2.2.2.2.2.2.1
theorem dX10_isAhead_76 : decode cX10_isAhead 76 = .ok (.aload_n 0, 1) := gX10_isAhead_36.2.2.2.2.2.2.2.2.1
theorem dX10_isAhead_77 : decode cX10_isAhead 77 = .ok (.getfield 206, 3) := gX10_isAhead_36.2.2.2.2.2.2.2.2.2.1
theorem dX10_isAhead_80 : decode cX10_isAhead 80 = .ok (.istore 14, 2) := gX10_isAhead_36.2.2.2.2.2.2.2.2.2.2.1
theorem dX10_isAhead_82 : decode cX10_isAhead 82 = .ok (.aload_n 0, 1) := gX10_isAhead_36.2.2.2.2.2.2.2.2.2.2.2
theorem gX10_isAhead_48 : (decode cX10_isAhead 83 = .ok (.getfield 209, 3)) ∧ (decode cX10_isAhead 86 = .ok (.istore 15, 2)) ∧ (decode cX10_isAhead 88 = .ok (.aload_n 0, 1)) ∧ (decode cX10_isAhead 89 = .ok (.iload_n 2, 1)) ∧ (decode cX10_isAhead 90 = .ok (.iload_n 3, 1)) ∧ (decode cX10_isAhead 91 = .ok (.invokevirtual 215, 3)) ∧ (decode cX10_isAhead 94 = .ok (.iload 14, 2)) ∧ (decode cX10_isAhead 96 = .ok (.aload_n 0, 1)) ∧ (decode cX10_isAhead 97 = .ok (.getfield 209, 3)) ∧ (decode cX10_isAhead 100 = .ok (.imul, 1)) ∧ (decode cX10_isAhead 101 = .ok (.aload_n 0, 1)) ∧ (decode cX10_isAhead 102 = .ok (.getfield 206, 3)) := by decide +kernel
theorem dX10_isAhead_83 : decode cX10_isAhead 83 = .ok (.getfield 209, 3) := gX10_isAhead_48.1
theorem dX10_isAhead_86 : decode cX10_isAhead 86 = .ok (.istore 15, 2) := gX10_isAhead_48.2.1
theorem dX10_isAhead_88 : decode cX10_isAhead 88 = .ok (.aload_n 0, 1) := gX10_isAhead_48.2.2.1
theorem dX10_isAhead_89 : decode cX10_isAhead 89 = .ok (.iload_n 2, 1) := gX10_isAhead_48.2.2.2.1
theorem dX10_isAhead_90 : decode cX10_isAhead 90 = .ok (.iload_n 3, 1) := gX10_isAhead_48.2.2.2.2.1
theorem dX10_isAhead_91 : decode cX10_isAhead 91 = .ok (.invokevirtual 215, 3) := gX10_isAhead_48.2.2.2.2.2.1
theorem dX10_isAhead_94 : decode cX10_isAhead 94 = .ok (.iload 14, 2) := gX10_isAhead_48.2.2.2.2.2.2.1
theorem dX10_isAhead_96 : decode cX10_isAhead 96 = .ok (.aload_n 0, 1) := gX10_isAhead_48.2.2.2.2.2.2.2.1
theorem dX10_isAhead_97 : decode cX10_isAhead 97 = .ok (.getfield 209, 3) := gX10_isAhead_48.2.2.2.2.2.2.2.2.1
theorem dX10_isAhead_100 : decode cX10_isAhead 100 = .ok (.imul, 1) := gX10_isAhead_48.2.2.2.2.2.2.2.2.2.1
theorem dX10_isAhead_101 : decode cX10_isAhead 101 = .ok (.aload_n 0, 1) := gX10_isAhead_48.2.2.2.2.2.2.2.2.2.2.1
theorem dX10_isAhead_102 : decode cX10_isAhead 102 = .ok (.getfield 206, 3) := gX10_isAhead_48.2.2.2.2.2.2.2.2.2.2.2
theorem gX10_isAhead_60 : (decode cX10_isAhead 105 = .ok (.iload 15, 2)) ∧ (decode cX10_isAhead 107 = .ok (.imul, 1)) ∧ (decode cX10_isAhead 108 = .ok (.if_icmp .eq 26, 3)) ∧ (decode cX10_isAhead 111 = .ok (.iload 14, 2)) ∧ (decode cX10_isAhead 113 = .ok (.aload_n 0, 1)) ∧ (decode cX10_isAhead 114 = .ok (.getfield 209, 3)) ∧ (decode cX10_isAhead 117 = .ok (.imul, 1)) ∧ (decode cX10_isAhead 118 = .ok (.aload_n 0, 1)) ∧ (decode cX10_isAhead 119 = .ok (.getfield 206, 3)) ∧ (decode cX10_isAhead 122 = .ok (.iload 15, 2)) ∧ (decode cX10_isAhead 124 = .ok (.imul, 1)) ∧ (decode cX10_isAhead 125 = .ok (.if_icmp .le 7, 3)) := by decide +kernel
theorem dX10_isAhead_105 : decode cX10_isAhead 105 = .ok (.iload 15, 2) := gX10_isAhead_60.1
theorem dX10_isAhead_107 : decode cX10_isAhead 107 = .ok (.imul, 1) := gX10_isAhead_60.2.1
theorem dX10_isAhead_108 : decode cX10_isAhead 108 = .ok (.if_icmp .eq 26, 3) := gX10_isAhead_60.2.2.1
theorem dX10_isAhead_111 : decode cX10_isAhead 111 = .ok (.iload 14, 2) := gX10_isAhead_60.2.2.2.1
theorem dX10_isAhead_113 : decode cX10_isAhead 113 = .ok (.aload_n 0, 1) := gX10_isAhead_60.2.2.2.2.1
theorem dX10_isAhead_114 : decode cX10_isAhead 114 = .ok (.getfield 209, 3) := gX10_isAhead_60.2.2.2.2.2.1
theorem dX10_isAhead_117 : decode cX10_isAhead 117 = .ok (.imul, 1) := gX10_isAhead_60.2.2.2.2.2.2.1
theorem dX10_isAhead_118 : decode cX10_isAhead 118 = .ok (.aload_n 0, 1) := gX10_isAhead_60.2.2.2.2.2.2.2.1
theorem dX10_isAhead_119 : decode cX10_isAhead 119 = .ok (.getfield 206, 3) := gX10_isAhead_60.2.2.2.2.2.2.2.2.1
theorem dX10_isAhead_122 : decode cX10_isAhead 122 = .ok (.iload 15, 2) := gX10_isAhead_60.2.2.2.2.2.2.2.2.2.1
theorem dX10_isAhead_124 : decode cX10_isAhead 124 = .ok (.imul, 1) := gX10_isAhead_60.2.2.2.2.2.2.2.2.2.2.1
theorem dX10_isAhead_125 : decode cX10_isAhead 125 = .ok (.if_icmp .le 7, 3) := gX10_isAhead_60.2.2.2.2.2.2.2.2.2.2.2
theorem gX10_isAhead_72 : (decode cX10_isAhead 128 = .ok (.iconst 1, 1)) ∧ (decode cX10_isAhead 129 = .ok (.goto 4, 3)) ∧ (decode cX10_isAhead 132 = .ok (.iconst 0, 1)) ∧ (decode cX10_isAhead 133 = .ok (.ireturn, 1)) ∧ (decode cX10_isAhead 134 = .ok (.aload_n 0, 1)) ∧ (decode cX10_isAhead 135 = .ok (.iload_n 1, 1)) ∧ (decode cX10_isAhead 136 = .ok (.invokevirtual 191, 3)) ∧ (decode cX10_isAhead 139 = .ok (.aload_n 0, 1)) ∧ (decode cX10_isAhead 140 = .ok (.iload_n 2, 1)) ∧ (decode cX10_isAhead 141 = .ok (.invokevirtual 191, 3)) ∧ (decode cX10_isAhead 144 = .ok (.if_icmp .eq 24, 3)) ∧ (decode cX10_isAhead 147 = .ok (.aload_n 0, 1)) := by decide +kernel
theorem dX10_isAhead_128 : decode cX10_isAhead 128 = .ok (.iconst 1, 1) := gX10_isAhead_72.1
theorem dX10_isAhead_129 : decode cX10_isAhead 129 = .ok (.goto 4, 3) := gX10_isAhead_72.2.1
theorem dX10_isAhead_132 : decode cX10_isAhead 132 = .ok (.iconst 0, 1) := gX10_isAhead_72.2.2.1
theorem dX10_isAhead_133 : decode cX10_isAhead 133 = .ok (.ireturn, 1) := gX10_isAhead_72.2.2.2.1
theorem dX10_isAhead_134 : decode cX10_isAhead 134 = .ok (.aload_n 0, 1) := gX10_isAhead_72.2.2.2.2.1
theorem dX10_isAhead_135 : decode cX10_isAhead 135 = .ok (.iload_n 1, 1) := gX10_isAhead_72.2.2.2.2.2.1
theorem dX10_isAhead_136 : decode cX10_isAhead 136 = .ok (.invokevirtual 191, 3) := gX10_isAhead_72.2.2.2.2.2.2.1
theorem dX10_isAhead_139 : decode cX10_isAhead 139 = .ok (.aload_n 0, 1) := gX10_isAhead_72.2.2.2.2.2.2.2.1
theorem dX10_isAhead_140 : decode cX10_isAhead 140 = .ok (.iload_n 2, 1) := gX10_isAhead_72.2.2.2.2.2.2.2.2.1
theorem dX10_isAhead_141 : decode cX10_isAhead 141 = .ok (.invokevirtual 191, 3) := gX10_isAhead_72.2.2.2.2.2.2.2.2.2.1
theorem dX10_isAhead_144 : decode cX10_isAhead 144 = .ok (.if_icmp .eq 24, 3) := gX10_isAhead_72.2.2.2.2.2.2.2.2.2.2.1
theorem dX10_isAhead_147 : decode cX10_isAhead 147 = .ok (.aload_n 0, 1) := gX10_isAhead_72.2.2.2.2.2.2.2.2.2.2.2
theorem gX10_isAhead_84 : (decode cX10_isAhead 148 = .ok (.iload_n 1, 1)) ∧ (decode cX10_isAhead 149 = .ok (.invokevirtual 191, 3)) ∧ (decode cX10_isAhead 152 = .ok (.aload_n 0, 1)) ∧ (decode cX10_isAhead 153 = .ok (.iload_n 2, 1)) ∧ (decode cX10_isAhead 154 = .ok (.invokevirtual 191, 3)) ∧ (decode cX10_isAhead 157 = .ok (.if_icmp .ge 7, 3)) ∧ (decode cX10_isAhead 160 = .ok (.iconst 1, 1)) ∧ (decode cX10_isAhead 161 = .ok (.goto 17, 3)) ∧ (decode cX10_isAhead 164 = .ok (.iconst 0, 1)) ∧ (decode cX10_isAhead 165 = .ok (.goto 13, 3)) ∧ (decode cX10_isAhead 168 = .ok (.iload_n 1, 1)) ∧ (decode cX10_isAhead 169 = .ok (.iload_n 2, 1)) := by decide +kernel
theorem dX10_isAhead_148 : decode cX10_isAhead 148 = .ok (.iload_n 1, 1) := gX10_isAhead_84.1
theorem dX10_isAhead_149 : decode cX10_isAhead 149 = .ok (.invokevirtual 191, 3) := gX10_isAhead_84.2.1
theorem dX10_isAhead_152 : decode cX10_isAhead 152 = .ok (.aload_n 0, 1) := gX10_isAhead_84.2.2.1
theorem dX10_isAhead_153 : decode cX10_isAhead 153 = .ok (.iload_n 2, 1) := gX10_isAhead_84.2.2.2.1
theorem dX10_isAhead_154 : decode cX10_isAhead 154 = .ok (.invokevirtual 191, 3) := gX10_isAhead_84.2.2.2.2.1
theorem dX10_isAhead_157 : decode cX10_isAhead 157 = .ok (.if_icmp .ge 7, 3) := gX10_isAhead_84.2.2.2.2.2.1
theorem dX10_isAhead_160 : decode cX10_isAhead 160 = .ok (.iconst 1, 1) := gX10_isAhead_84.2.2.2.2.2.2.1
theorem dX10_isAhead_161 : decode cX10_isAhead 161 = .ok (.goto 17, 3) := gX10_isAhead_84.2.2.2.2.2.2.2.1
theorem dX10_isAhead_164 : decode cX10_isAhead 164 = .ok (.iconst 0, 1) := gX10_isAhead_84.2.2.2.2.2.2.2.2.1
theorem dX10_isAhead_165 : decode cX10_isAhead 165 = .ok (.goto 13, 3) := gX10_isAhead_84.2.2.2.2.2.2.2.2.2.1
theorem dX10_isAhead_168 : decode cX10_isAhead 168 = .ok (.iload_n 1, 1) := gX10_isAhead_84.2.2.2.2.2.2.2.2.2.2.1
theorem dX10_isAhead_169 : decode cX10_isAhead 169 = .ok (.iload_n 2, 1) := gX10_isAhead_84.2.2.2.2.2.2.2.2.2.2.2
theorem gX10_isAhead_96 : (decode cX10_isAhead 170 = .ok (.if_icmp .ge 7, 3)) ∧ (decode cX10_isAhead 173 = .ok (.iconst 1, 1)) ∧ (decode cX10_isAhead 174 = .ok (.goto 4, 3)) ∧ (decode cX10_isAhead 177 = .ok (.iconst 0, 1)) ∧ (decode cX10_isAhead 178 = .ok (.ireturn, 1)) := by decide +kernel
theorem dX10_isAhead_170 : decode cX10_isAhead 170 = .ok (.if_icmp .ge 7, 3) := gX10_isAhead_96.1
theorem dX10_isAhead_173 : decode cX10_isAhead 173 = .ok (.iconst 1, 1) := gX10_isAhead_96.2.1
theorem dX10_isAhead_174 : decode cX10_isAhead 174 = .ok (.goto 4, 3) := gX10_isAhead_96.2.2.1
theorem dX10_isAhead_177 : decode cX10_isAhead 177 = .ok (.iconst 0, 1) := gX10_isAhead_96.2.2.2.1
theorem dX10_isAhead_178 : decode cX10_isAhead 178 = .ok (.ireturn, 1) := gX10_isAhead_96.2.2.2.2
