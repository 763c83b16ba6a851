def tX10_init_0 := Bt_0 cX10_init
theorem dX10_init_0 : decode cX10_init 0 = .ok (.aload_n 0, 1) := de_2a tX10_init_0
def tX10_init_1 := Bt_1 (q := 1) tX10_init_0 rfl
theorem dX10_init_1 : decode cX10_init 1 = .ok (.invokespecial 1, 3) := de_b7 tX10_init_1 (by decide +kernel)
def tX10_init_4 := Bt_3 (q := 4) tX10_init_1 rfl
theorem dX10_init_4 : decode cX10_init 4 = .ok (.aload_n 0, 1) := de_2a tX10_init_4
def tX10_init_5 := Bt_1 (q := 5) tX10_init_4 rfl
theorem dX10_init_5 : decode cX10_init 5 = .ok (.iconst (-1), 1) := de_02 tX10_init_5
def tX10_init_6 := Bt_1 (q := 6) tX10_init_5 rfl
theorem dX10_init_6 : decode cX10_init 6 = .ok (.putfield 7, 3) := de_b5 tX10_init_6 (by decide +kernel)
def tX10_init_9 := Bt_3 (q := 9) tX10_init_6 rfl
theorem dX10_init_9 : decode cX10_init 9 = .ok (.aload_n 0, 1) := de_2a tX10_init_9
def tX10_init_10 := Bt_1 (q := 10) tX10_init_9 rfl
theorem dX10_init_10 : decode cX10_init 10 = .ok (.iconst 4, 1) := de_07 tX10_init_10
def tX10_init_11 := Bt_1 (q := 11) tX10_init_10 rfl
theorem dX10_init_11 : decode cX10_init 11 = .ok (.newarray .int, 2) := de_bc_0a tX10_init_11
def tX10_init_13 := Bt_2 (q := 13) tX10_init_11 rfl
theorem dX10_init_13 : decode cX10_init 13 = .ok (.dup, 1) := de_59 tX10_init_13
def tX10_init_14 := Bt_1 (q := 14) tX10_init_13 rfl
theorem dX10_init_14 : decode cX10_init 14 = .ok (.iconst 0, 1) := de_03 tX10_init_14
def tX10_init_15 := Bt_1 (q := 15) tX10_init_14 rfl
theorem dX10_init_15 : decode cX10_init 15 = .ok (.sipush 1000, 3) := de_11 tX10_init_15 (by decide +kernel)
def tX10_init_18 := Bt_3 (q := 18) tX10_init_15 rfl
theorem dX10_init_18 : decode cX10_init 18 = .ok (.iastore, 1) := de_4f tX10_init_18
def tX10_init_19 := Bt_1 (q := 19) tX10_init_18 rfl
theorem dX10_init_19 : decode cX10_init 19 = .ok (.dup, 1) := de_59 tX10_init_19
def tX10_init_20 := Bt_1 (q := 20) tX10_init_19 rfl
theorem dX10_init_20 : decode cX10_init 20 = .ok (.iconst 1, 1) := de_04 tX10_init_20
def tX10_init_21 := Bt_1 (q := 21) tX10_init_20 rfl
theorem dX10_init_21 : decode cX10_init 21 = .ok (.sipush 1000, 3) := de_11 tX10_init_21 (by decide +kernel)
def tX10_init_24 := Bt_3 (q := 24) tX10_init_21 rfl
theorem dX10_init_24 : decode cX10_init 24 = .ok (.iastore, 1) := de_4f tX10_init_24
def tX10_init_25 := Bt_1 (q := 25) tX10_init_24 rfl
theorem dX10_init_25 : decode cX10_init 25 = .ok (.dup, 1) := de_59 tX10_init_25
def tX10_init_26 := Bt_1 (q := 26) tX10_init_25 rfl
theorem dX10_init_26 : decode cX10_init 26 = .ok (.iconst 2, 1) := de_05 tX10_init_26
def tX10_init_27 := Bt_1 (q := 27) tX10_init_26 rfl
theorem dX10_init_27 : decode cX10_init 27 = .ok (.sipush 1000, 3) := de_11 tX10_init_27 (by decide +kernel)
def tX10_init_30 := Bt_3 (q := 30) tX10_init_27 rfl
theorem dX10_init_30 : decode cX10_init 30 = .ok (.iastore, 1) := de_4f tX10_init_30
def tX10_init_31 := Bt_1 (q := 31) tX10_init_30 rfl
theorem dX10_init_31 : decode cX10_init 31 = .ok (.dup, 1) := de_59 tX10_init_31
def tX10_init_32 := Bt_1 (q := 32) tX10_init_31 rfl
theorem dX10_init_32 : decode cX10_init 32 = .ok (.iconst 3, 1) := de_06 tX10_init_32
def tX10_init_33 := Bt_1 (q := 33) tX10_init_32 rfl
theorem dX10_init_33 : decode cX10_init 33 = .ok (.sipush 1000, 3) := de_11 tX10_init_33 (by decide +kernel)
def tX10_init_36 := Bt_3 (q := 36) tX10_init_33 rfl
theorem dX10_init_36 : decode cX10_init 36 = .ok (.iastore, 1) := de_4f tX10_init_36
def tX10_init_37 := Bt_1 (q := 37) tX10_init_36 rfl
theorem dX10_init_37 : decode cX10_init 37 = .ok (.putfield 13, 3) := de_b5 tX10_init_37 (by decide +kernel)
def tX10_init_40 := Bt_3 (q := 40) tX10_init_37 rfl
theorem dX10_init_40 : decode cX10_init 40 = .ok (.aload_n 0, 1) := de_2a tX10_init_40
def tX10_init_41 := Bt_1 (q := 41) tX10_init_40 rfl
theorem dX10_init_41 : decode cX10_init 41 = .ok (.iconst 1, 1) := de_04 tX10_init_41
def tX10_init_42 := Bt_1 (q := 42) tX10_init_41 rfl
theorem dX10_init_42 : decode cX10_init 42 = .ok (.putfield 17, 3) := de_b5 tX10_init_42 (by decide +kernel)
def tX10_init_45 := Bt_3 (q := 45) tX10_init_42 rfl
theorem dX10_init_45 : decode cX10_init 45 = .ok (.aload_n 0, 1) := de_2a tX10_init_45
def tX10_init_46 := Bt_1 (q := 46) tX10_init_45 rfl
theorem dX10_init_46 : decode cX10_init 46 = .ok (.bipush 48, 2) := de_10 tX10_init_46 (by decide +kernel)
def tX10_init_48 := Bt_2 (q := 48) tX10_init_46 rfl
theorem dX10_init_48 : decode cX10_init 48 = .ok (.newarray .boolean, 2) := de_bc_04 tX10_init_48
def tX10_init_50 := Bt_2 (q := 50) tX10_init_48 rfl
theorem dX10_init_50 : decode cX10_init 50 = .ok (.putfield 20, 3) := de_b5 tX10_init_50 (by decide +kernel)
def tX10_init_53 := Bt_3 (q := 53) tX10_init_50 rfl
theorem dX10_init_53 : decode cX10_init 53 = .ok (.aload_n 0, 1) := de_2a tX10_init_53
def tX10_init_54 := Bt_1 (q := 54) tX10_init_53 rfl
theorem dX10_init_54 : decode cX10_init 54 = .ok (.bipush 48, 2) := de_10 tX10_init_54 (by decide +kernel)
def tX10_init_56 := Bt_2 (q := 56) tX10_init_54 rfl
theorem dX10_init_56 : decode cX10_init 56 = .ok (.newarray .int, 2) := de_bc_0a tX10_init_56
def tX10_init_58 := Bt_2 (q := 58) tX10_init_56 rfl
theorem dX10_init_58 : decode cX10_init 58 = .ok (.putfield 24, 3) := de_b5 tX10_init_58 (by decide +kernel)
def tX10_init_61 := Bt_3 (q := 61) tX10_init_58 rfl
theorem dX10_init_61 : decode cX10_init 61 = .ok (.aload_n 0, 1) := de_2a tX10_init_61
def tX10_init_62 := Bt_1 (q := 62) tX10_init_61 rfl
theorem dX10_init_62 : decode cX10_init 62 = .ok (.sipush 192, 3) := de_11 tX10_init_62 (by decide +kernel)
def tX10_init_65 := Bt_3 (q := 65) tX10_init_62 rfl
theorem dX10_init_65 : decode cX10_init 65 = .ok (.newarray .int, 2) := de_bc_0a tX10_init_65
def tX10_init_67 := Bt_2 (q := 67) tX10_init_65 rfl
theorem dX10_init_67 : decode cX10_init 67 = .ok (.putfield 27, 3) := de_b5 tX10_init_67 (by decide +kernel)
def tX10_init_70 := Bt_3 (q := 70) tX10_init_67 rfl
theorem dX10_init_70 : decode cX10_init 70 = .ok (.aload_n 0, 1) := de_2a tX10_init_70
def tX10_init_71 := Bt_1 (q := 71) tX10_init_70 rfl
theorem dX10_init_71 : decode cX10_init 71 = .ok (.bipush 48, 2) := de_10 tX10_init_71 (by decide +kernel)
def tX10_init_73 := Bt_2 (q := 73) tX10_init_71 rfl
theorem dX10_init_73 : decode cX10_init 73 = .ok (.newarray .int, 2) := de_bc_0a tX10_init_73
def tX10_init_75 := Bt_2 (q := 75) tX10_init_73 rfl
theorem dX10_init_75 : decode cX10_init 75 = .ok (.putfield 30, 3) := de_b5 tX10_init_75 (by decide +kernel)
def tX10_init_78 := Bt_3 (q := 78) tX10_init_75 rfl
theorem dX10_init_78 : decode cX10_init 78 = .ok (.aload_n 0, 1) := de_2a tX10_init_78
def tX10_init_79 := Bt_1 (q := 79) tX10_init_78 rfl
theorem dX10_init_79 : decode cX10_init 79 = .ok (.bipush 48, 2) := de_10 tX10_init_79 (by decide +kernel)
def tX10_init_81 := Bt_2 (q := 81) tX10_init_79 rfl
theorem dX10_init_81 : decode cX10_init 81 = .ok (.newarray .int, 2) := de_bc_0a tX10_init_81
def tX10_init_83 := Bt_2 (q := 83) tX10_init_81 rfl
theorem dX10_init_83 : decode cX10_init 83 = .ok (.putfield 33, 3) := de_b5 tX10_init_83 (by decide +kernel)
def tX10_init_86 := Bt_3 (q := 86) tX10_init_83 rfl
theorem dX10_init_86 : decode cX10_init 86 = .ok (.aload_n 0, 1) := de_2a tX10_init_86
def tX10_init_87 := Bt_1 (q := 87) tX10_init_86 rfl
theorem dX10_init_87 : decode cX10_init 87 = .ok (.bipush 48, 2) := de_10 tX10_init_87 (by decide +kernel)
def tX10_init_89 := Bt_2 (q := 89) tX10_init_87 rfl
theorem dX10_init_89 : decode cX10_init 89 = .ok (.newarray .boolean, 2) := de_bc_04 tX10_init_89
def tX10_init_91 := Bt_2 (q := 91) tX10_init_89 rfl
theorem dX10_init_91 : decode cX10_init 91 = .ok (.putfield 36, 3) := de_b5 tX10_init_91 (by decide +kernel)
def tX10_init_94 := Bt_3 (q := 94) tX10_init_91 rfl
theorem dX10_init_94 : decode cX10_init 94 = .ok (.aload_n 0, 1) := de_2a tX10_init_94
def tX10_init_95 := Bt_1 (q := 95) tX10_init_94 rfl
theorem dX10_init_95 : decode cX10_init 95 = .ok (.bipush 48, 2) := de_10 tX10_init_95 (by decide +kernel)
def tX10_init_97 := Bt_2 (q := 97) tX10_init_95 rfl
theorem dX10_init_97 : decode cX10_init 97 = .ok (.newarray .int, 2) := de_bc_0a tX10_init_97
def tX10_init_99 := Bt_2 (q := 99) tX10_init_97 rfl
theorem dX10_init_99 : decode cX10_init 99 = .ok (.putfield 39, 3) := de_b5 tX10_init_99 (by decide +kernel)
def tX10_init_102 := Bt_3 (q := 102) tX10_init_99 rfl
theorem dX10_init_102 : decode cX10_init 102 = .ok (.aload_n 0, 1) := de_2a tX10_init_102
def tX10_init_103 := Bt_1 (q := 103) tX10_init_102 rfl
theorem dX10_init_103 : decode cX10_init 103 = .ok (.iconst 4, 1) := de_07 tX10_init_103
def tX10_init_104 := Bt_1 (q := 104) tX10_init_103 rfl
theorem dX10_init_104 : decode cX10_init 104 = .ok (.newarray .int, 2) := de_bc_0a tX10_init_104
def tX10_init_106 := Bt_2 (q := 106) tX10_init_104 rfl
theorem dX10_init_106 : decode cX10_init 106 = .ok (.dup, 1) := de_59 tX10_init_106
def tX10_init_107 := Bt_1 (q := 107) tX10_init_106 rfl
theorem dX10_init_107 : decode cX10_init 107 = .ok (.iconst 0, 1) := de_03 tX10_init_107
def tX10_init_108 := Bt_1 (q := 108) tX10_init_107 rfl
theorem dX10_init_108 : decode cX10_init 108 = .ok (.iconst 0, 1) := de_03 tX10_init_108
def tX10_init_109 := Bt_1 (q := 109) tX10_init_108 rfl
theorem dX10_init_109 : decode cX10_init 109 = .ok (.iastore, 1) := de_4f tX10_init_109
def tX10_init_110 := Bt_1 (q := 110) tX10_init_109 rfl
theorem dX10_init_110 : decode cX10_init 110 = .ok (.dup, 1) := de_59 tX10_init_110
def tX10_init_111 := Bt_1 (q := 111) tX10_init_110 rfl
theorem dX10_init_111 : decode cX10_init 111 = .ok (.iconst 1, 1) := de_04 tX10_init_111
def tX10_init_112 := Bt_1 (q := 112) tX10_init_111 rfl
theorem dX10_init_112 : decode cX10_init 112 = .ok (.iconst 0, 1) := de_03 tX10_init_112
def tX10_init_113 := Bt_1 (q := 113) tX10_init_112 rfl
theorem dX10_init_113 : decode cX10_init 113 = .ok (.iastore, 1) := de_4f tX10_init_113
def tX10_init_114 := Bt_1 (q := 114) tX10_init_113 rfl
theorem dX10_init_114 : decode cX10_init 114 = .ok (.dup, 1) := de_59 tX10_init_114
def tX10_init_115 := Bt_1 (q := 115) tX10_init_114 rfl
theorem dX10_init_115 : decode cX10_init 115 = .ok (.iconst 2, 1) := de_05 tX10_init_115
def tX10_init_116 := Bt_1 (q := 116) tX10_init_115 rfl
theorem dX10_init_116 : decode cX10_init 116 = .ok (.iconst 0, 1) := de_03 tX10_init_116
def tX10_init_117 := Bt_1 (q := 117) tX10_init_116 rfl
theorem dX10_init_117 : decode cX10_init 117 = .ok (.iastore, 1) := de_4f tX10_init_117
def tX10_init_118 := Bt_1 (q := 118) tX10_init_117 rfl
theorem dX10_init_118 : decode cX10_init 118 = .ok (.dup, 1) := de_59 tX10_init_118
def tX10_init_119 := Bt_1 (q := 119) tX10_init_118 rfl
theorem dX10_init_119 : decode cX10_init 119 = .ok (.iconst 3, 1) := de_06 tX10_init_119
def tX10_init_120 := Bt_1 (q := 120) tX10_init_119 rfl
theorem dX10_init_120 : decode cX10_init 120 = .ok (.bipush 50, 2) := de_10 tX10_init_120 (by decide +kernel)
def tX10_init_122 := Bt_2 (q := 122) tX10_init_120 rfl
theorem dX10_init_122 : decode cX10_init 122 = .ok (.iastore, 1) := de_4f tX10_init_122
def tX10_init_123 := Bt_1 (q := 123) tX10_init_122 rfl
theorem dX10_init_123 : decode cX10_init 123 = .ok (.putfield 42, 3) := de_b5 tX10_init_123 (by decide +kernel)
def tX10_init_126 := Bt_3 (q := 126) tX10_init_123 rfl
theorem dX10_init_126 : decode cX10_init 126 = .ok (.aload_n 0, 1) := de_2a tX10_init_126
def tX10_init_127 := Bt_1 (q := 127) tX10_init_126 rfl
theorem dX10_init_127 : decode cX10_init 127 = .ok (.sipush 288, 3) := de_11 tX10_init_127 (by decide +kernel)
def tX10_init_130 := Bt_3 (q := 130) tX10_init_127 rfl
theorem dX10_init_130 : decode cX10_init 130 = .ok (.newarray .int, 2) := de_bc_0a tX10_init_130
def tX10_init_132 := Bt_2 (q := 132) tX10_init_130 rfl
theorem dX10_init_132 : decode cX10_init 132 = .ok (.putfield 45, 3) := de_b5 tX10_init_132 (by decide +kernel)
def tX10_init_135 := Bt_3 (q := 135) tX10_init_132 rfl
theorem dX10_init_135 : decode cX10_init 135 = .ok (.aload_n 0, 1) := de_2a tX10_init_135
def tX10_init_136 := Bt_1 (q := 136) tX10_init_135 rfl
theorem dX10_init_136 : decode cX10_init 136 = .ok (.bipush 48, 2) := de_10 tX10_init_136 (by decide +kernel)
def tX10_init_138 := Bt_2 (q := 138) tX10_init_136 rfl
theorem dX10_init_138 : decode cX10_init 138 = .ok (.newarray .boolean, 2) := de_bc_04 tX10_init_138
def tX10_init_140 := Bt_2 (q := 140) tX10_init_138 rfl
theorem dX10_init_140 : decode cX10_init 140 = .ok (.putfield 48, 3) := de_b5 tX10_init_140 (by decide +kernel)
def tX10_init_143 := Bt_3 (q := 143) tX10_init_140 rfl
theorem dX10_init_143 : decode cX10_init 143 = .ok (.aload_n 0, 1) := de_2a tX10_init_143
def tX10_init_144 := Bt_1 (q := 144) tX10_init_143 rfl
theorem dX10_init_144 : decode cX10_init 144 = .ok (.bipush 8, 2) := de_10 tX10_init_144 (by decide +kernel)
def tX10_init_146 := Bt_2 (q := 146) tX10_init_144 rfl
theorem dX10_init_146 : decode cX10_init 146 = .ok (.newarray .int, 2) := de_bc_0a tX10_init_146
def tX10_init_148 := Bt_2 (q := 148) tX10_init_146 rfl
theorem dX10_init_148 : decode cX10_init 148 = .ok (.putfield 51, 3) := de_b5 tX10_init_148 (by decide +kernel)
def tX10_init_151 := Bt_3 (q := 151) tX10_init_148 rfl
theorem dX10_init_151 : decode cX10_init 151 = .ok (.aload_n 0, 1) := de_2a tX10_init_151
def tX10_init_152 := Bt_1 (q := 152) tX10_init_151 rfl
theorem dX10_init_152 : decode cX10_init 152 = .ok (.bipush 80, 2) := de_10 tX10_init_152 (by decide +kernel)
def tX10_init_154 := Bt_2 (q := 154) tX10_init_152 rfl
theorem dX10_init_154 : decode cX10_init 154 = .ok (.newarray .int, 2) := de_bc_0a tX10_init_154
def tX10_init_156 := Bt_2 (q := 156) tX10_init_154 rfl
theorem dX10_init_156 : decode cX10_init 156 = .ok (.putfield 54, 3) := de_b5 tX10_init_156 (by decide +kernel)
def tX10_init_159 := Bt_3 (q := 159) tX10_init_156 rfl
theorem dX10_init_159 : decode cX10_init 159 = .ok (.aload_n 0, 1) := de_2a tX10_init_159
def tX10_init_160 := Bt_1 (q := 160) tX10_init_159 rfl
theorem dX10_init_160 : decode cX10_init 160 = .ok (.bipush 80, 2) := de_10 tX10_init_160 (by decide +kernel)
def tX10_init_162 := Bt_2 (q := 162) tX10_init_160 rfl
theorem dX10_init_162 : decode cX10_init 162 = .ok (.newarray .int, 2) := de_bc_0a tX10_init_162
def tX10_init_164 := Bt_2 (q := 164) tX10_init_162 rfl
theorem dX10_init_164 : decode cX10_init 164 = .ok (.putfield 57, 3) := de_b5 tX10_init_164 (by decide +kernel)
def tX10_init_167 := Bt_3 (q := 167) tX10_init_164 rfl
theorem dX10_init_167 : decode cX10_init 167 = .ok (.aload_n 0, 1) := de_2a tX10_init_167
def tX10_init_168 := Bt_1 (q := 168) tX10_init_167 rfl
theorem dX10_init_168 : decode cX10_init 168 = .ok (.bipush 7, 2) := de_10 tX10_init_168 (by decide +kernel)
def tX10_init_170 := Bt_2 (q := 170) tX10_init_168 rfl
theorem dX10_init_170 : decode cX10_init 170 = .ok (.newarray .long, 2) := de_bc_0b tX10_init_170
def tX10_init_172 := Bt_2 (q := 172) tX10_init_170 rfl
theorem dX10_init_172 : decode cX10_init 172 = .ok (.putfield 60, 3) := de_b5 tX10_init_172 (by decide +kernel)
def tX10_init_175 := Bt_3 (q := 175) tX10_init_172 rfl
theorem dX10_init_175 : decode cX10_init 175 = .ok (.aload_n 0, 1) := de_2a tX10_init_175
def tX10_init_176 := Bt_1 (q := 176) tX10_init_175 rfl
theorem dX10_init_176 : decode cX10_init 176 = .ok (.bipush 7, 2) := de_10 tX10_init_176 (by decide +kernel)
def tX10_init_178 := Bt_2 (q := 178) tX10_init_176 rfl
theorem dX10_init_178 : decode cX10_init 178 = .ok (.newarray .long, 2) := de_bc_0b tX10_init_178
def tX10_init_180 := Bt_2 (q := 180) tX10_init_178 rfl
theorem dX10_init_180 : decode cX10_init 180 = .ok (.putfield 64, 3) := de_b5 tX10_init_180 (by decide +kernel)
def tX10_init_183 := Bt_3 (q := 183) tX10_init_180 rfl
theorem dX10_init_183 : decode cX10_init 183 = .ok (.aload_n 0, 1) := de_2a tX10_init_183
def tX10_init_184 := Bt_1 (q := 184) tX10_init_183 rfl
theorem dX10_init_184 : decode cX10_init 184 = .ok (.bipush 100, 2) := de_10 tX10_init_184 (by decide +kernel)
def tX10_init_186 := Bt_2 (q := 186) tX10_init_184 rfl
theorem dX10_init_186 : decode cX10_init 186 = .ok (.newarray .long, 2) := de_bc_0b tX10_init_186
def tX10_init_188 := Bt_2 (q := 188) tX10_init_186 rfl
theorem dX10_init_188 : decode cX10_init 188 = .ok (.putfield 67, 3) := de_b5 tX10_init_188 (by decide +kernel)
def tX10_init_191 := Bt_3 (q := 191) tX10_init_188 rfl
theorem dX10_init_191 : decode cX10_init 191 = .ok (.aload_n 0, 1) := de_2a tX10_init_191
def tX10_init_192 := Bt_1 (q := 192) tX10_init_191 rfl
theorem dX10_init_192 : decode cX10_init 192 = .ok (.bipush 100, 2) := de_10 tX10_init_192 (by decide +kernel)
def tX10_init_194 := Bt_2 (q := 194) tX10_init_192 rfl
theorem dX10_init_194 : decode cX10_init 194 = .ok (.newarray .long, 2) := de_bc_0b tX10_init_194
def tX10_init_196 := Bt_2 (q := 196) tX10_init_194 rfl
theorem dX10_init_196 : decode cX10_init 196 = .ok (.putfield 70, 3) := de_b5 tX10_init_196 (by decide +kernel)
def tX10_init_199 := Bt_3 (q := 199) tX10_init_196 rfl
theorem dX10_init_199 : decode cX10_init 199 = .ok (.aload_n 0, 1) := de_2a tX10_init_199
def tX10_init_200 := Bt_1 (q := 200) tX10_init_199 rfl
theorem dX10_init_200 : decode cX10_init 200 = .ok (.bipush 100, 2) := de_10 tX10_init_200 (by decide +kernel)
def tX10_init_202 := Bt_2 (q := 202) tX10_init_200 rfl
theorem dX10_init_202 : decode cX10_init 202 = .ok (.newarray .int, 2) := de_bc_0a tX10_init_202
def tX10_init_204 := Bt_2 (q := 204) tX10_init_202 rfl
theorem dX10_init_204 : decode cX10_init 204 = .ok (.putfield 73, 3) := de_b5 tX10_init_204 (by decide +kernel)
def tX10_init_207 := Bt_3 (q := 207) tX10_init_204 rfl
theorem dX10_init_207 : decode cX10_init 207 = .ok (.aload_n 0, 1) := de_2a tX10_init_207
def tX10_init_208 := Bt_1 (q := 208) tX10_init_207 rfl
theorem dX10_init_208 : decode cX10_init 208 = .ok (.bipush 8, 2) := de_10 tX10_init_208 (by decide +kernel)
def tX10_init_210 := Bt_2 (q := 210) tX10_init_208 rfl
theorem dX10_init_210 : decode cX10_init 210 = .ok (.newarray .int, 2) := de_bc_0a tX10_init_210
def tX10_init_212 := Bt_2 (q := 212) tX10_init_210 rfl
theorem dX10_init_212 : decode cX10_init 212 = .ok (.putfield 76, 3) := de_b5 tX10_init_212 (by decide +kernel)
def tX10_init_215 := Bt_3 (q := 215) tX10_init_212 rfl
theorem dX10_init_215 : decode cX10_init 215 = .ok (.aload_n 0, 1) := de_2a tX10_init_215
def tX10_init_216 := Bt_1 (q := 216) tX10_init_215 rfl
theorem dX10_init_216 : decode cX10_init 216 = .ok (.bipush 8, 2) := de_10 tX10_init_216 (by decide +kernel)
def tX10_init_218 := Bt_2 (q := 218) tX10_init_216 rfl
theorem dX10_init_218 : decode cX10_init 218 = .ok (.newarray .int, 2) := de_bc_0a tX10_init_218
def tX10_init_220 := Bt_2 (q := 220) tX10_init_218 rfl
theorem dX10_init_220 : decode cX10_init 220 = .ok (.putfield 79, 3) := de_b5 tX10_init_220 (by decide +kernel)
def tX10_init_223 := Bt_3 (q := 223) tX10_init_220 rfl
theorem dX10_init_223 : decode cX10_init 223 = .ok (.aload_n 0, 1) := de_2a tX10_init_223
def tX10_init_224 := Bt_1 (q := 224) tX10_init_223 rfl
theorem dX10_init_224 : decode cX10_init 224 = .ok (.bipush 56, 2) := de_10 tX10_init_224 (by decide +kernel)
def tX10_init_226 := Bt_2 (q := 226) tX10_init_224 rfl
theorem dX10_init_226 : decode cX10_init 226 = .ok (.newarray .int, 2) := de_bc_0a tX10_init_226
def tX10_init_228 := Bt_2 (q := 228) tX10_init_226 rfl
theorem dX10_init_228 : decode cX10_init 228 = .ok (.putfield 82, 3) := de_b5 tX10_init_228 (by decide +kernel)
def tX10_init_231 := Bt_3 (q := 231) tX10_init_228 rfl
theorem dX10_init_231 : decode cX10_init 231 = .ok (.aload_n 0, 1) := de_2a tX10_init_231
def tX10_init_232 := Bt_1 (q := 232) tX10_init_231 rfl
theorem dX10_init_232 : decode cX10_init 232 = .ok (.bipush 6, 2) := de_10 tX10_init_232 (by decide +kernel)
def tX10_init_234 := Bt_2 (q := 234) tX10_init_232 rfl
theorem dX10_init_234 : decode cX10_init 234 = .ok (.newarray .int, 2) := de_bc_0a tX10_init_234
def tX10_init_236 := Bt_2 (q := 236) tX10_init_234 rfl
theorem dX10_init_236 : decode cX10_init 236 = .ok (.putfield 85, 3) := de_b5 tX10_init_236 (by decide +kernel)
def tX10_init_239 := Bt_3 (q := 239) tX10_init_236 rfl
theorem dX10_init_239 : decode cX10_init 239 = .ok (.aload_n 0, 1) := de_2a tX10_init_239
def tX10_init_240 := Bt_1 (q := 240) tX10_init_239 rfl
theorem dX10_init_240 : decode cX10_init 240 = .ok (.bipush 48, 2) := de_10 tX10_init_240 (by decide +kernel)
def tX10_init_242 := Bt_2 (q := 242) tX10_init_240 rfl
theorem dX10_init_242 : decode cX10_init 242 = .ok (.newarray .int, 2) := de_bc_0a tX10_init_242
def tX10_init_244 := Bt_2 (q := 244) tX10_init_242 rfl
theorem dX10_init_244 : decode cX10_init 244 = .ok (.putfield 88, 3) := de_b5 tX10_init_244 (by decide +kernel)
def tX10_init_247 := Bt_3 (q := 247) tX10_init_244 rfl
theorem dX10_init_247 : decode cX10_init 247 = .ok (.aload_n 0, 1) := de_2a tX10_init_247
def tX10_init_248 := Bt_1 (q := 248) tX10_init_247 rfl
theorem dX10_init_248 : decode cX10_init 248 = .ok (.bipush 6, 2) := de_10 tX10_init_248 (by decide +kernel)
def tX10_init_250 := Bt_2 (q := 250) tX10_init_248 rfl
theorem dX10_init_250 : decode cX10_init 250 = .ok (.newarray .int, 2) := de_bc_0a tX10_init_250
def tX10_init_252 := Bt_2 (q := 252) tX10_init_250 rfl
theorem dX10_init_252 : decode cX10_init 252 = .ok (.putfield 91, 3) := de_b5 tX10_init_252 (by decide +kernel)
def tX10_init_255 := Bt_3 (q := 255) tX10_init_252 rfl
theorem dX10_init_255 : decode cX10_init 255 = .ok (.aload_n 0, 1) := de_2a tX10_init_255
def tX10_init_256 := Bt_1 (q := 256) tX10_init_255 rfl
theorem dX10_init_256 : decode cX10_init 256 = .ok (.bipush 6, 2) := de_10 tX10_init_256 (by decide +kernel)
def tX10_init_258 := Bt_2 (q := 258) tX10_init_256 rfl
theorem dX10_init_258 : decode cX10_init 258 = .ok (.newarray .int, 2) := de_bc_0a tX10_init_258
def tX10_init_260 := Bt_2 (q := 260) tX10_init_258 rfl
theorem dX10_init_260 : decode cX10_init 260 = .ok (.putfield 94, 3) := de_b5 tX10_init_260 (by decide +kernel)
def tX10_init_263 := Bt_3 (q := 263) tX10_init_260 rfl
theorem dX10_init_263 : decode cX10_init 263 = .ok (.aload_n 0, 1) := de_2a tX10_init_263
def tX10_init_264 := Bt_1 (q := 264) tX10_init_263 rfl
theorem dX10_init_264 : decode cX10_init 264 = .ok (.bipush 8, 2) := de_10 tX10_init_264 (by decide +kernel)
def tX10_init_266 := Bt_2 (q := 266) tX10_init_264 rfl
theorem dX10_init_266 : decode cX10_init 266 = .ok (.newarray .int, 2) := de_bc_0a tX10_init_266
def tX10_init_268 := Bt_2 (q := 268) tX10_init_266 rfl
theorem dX10_init_268 : decode cX10_init 268 = .ok (.putfield 97, 3) := de_b5 tX10_init_268 (by decide +kernel)
def tX10_init_271 := Bt_3 (q := 271) tX10_init_268 rfl
theorem dX10_init_271 : decode cX10_init 271 = .ok (.aload_n 0, 1) := de_2a tX10_init_271
def tX10_init_272 := Bt_1 (q := 272) tX10_init_271 rfl
theorem dX10_init_272 : decode cX10_init 272 = .ok (.bipush 8, 2) := de_10 tX10_init_272 (by decide +kernel)
def tX10_init_274 := Bt_2 (q := 274) tX10_init_272 rfl
theorem dX10_init_274 : decode cX10_init 274 = .ok (.newarray .int, 2) := de_bc_0a tX10_init_274
def tX10_init_276 := Bt_2 (q := 276) tX10_init_274 rfl
theorem dX10_init_276 : decode cX10_init 276 = .ok (.putfield 100, 3) := de_b5 tX10_init_276 (by decide +kernel)
def tX10_init_279 := Bt_3 (q := 279) tX10_init_276 rfl
theorem dX10_init_279 : decode cX10_init 279 = .ok (.aload_n 0, 1) := de_2a tX10_init_279
def tX10_init_280 := Bt_1 (q := 280) tX10_init_279 rfl
theorem dX10_init_280 : decode cX10_init 280 = .ok (.bipush 6, 2) := de_10 tX10_init_280 (by decide +kernel)
def tX10_init_282 := Bt_2 (q := 282) tX10_init_280 rfl
theorem dX10_init_282 : decode cX10_init 282 = .ok (.newarray .int, 2) := de_bc_0a tX10_init_282
def tX10_init_284 := Bt_2 (q := 284) tX10_init_282 rfl
theorem dX10_init_284 : decode cX10_init 284 = .ok (.putfield 103, 3) := de_b5 tX10_init_284 (by decide +kernel)
def tX10_init_287 := Bt_3 (q := 287) tX10_init_284 rfl
theorem dX10_init_287 : decode cX10_init 287 = .ok (.aload_n 0, 1) := de_2a tX10_init_287
def tX10_init_288 := Bt_1 (q := 288) tX10_init_287 rfl
theorem dX10_init_288 : decode cX10_init 288 = .ok (.bipush 6, 2) := de_10 tX10_init_288 (by decide +kernel)
def tX10_init_290 := Bt_2 (q := 290) tX10_init_288 rfl
theorem dX10_init_290 : decode cX10_init 290 = .ok (.newarray .int, 2) := de_bc_0a tX10_init_290
def tX10_init_292 := Bt_2 (q := 292) tX10_init_290 rfl
theorem dX10_init_292 : decode cX10_init 292 = .ok (.putfield 106, 3) := de_b5 tX10_init_292 (by decide +kernel)
def tX10_init_295 := Bt_3 (q := 295) tX10_init_292 rfl
theorem dX10_init_295 : decode cX10_init 295 = .ok (.aload_n 0, 1) := de_2a tX10_init_295
def tX10_init_296 := Bt_1 (q := 296) tX10_init_295 rfl
theorem dX10_init_296 : decode cX10_init 296 = .ok (.bipush 6, 2) := de_10 tX10_init_296 (by decide +kernel)
def tX10_init_298 := Bt_2 (q := 298) tX10_init_296 rfl
theorem dX10_init_298 : decode cX10_init 298 = .ok (.newarray .int, 2) := de_bc_0a tX10_init_298
def tX10_init_300 := Bt_2 (q := 300) tX10_init_298 rfl
theorem dX10_init_300 : decode cX10_init 300 = .ok (.putfield 109, 3) := de_b5 tX10_init_300 (by decide +kernel)
def tX10_init_303 := Bt_3 (q := 303) tX10_init_300 rfl
theorem dX10_init_303 : decode cX10_init 303 = .ok (.aload_n 0, 1) := de_2a tX10_init_303
def tX10_init_304 := Bt_1 (q := 304) tX10_init_303 rfl
theorem dX10_init_304 : decode cX10_init 304 = .ok (.bipush 20, 2) := de_10 tX10_init_304 (by decide +kernel)
def tX10_init_306 := Bt_2 (q := 306) tX10_init_304 rfl
theorem dX10_init_306 : decode cX10_init 306 = .ok (.newarray .int, 2) := de_bc_0a tX10_init_306
def tX10_init_308 := Bt_2 (q := 308) tX10_init_306 rfl
theorem dX10_init_308 : decode cX10_init 308 = .ok (.putfield 112, 3) := de_b5 tX10_init_308 (by decide +kernel)
def tX10_init_311 := Bt_3 (q := 311) tX10_init_308 rfl
theorem dX10_init_311 : decode cX10_init 311 = .ok (.aload_n 0, 1) := de_2a tX10_init_311
def tX10_init_312 := Bt_1 (q := 312) tX10_init_311 rfl
theorem dX10_init_312 : decode cX10_init 312 = .ok (.bipush 20, 2) := de_10 tX10_init_312 (by decide +kernel)
def tX10_init_314 := Bt_2 (q := 314) tX10_init_312 rfl
theorem dX10_init_314 : decode cX10_init 314 = .ok (.newarray .int, 2) := de_bc_0a tX10_init_314
def tX10_init_316 := Bt_2 (q := 316) tX10_init_314 rfl
theorem dX10_init_316 : decode cX10_init 316 = .ok (.putfield 115, 3) := de_b5 tX10_init_316 (by decide +kernel)
def tX10_init_319 := Bt_3 (q := 319) tX10_init_316 rfl
theorem dX10_init_319 : decode cX10_init 319 = .ok (.aload_n 0, 1) := de_2a tX10_init_319
def tX10_init_320 := Bt_1 (q := 320) tX10_init_319 rfl
theorem dX10_init_320 : decode cX10_init 320 = .ok (.bipush 20, 2) := de_10 tX10_init_320 (by decide +kernel)
def tX10_init_322 := Bt_2 (q := 322) tX10_init_320 rfl
theorem dX10_init_322 : decode cX10_init 322 = .ok (.newarray .boolean, 2) := de_bc_04 tX10_init_322
def tX10_init_324 := Bt_2 (q := 324) tX10_init_322 rfl
theorem dX10_init_324 : decode cX10_init 324 = .ok (.putfield 118, 3) := de_b5 tX10_init_324 (by decide +kernel)
def tX10_init_327 := Bt_3 (q := 327) tX10_init_324 rfl
theorem dX10_init_327 : decode cX10_init 327 = .ok (.aload_n 0, 1) := de_2a tX10_init_327
def tX10_init_328 := Bt_1 (q := 328) tX10_init_327 rfl
theorem dX10_init_328 : decode cX10_init 328 = .ok (.iconst 4, 1) := de_07 tX10_init_328
def tX10_init_329 := Bt_1 (q := 329) tX10_init_328 rfl
theorem dX10_init_329 : decode cX10_init 329 = .ok (.newarray .int, 2) := de_bc_0a tX10_init_329
def tX10_init_331 := Bt_2 (q := 331) tX10_init_329 rfl
theorem dX10_init_331 : decode cX10_init 331 = .ok (.putfield 121, 3) := de_b5 tX10_init_331 (by decide +kernel)
def tX10_init_334 := Bt_3 (q := 334) tX10_init_331 rfl
theorem dX10_init_334 : decode cX10_init 334 = .ok (.aload_n 0, 1) := de_2a tX10_init_334
def tX10_init_335 := Bt_1 (q := 335) tX10_init_334 rfl
theorem dX10_init_335 : decode cX10_init 335 = .ok (.bipush 8, 2) := de_10 tX10_init_335 (by decide +kernel)
def tX10_init_337 := Bt_2 (q := 337) tX10_init_335 rfl
theorem dX10_init_337 : decode cX10_init 337 = .ok (.newarray .int, 2) := de_bc_0a tX10_init_337
def tX10_init_339 := Bt_2 (q := 339) tX10_init_337 rfl
theorem dX10_init_339 : decode cX10_init 339 = .ok (.putfield 124, 3) := de_b5 tX10_init_339 (by decide +kernel)
def tX10_init_342 := Bt_3 (q := 342) tX10_init_339 rfl
theorem dX10_init_342 : decode cX10_init 342 = .ok (.aload_n 0, 1) := de_2a tX10_init_342
def tX10_init_343 := Bt_1 (q := 343) tX10_init_342 rfl
theorem dX10_init_343 : decode cX10_init 343 = .ok (.bipush 8, 2) := de_10 tX10_init_343 (by decide +kernel)
def tX10_init_345 := Bt_2 (q := 345) tX10_init_343 rfl
theorem dX10_init_345 : decode cX10_init 345 = .ok (.newarray .int, 2) := de_bc_0a tX10_init_345
def tX10_init_347 := Bt_2 (q := 347) tX10_init_345 rfl
theorem dX10_init_347 : decode cX10_init 347 = .ok (.putfield 127, 3) := de_b5 tX10_init_347 (by decide +kernel)
def tX10_init_350 := Bt_3 (q := 350) tX10_init_347 rfl
theorem dX10_init_350 : decode cX10_init 350 = .ok (.aload_n 0, 1) := de_2a tX10_init_350
def tX10_init_351 := Bt_1 (q := 351) tX10_init_350 rfl
theorem dX10_init_351 : decode cX10_init 351 = .ok (.bipush 8, 2) := de_10 tX10_init_351 (by decide +kernel)
def tX10_init_353 := Bt_2 (q := 353) tX10_init_351 rfl
theorem dX10_init_353 : decode cX10_init 353 = .ok (.newarray .int, 2) := de_bc_0a tX10_init_353
def tX10_init_355 := Bt_2 (q := 355) tX10_init_353 rfl
theorem dX10_init_355 : decode cX10_init 355 = .ok (.putfield 130, 3) := de_b5 tX10_init_355 (by decide +kernel)
def tX10_init_358 := Bt_3 (q := 358) tX10_init_355 rfl
theorem dX10_init_358 : decode cX10_init 358 = .ok (.aload_n 0, 1) := de_2a tX10_init_358
def tX10_init_359 := Bt_1 (q := 359) tX10_init_358 rfl
theorem dX10_init_359 : decode cX10_init 359 = .ok (.iconst (-1), 1) := de_02 tX10_init_359
def tX10_init_360 := Bt_1 (q := 360) tX10_init_359 rfl
theorem dX10_init_360 : decode cX10_init 360 = .ok (.putfield 133, 3) := de_b5 tX10_init_360 (by decide +kernel)
def tX10_init_363 := Bt_3 (q := 363) tX10_init_360 rfl
theorem dX10_init_363 : decode cX10_init 363 = .ok (.aload_n 0, 1) := de_2a tX10_init_363
def tX10_init_364 := Bt_1 (q := 364) tX10_init_363 rfl
theorem dX10_init_364 : decode cX10_init 364 = .ok (.iconst (-1), 1) := de_02 tX10_init_364
def tX10_init_365 := Bt_1 (q := 365) tX10_init_364 rfl
theorem dX10_init_365 : decode cX10_init 365 = .ok (.putfield 136, 3) := de_b5 tX10_init_365 (by decide +kernel)
def tX10_init_368 := Bt_3 (q := 368) tX10_init_365 rfl
theorem dX10_init_368 : decode cX10_init 368 = .ok (.iconst 0, 1) := de_03 tX10_init_368
def tX10_init_369 := Bt_1 (q := 369) tX10_init_368 rfl
theorem dX10_init_369 : decode cX10_init 369 = .ok (.istore_n 1, 1) := de_3c tX10_init_369
def tX10_init_370 := Bt_1 (q := 370) tX10_init_369 rfl
theorem dX10_init_370 : decode cX10_init 370 = .ok (.iload_n 1, 1) := de_1b tX10_init_370
def tX10_init_371 := Bt_1 (q := 371) tX10_init_370 rfl
theorem dX10_init_371 : decode cX10_init 371 = .ok (.bipush 48, 2) := de_10 tX10_init_371 (by decide +kernel)
def tX10_init_373 := Bt_2 (q := 373) tX10_init_371 rfl
theorem dX10_init_373 : decode cX10_init 373 = .ok (.if_icmp .ge 16, 3) := de_a2 tX10_init_373 (by decide +kernel)
def tX10_init_376 := Bt_3 (q := 376) tX10_init_373 rfl
theorem dX10_init_376 : decode cX10_init 376 = .ok (.aload_n 0, 1) := de_2a tX10_init_376
def tX10_init_377 := Bt_1 (q := 377) tX10_init_376 rfl
theorem dX10_init_377 : decode cX10_init 377 = .ok (.getfield 39, 3) := de_b4 tX10_init_377 (by decide +kernel)
def tX10_init_380 := Bt_3 (q := 380) tX10_init_377 rfl
theorem dX10_init_380 : decode cX10_init 380 = .ok (.iload_n 1, 1) := de_1b tX10_init_380
def tX10_init_381 := Bt_1 (q := 381) tX10_init_380 rfl
theorem dX10_init_381 : decode cX10_init 381 = .ok (.iconst (-1), 1) := de_02 tX10_init_381
def tX10_init_382 := Bt_1 (q := 382) tX10_init_381 rfl
theorem dX10_init_382 : decode cX10_init 382 = .ok (.iastore, 1) := de_4f tX10_init_382
def tX10_init_383 := Bt_1 (q := 383) tX10_init_382 rfl
theorem dX10_init_383 : decode cX10_init 383 = .ok (.iinc 1 1, 3) := de_84 tX10_init_383 (by decide +kernel) (by decide +kernel)
def tX10_init_386 := Bt_3 (q := 386) tX10_init_383 rfl
theorem dX10_init_386 : decode cX10_init 386 = .ok (.goto (-16), 3) := de_a7 tX10_init_386 (by decide +kernel)
def tX10_init_389 := Bt_3 (q := 389) tX10_init_386 rfl
theorem dX10_init_389 : decode cX10_init 389 = .ok (.iconst 0, 1) := de_03 tX10_init_389
def tX10_init_390 := Bt_1 (q := 390) tX10_init_389 rfl
theorem dX10_init_390 : decode cX10_init 390 = .ok (.istore_n 1, 1) := de_3c tX10_init_390
def tX10_init_391 := Bt_1 (q := 391) tX10_init_390 rfl
theorem dX10_init_391 : decode cX10_init 391 = .ok (.iload_n 1, 1) := de_1b tX10_init_391
def tX10_init_392 := Bt_1 (q := 392) tX10_init_391 rfl
theorem dX10_init_392 : decode cX10_init 392 = .ok (.sipush 288, 3) := de_11 tX10_init_392 (by decide +kernel)
def tX10_init_395 := Bt_3 (q := 395) tX10_init_392 rfl
theorem dX10_init_395 : decode cX10_init 395 = .ok (.if_icmp .ge 16, 3) := de_a2 tX10_init_395 (by decide +kernel)
def tX10_init_398 := Bt_3 (q := 398) tX10_init_395 rfl
theorem dX10_init_398 : decode cX10_init 398 = .ok (.aload_n 0, 1) := de_2a tX10_init_398
def tX10_init_399 := Bt_1 (q := 399) tX10_init_398 rfl
theorem dX10_init_399 : decode cX10_init 399 = .ok (.getfield 45, 3) := de_b4 tX10_init_399 (by decide +kernel)
def tX10_init_402 := Bt_3 (q := 402) tX10_init_399 rfl
theorem dX10_init_402 : decode cX10_init 402 = .ok (.iload_n 1, 1) := de_1b tX10_init_402
def tX10_init_403 := Bt_1 (q := 403) tX10_init_402 rfl
theorem dX10_init_403 : decode cX10_init 403 = .ok (.iconst (-1), 1) := de_02 tX10_init_403
def tX10_init_404 := Bt_1 (q := 404) tX10_init_403 rfl
theorem dX10_init_404 : decode cX10_init 404 = .ok (.iastore, 1) := de_4f tX10_init_404
def tX10_init_405 := Bt_1 (q := 405) tX10_init_404 rfl
theorem dX10_init_405 : decode cX10_init 405 = .ok (.iinc 1 1, 3) := de_84 tX10_init_405 (by decide +kernel) (by decide +kernel)
def tX10_init_408 := Bt_3 (q := 408) tX10_init_405 rfl
theorem dX10_init_408 : decode cX10_init 408 = .ok (.goto (-17), 3) := de_a7 tX10_init_408 (by decide +kernel)
def tX10_init_411 := Bt_3 (q := 411) tX10_init_408 rfl
theorem dX10_init_411 : decode cX10_init 411 = .ok (.aload_n 0, 1) := de_2a tX10_init_411
def tX10_init_412 := Bt_1 (q := 412) tX10_init_411 rfl
theorem dX10_init_412 : decode cX10_init 412 = .ok (.getfield 57, 3) := de_b4 tX10_init_412 (by decide +kernel)
def tX10_init_415 := Bt_3 (q := 415) tX10_init_412 rfl
theorem dX10_init_415 : decode cX10_init 415 = .ok (.iconst 0, 1) := de_03 tX10_init_415
def tX10_init_416 := Bt_1 (q := 416) tX10_init_415 rfl
theorem dX10_init_416 : decode cX10_init 416 = .ok (.bipush 113, 2) := de_10 tX10_init_416 (by decide +kernel)
def tX10_init_418 := Bt_2 (q := 418) tX10_init_416 rfl
theorem dX10_init_418 : decode cX10_init 418 = .ok (.iastore, 1) := de_4f tX10_init_418
def tX10_init_419 := Bt_1 (q := 419) tX10_init_418 rfl
theorem dX10_init_419 : decode cX10_init 419 = .ok (.aload_n 0, 1) := de_2a tX10_init_419
def tX10_init_420 := Bt_1 (q := 420) tX10_init_419 rfl
theorem dX10_init_420 : decode cX10_init 420 = .ok (.iconst 1, 1) := de_04 tX10_init_420
def tX10_init_421 := Bt_1 (q := 421) tX10_init_420 rfl
theorem dX10_init_421 : decode cX10_init 421 = .ok (.putfield 139, 3) := de_b5 tX10_init_421 (by decide +kernel)
def tX10_init_424 := Bt_3 (q := 424) tX10_init_421 rfl
theorem dX10_init_424 : decode cX10_init 424 = .ok (.iconst 0, 1) := de_03 tX10_init_424
def tX10_init_425 := Bt_1 (q := 425) tX10_init_424 rfl
theorem dX10_init_425 : decode cX10_init 425 = .ok (.istore_n 1, 1) := de_3c tX10_init_425
def tX10_init_426 := Bt_1 (q := 426) tX10_init_425 rfl
theorem dX10_init_426 : decode cX10_init 426 = .ok (.iload_n 1, 1) := de_1b tX10_init_426
def tX10_init_427 := Bt_1 (q := 427) tX10_init_426 rfl
theorem dX10_init_427 : decode cX10_init 427 = .ok (.bipush 8, 2) := de_10 tX10_init_427 (by decide +kernel)
def tX10_init_429 := Bt_2 (q := 429) tX10_init_427 rfl
theorem dX10_init_429 : decode cX10_init 429 = .ok (.if_icmp .ge 17, 3) := de_a2 tX10_init_429 (by decide +kernel)
def tX10_init_432 := Bt_3 (q := 432) tX10_init_429 rfl
theorem dX10_init_432 : decode cX10_init 432 = .ok (.aload_n 0, 1) := de_2a tX10_init_432
def tX10_init_433 := Bt_1 (q := 433) tX10_init_432 rfl
theorem dX10_init_433 : decode cX10_init 433 = .ok (.getfield 79, 3) := de_b4 tX10_init_433 (by decide +kernel)
def tX10_init_436 := Bt_3 (q := 436) tX10_init_433 rfl
theorem dX10_init_436 : decode cX10_init 436 = .ok (.iload_n 1, 1) := de_1b tX10_init_436
def tX10_init_437 := Bt_1 (q := 437) tX10_init_436 rfl
theorem dX10_init_437 : decode cX10_init 437 = .ok (.bipush 6, 2) := de_10 tX10_init_437 (by decide +kernel)
def tX10_init_439 := Bt_2 (q := 439) tX10_init_437 rfl
theorem dX10_init_439 : decode cX10_init 439 = .ok (.iastore, 1) := de_4f tX10_init_439
def tX10_init_440 := Bt_1 (q := 440) tX10_init_439 rfl
theorem dX10_init_440 : decode cX10_init 440 = .ok (.iinc 1 1, 3) := de_84 tX10_init_440 (by decide +kernel) (by decide +kernel)
def tX10_init_443 := Bt_3 (q := 443) tX10_init_440 rfl
theorem dX10_init_443 : decode cX10_init 443 = .ok (.goto (-17), 3) := de_a7 tX10_init_443 (by decide +kernel)
def tX10_init_446 := Bt_3 (q := 446) tX10_init_443 rfl
theorem dX10_init_446 : decode cX10_init 446 = .ok (.return_, 1) := de_b1 tX10_init_446
def tX10_in_0 := Bt_0 cX10_in
theorem dX10_in_0 : decode cX10_in 0 = .ok (.iload_n 0, 1) := de_1a tX10_in_0
def tX10_in_1 := Bt_1 (q := 1) tX10_in_0 rfl
theorem dX10_in_1 : decode cX10_in 1 = .ok (.iload_n 1, 1) := de_1b tX10_in_1
def tX10_in_2 := Bt_1 (q := 2) tX10_in_1 rfl
theorem dX10_in_2 : decode cX10_in 2 = .ok (.if_icmp .lt 12, 3) := de_a1 tX10_in_2 (by decide +kernel)
def tX10_in_5 := Bt_3 (q := 5) tX10_in_2 rfl
theorem dX10_in_5 : decode cX10_in 5 = .ok (.iload_n 0, 1) := de_1a tX10_in_5
def tX10_in_6 := Bt_1 (q := 6) tX10_in_5 rfl
theorem dX10_in_6 : decode cX10_in 6 = .ok (.iload_n 2, 1) := de_1c tX10_in_6
def tX10_in_7 := Bt_1 (q := 7) tX10_in_6 rfl
theorem dX10_in_7 : decode cX10_in 7 = .ok (.if_icmp .gt 7, 3) := de_a3 tX10_in_7 (by decide +kernel)
def tX10_in_10 := Bt_3 (q := 10) tX10_in_7 rfl
theorem dX10_in_10 : decode cX10_in 10 = .ok (.iconst 1, 1) := de_04 tX10_in_10
def tX10_in_11 := Bt_1 (q := 11) tX10_in_10 rfl
theorem dX10_in_11 : decode cX10_in 11 = .ok (.goto 4, 3) := de_a7 tX10_in_11 (by decide +kernel)
def tX10_in_14 := Bt_3 (q := 14) tX10_in_11 rfl
theorem dX10_in_14 : decode cX10_in 14 = .ok (.iconst 0, 1) := de_03 tX10_in_14
def tX10_in_15 := Bt_1 (q := 15) tX10_in_14 rfl
theorem dX10_in_15 : decode cX10_in 15 = .ok (.ireturn, 1) := de_ac tX10_in_15
def tX10_refuse_0 := Bt_0 cX10_refuse
theorem dX10_refuse_0 : decode cX10_refuse 0 = .ok (.aload_n 0, 1) := de_2a tX10_refuse_0
def tX10_refuse_1 := Bt_1 (q := 1) tX10_refuse_0 rfl
theorem dX10_refuse_1 : decode cX10_refuse 1 = .ok (.getfield 51, 3) := de_b4 tX10_refuse_1 (by decide +kernel)
def tX10_refuse_4 := Bt_3 (q := 4) tX10_refuse_1 rfl
theorem dX10_refuse_4 : decode cX10_refuse 4 = .ok (.iload_n 1, 1) := de_1b tX10_refuse_4
def tX10_refuse_5 := Bt_1 (q := 5) tX10_refuse_4 rfl
theorem dX10_refuse_5 : decode cX10_refuse 5 = .ok (.ineg, 1) := de_74 tX10_refuse_5
def tX10_refuse_6 := Bt_1 (q := 6) tX10_refuse_5 rfl
theorem dX10_refuse_6 : decode cX10_refuse 6 = .ok (.dup2, 1) := de_5c tX10_refuse_6
def tX10_refuse_7 := Bt_1 (q := 7) tX10_refuse_6 rfl
theorem dX10_refuse_7 : decode cX10_refuse 7 = .ok (.iaload, 1) := de_2e tX10_refuse_7
def tX10_refuse_8 := Bt_1 (q := 8) tX10_refuse_7 rfl
theorem dX10_refuse_8 : decode cX10_refuse 8 = .ok (.iconst 1, 1) := de_04 tX10_refuse_8
def tX10_refuse_9 := Bt_1 (q := 9) tX10_refuse_8 rfl
theorem dX10_refuse_9 : decode cX10_refuse 9 = .ok (.iadd, 1) := de_60 tX10_refuse_9
def tX10_refuse_10 := Bt_1 (q := 10) tX10_refuse_9 rfl
theorem dX10_refuse_10 : decode cX10_refuse 10 = .ok (.iastore, 1) := de_4f tX10_refuse_10
def tX10_refuse_11 := Bt_1 (q := 11) tX10_refuse_10 rfl
theorem dX10_refuse_11 : decode cX10_refuse 11 = .ok (.iload_n 1, 1) := de_1b tX10_refuse_11
def tX10_refuse_12 := Bt_1 (q := 12) tX10_refuse_11 rfl
theorem dX10_refuse_12 : decode cX10_refuse 12 = .ok (.ireturn, 1) := de_ac tX10_refuse_12
def tX10_refuseFar_0 := Bt_0 cX10_refuseFar
theorem dX10_refuseFar_0 : decode cX10_refuseFar 0 = .ok (.aload_n 0, 1) := de_2a tX10_refuseFar_0
def tX10_refuseFar_1 := Bt_1 (q := 1) tX10_refuseFar_0 rfl
theorem dX10_refuseFar_1 : decode cX10_refuseFar 1 = .ok (.getfield 51, 3) := de_b4 tX10_refuseFar_1 (by decide +kernel)
def tX10_refuseFar_4 := Bt_3 (q := 4) tX10_refuseFar_1 rfl
theorem dX10_refuseFar_4 : decode cX10_refuseFar 4 = .ok (.iload_n 1, 1) := de_1b tX10_refuseFar_4
def tX10_refuseFar_5 := Bt_1 (q := 5) tX10_refuseFar_4 rfl
theorem dX10_refuseFar_5 : decode cX10_refuseFar 5 = .ok (.ineg, 1) := de_74 tX10_refuseFar_5
def tX10_refuseFar_6 := Bt_1 (q := 6) tX10_refuseFar_5 rfl
theorem dX10_refuseFar_6 : decode cX10_refuseFar 6 = .ok (.dup2, 1) := de_5c tX10_refuseFar_6
def tX10_refuseFar_7 := Bt_1 (q := 7) tX10_refuseFar_6 rfl
theorem dX10_refuseFar_7 : decode cX10_refuseFar 7 = .ok (.iaload, 1) := de_2e tX10_refuseFar_7
def tX10_refuseFar_8 := Bt_1 (q := 8) tX10_refuseFar_7 rfl
theorem dX10_refuseFar_8 : decode cX10_refuseFar 8 = .ok (.iconst 1, 1) := de_04 tX10_refuseFar_8
def tX10_refuseFar_9 := Bt_1 (q := 9) tX10_refuseFar_8 rfl
theorem dX10_refuseFar_9 : decode cX10_refuseFar 9 = .ok (.iadd, 1) := de_60 tX10_refuseFar_9
def tX10_refuseFar_10 := Bt_1 (q := 10) tX10_refuseFar_9 rfl
theorem dX10_refuseFar_10 : decode cX10_refuseFar 10 = .ok (.iastore, 1) := de_4f tX10_refuseFar_10
def tX10_refuseFar_11 := Bt_1 (q := 11) tX10_refuseFar_10 rfl
theorem dX10_refuseFar_11 : decode cX10_refuseFar 11 = .ok (.ldc2_w 142, 3) := de_14 tX10_refuseFar_11 (by decide +kernel)
def tX10_refuseFar_14 := Bt_3 (q := 14) tX10_refuseFar_11 rfl
theorem dX10_refuseFar_14 : decode cX10_refuseFar 14 = .ok (.iload_n 1, 1) := de_1b tX10_refuseFar_14
def tX10_refuseFar_15 := Bt_1 (q := 15) tX10_refuseFar_14 rfl
theorem dX10_refuseFar_15 : decode cX10_refuseFar 15 = .ok (.i2l, 1) := de_85 tX10_refuseFar_15
def tX10_refuseFar_16 := Bt_1 (q := 16) tX10_refuseFar_15 rfl
theorem dX10_refuseFar_16 : decode cX10_refuseFar 16 = .ok (.lsub, 1) := de_65 tX10_refuseFar_16
def tX10_refuseFar_17 := Bt_1 (q := 17) tX10_refuseFar_16 rfl
theorem dX10_refuseFar_17 : decode cX10_refuseFar 17 = .ok (.lreturn, 1) := de_ad tX10_refuseFar_17
def tX10_isBidder_0 := Bt_0 cX10_isBidder
theorem dX10_isBidder_0 : decode cX10_isBidder 0 = .ok (.iload_n 0, 1) := de_1a tX10_isBidder_0
def tX10_isBidder_1 := Bt_1 (q := 1) tX10_isBidder_0 rfl
theorem dX10_isBidder_1 : decode cX10_isBidder 1 = .ok (.iconst 0, 1) := de_03 tX10_isBidder_1
def tX10_isBidder_2 := Bt_1 (q := 2) tX10_isBidder_1 rfl
theorem dX10_isBidder_2 : decode cX10_isBidder 2 = .ok (.bipush 7, 2) := de_10 tX10_isBidder_2 (by decide +kernel)
def tX10_isBidder_4 := Bt_2 (q := 4) tX10_isBidder_2 rfl
theorem dX10_isBidder_4 : decode cX10_isBidder 4 = .ok (.invokestatic 144, 3) := de_b8 tX10_isBidder_4 (by decide +kernel)
def tX10_isBidder_7 := Bt_3 (q := 7) tX10_isBidder_4 rfl
theorem dX10_isBidder_7 : decode cX10_isBidder 7 = .ok (.ireturn, 1) := de_ac tX10_isBidder_7
def tX10_isLot_0 := Bt_0 cX10_isLot
theorem dX10_isLot_0 : decode cX10_isLot 0 = .ok (.iload_n 1, 1) := de_1b tX10_isLot_0
def tX10_isLot_1 := Bt_1 (q := 1) tX10_isLot_0 rfl
theorem dX10_isLot_1 : decode cX10_isLot 1 = .ok (.iconst 0, 1) := de_03 tX10_isLot_1
def tX10_isLot_2 := Bt_1 (q := 2) tX10_isLot_1 rfl
theorem dX10_isLot_2 : decode cX10_isLot 2 = .ok (.aload_n 0, 1) := de_2a tX10_isLot_2
def tX10_isLot_3 := Bt_1 (q := 3) tX10_isLot_2 rfl
theorem dX10_isLot_3 : decode cX10_isLot 3 = .ok (.getfield 17, 3) := de_b4 tX10_isLot_3 (by decide +kernel)
def tX10_isLot_6 := Bt_3 (q := 6) tX10_isLot_3 rfl
theorem dX10_isLot_6 : decode cX10_isLot 6 = .ok (.iconst 1, 1) := de_04 tX10_isLot_6
def tX10_isLot_7 := Bt_1 (q := 7) tX10_isLot_6 rfl
theorem dX10_isLot_7 : decode cX10_isLot 7 = .ok (.isub, 1) := de_64 tX10_isLot_7
def tX10_isLot_8 := Bt_1 (q := 8) tX10_isLot_7 rfl
theorem dX10_isLot_8 : decode cX10_isLot 8 = .ok (.invokestatic 144, 3) := de_b8 tX10_isLot_8 (by decide +kernel)
def tX10_isLot_11 := Bt_3 (q := 11) tX10_isLot_8 rfl
theorem dX10_isLot_11 : decode cX10_isLot 11 = .ok (.ireturn, 1) := de_ac tX10_isLot_11
def tX10_isOpen_0 := Bt_0 cX10_isOpen
theorem dX10_isOpen_0 : decode cX10_isOpen 0 = .ok (.aload_n 0, 1) := de_2a tX10_isOpen_0
def tX10_isOpen_1 := Bt_1 (q := 1) tX10_isOpen_0 rfl
theorem dX10_isOpen_1 : decode cX10_isOpen 1 = .ok (.getfield 7, 3) := de_b4 tX10_isOpen_1 (by decide +kernel)
def tX10_isOpen_4 := Bt_3 (q := 4) tX10_isOpen_1 rfl
theorem dX10_isOpen_4 : decode cX10_isOpen 4 = .ok (.ifCond .lt 14, 3) := de_9b tX10_isOpen_4 (by decide +kernel)
def tX10_isOpen_7 := Bt_3 (q := 7) tX10_isOpen_4 rfl
theorem dX10_isOpen_7 : decode cX10_isOpen 7 = .ok (.aload_n 0, 1) := de_2a tX10_isOpen_7
def tX10_isOpen_8 := Bt_1 (q := 8) tX10_isOpen_7 rfl
theorem dX10_isOpen_8 : decode cX10_isOpen 8 = .ok (.getfield 148, 3) := de_b4 tX10_isOpen_8 (by decide +kernel)
def tX10_isOpen_11 := Bt_3 (q := 11) tX10_isOpen_8 rfl
theorem dX10_isOpen_11 : decode cX10_isOpen 11 = .ok (.aload_n 0, 1) := de_2a tX10_isOpen_11
def tX10_isOpen_12 := Bt_1 (q := 12) tX10_isOpen_11 rfl
theorem dX10_isOpen_12 : decode cX10_isOpen 12 = .ok (.getfield 7, 3) := de_b4 tX10_isOpen_12 (by decide +kernel)
def tX10_isOpen_15 := Bt_3 (q := 15) tX10_isOpen_12 rfl
theorem dX10_isOpen_15 : decode cX10_isOpen 15 = .ok (.if_icmp .gt 7, 3) := de_a3 tX10_isOpen_15 (by decide +kernel)
def tX10_isOpen_18 := Bt_3 (q := 18) tX10_isOpen_15 rfl
theorem dX10_isOpen_18 : decode cX10_isOpen 18 = .ok (.iconst 1, 1) := de_04 tX10_isOpen_18
def tX10_isOpen_19 := Bt_1 (q := 19) tX10_isOpen_18 rfl
theorem dX10_isOpen_19 : decode cX10_isOpen 19 = .ok (.goto 4, 3) := de_a7 tX10_isOpen_19 (by decide +kernel)
def tX10_isOpen_22 := Bt_3 (q := 22) tX10_isOpen_19 rfl
theorem dX10_isOpen_22 : decode cX10_isOpen 22 = .ok (.iconst 0, 1) := de_03 tX10_isOpen_22
def tX10_isOpen_23 := Bt_1 (q := 23) tX10_isOpen_22 rfl
theorem dX10_isOpen_23 : decode cX10_isOpen 23 = .ok (.ireturn, 1) := de_ac tX10_isOpen_23
def tX10_time_0 := Bt_0 cX10_time
theorem dX10_time_0 : decode cX10_time 0 = .ok (.iload_n 1, 1) := de_1b tX10_time_0
def tX10_time_1 := Bt_1 (q := 1) tX10_time_0 rfl
theorem dX10_time_1 : decode cX10_time 1 = .ok (.iconst 1, 1) := de_04 tX10_time_1
def tX10_time_2 := Bt_1 (q := 2) tX10_time_1 rfl
theorem dX10_time_2 : decode cX10_time 2 = .ok (.if_icmp .ge 10, 3) := de_a2 tX10_time_2 (by decide +kernel)
def tX10_time_5 := Bt_3 (q := 5) tX10_time_2 rfl
theorem dX10_time_5 : decode cX10_time 5 = .ok (.aload_n 0, 1) := de_2a tX10_time_5
def tX10_time_6 := Bt_1 (q := 6) tX10_time_5 rfl
theorem dX10_time_6 : decode cX10_time 6 = .ok (.bipush (-4), 2) := de_10 tX10_time_6 (by decide +kernel)
def tX10_time_8 := Bt_2 (q := 8) tX10_time_6 rfl
theorem dX10_time_8 : decode cX10_time 8 = .ok (.invokevirtual 151, 3) := de_b6 tX10_time_8 (by decide +kernel)
def tX10_time_11 := Bt_3 (q := 11) tX10_time_8 rfl
theorem dX10_time_11 : decode cX10_time 11 = .ok (.ireturn, 1) := de_ac tX10_time_11
def tX10_time_12 := Bt_1 (q := 12) tX10_time_11 rfl
theorem dX10_time_12 : decode cX10_time 12 = .ok (.iload_n 1, 1) := de_1b tX10_time_12
def tX10_time_13 := Bt_1 (q := 13) tX10_time_12 rfl
theorem dX10_time_13 : decode cX10_time 13 = .ok (.ldc 155, 2) := de_12 tX10_time_13 (by decide +kernel)
def tX10_time_15 := Bt_2 (q := 15) tX10_time_13 rfl
theorem dX10_time_15 : decode cX10_time 15 = .ok (.aload_n 0, 1) := de_2a tX10_time_15
def tX10_time_16 := Bt_1 (q := 16) tX10_time_15 rfl
theorem dX10_time_16 : decode cX10_time 16 = .ok (.getfield 148, 3) := de_b4 tX10_time_16 (by decide +kernel)
def tX10_time_19 := Bt_3 (q := 19) tX10_time_16 rfl
theorem dX10_time_19 : decode cX10_time 19 = .ok (.isub, 1) := de_64 tX10_time_19
def tX10_time_20 := Bt_1 (q := 20) tX10_time_19 rfl
theorem dX10_time_20 : decode cX10_time 20 = .ok (.if_icmp .le 10, 3) := de_a4 tX10_time_20 (by decide +kernel)
def tX10_time_23 := Bt_3 (q := 23) tX10_time_20 rfl
theorem dX10_time_23 : decode cX10_time 23 = .ok (.aload_n 0, 1) := de_2a tX10_time_23
def tX10_time_24 := Bt_1 (q := 24) tX10_time_23 rfl
theorem dX10_time_24 : decode cX10_time 24 = .ok (.bipush (-6), 2) := de_10 tX10_time_24 (by decide +kernel)
def tX10_time_26 := Bt_2 (q := 26) tX10_time_24 rfl
theorem dX10_time_26 : decode cX10_time 26 = .ok (.invokevirtual 151, 3) := de_b6 tX10_time_26 (by decide +kernel)
def tX10_time_29 := Bt_3 (q := 29) tX10_time_26 rfl
theorem dX10_time_29 : decode cX10_time 29 = .ok (.ireturn, 1) := de_ac tX10_time_29
def tX10_time_30 := Bt_1 (q := 30) tX10_time_29 rfl
theorem dX10_time_30 : decode cX10_time 30 = .ok (.aload_n 0, 1) := de_2a tX10_time_30
def tX10_time_31 := Bt_1 (q := 31) tX10_time_30 rfl
theorem dX10_time_31 : decode cX10_time 31 = .ok (.dup, 1) := de_59 tX10_time_31
def tX10_time_32 := Bt_1 (q := 32) tX10_time_31 rfl
theorem dX10_time_32 : decode cX10_time 32 = .ok (.getfield 148, 3) := de_b4 tX10_time_32 (by decide +kernel)
def tX10_time_35 := Bt_3 (q := 35) tX10_time_32 rfl
theorem dX10_time_35 : decode cX10_time 35 = .ok (.iload_n 1, 1) := de_1b tX10_time_35
def tX10_time_36 := Bt_1 (q := 36) tX10_time_35 rfl
theorem dX10_time_36 : decode cX10_time 36 = .ok (.iadd, 1) := de_60 tX10_time_36
def tX10_time_37 := Bt_1 (q := 37) tX10_time_36 rfl
theorem dX10_time_37 : decode cX10_time 37 = .ok (.putfield 148, 3) := de_b5 tX10_time_37 (by decide +kernel)
def tX10_time_40 := Bt_3 (q := 40) tX10_time_37 rfl
theorem dX10_time_40 : decode cX10_time 40 = .ok (.aload_n 0, 1) := de_2a tX10_time_40
def tX10_time_41 := Bt_1 (q := 41) tX10_time_40 rfl
theorem dX10_time_41 : decode cX10_time 41 = .ok (.iconst 0, 1) := de_03 tX10_time_41
def tX10_time_42 := Bt_1 (q := 42) tX10_time_41 rfl
theorem dX10_time_42 : decode cX10_time 42 = .ok (.putfield 156, 3) := de_b5 tX10_time_42 (by decide +kernel)
def tX10_time_45 := Bt_3 (q := 45) tX10_time_42 rfl
theorem dX10_time_45 : decode cX10_time 45 = .ok (.aload_n 0, 1) := de_2a tX10_time_45
def tX10_time_46 := Bt_1 (q := 46) tX10_time_45 rfl
theorem dX10_time_46 : decode cX10_time 46 = .ok (.getfield 148, 3) := de_b4 tX10_time_46 (by decide +kernel)
def tX10_time_49 := Bt_3 (q := 49) tX10_time_46 rfl
theorem dX10_time_49 : decode cX10_time 49 = .ok (.ireturn, 1) := de_ac tX10_time_49
def tX10_rate_0 := Bt_0 cX10_rate
theorem dX10_rate_0 : decode cX10_rate 0 = .ok (.iload_n 1, 1) := de_1b tX10_rate_0
def tX10_rate_1 := Bt_1 (q := 1) tX10_rate_0 rfl
theorem dX10_rate_1 : decode cX10_rate 1 = .ok (.iconst 1, 1) := de_04 tX10_rate_1
def tX10_rate_2 := Bt_1 (q := 2) tX10_rate_1 rfl
theorem dX10_rate_2 : decode cX10_rate 2 = .ok (.iconst 3, 1) := de_06 tX10_rate_2
def tX10_rate_3 := Bt_1 (q := 3) tX10_rate_2 rfl
theorem dX10_rate_3 : decode cX10_rate 3 = .ok (.invokestatic 144, 3) := de_b8 tX10_rate_3 (by decide +kernel)
def tX10_rate_6 := Bt_3 (q := 6) tX10_rate_3 rfl
theorem dX10_rate_6 : decode cX10_rate 6 = .ok (.ifCond .ne 9, 3) := de_9a tX10_rate_6 (by decide +kernel)
def tX10_rate_9 := Bt_3 (q := 9) tX10_rate_6 rfl
theorem dX10_rate_9 : decode cX10_rate 9 = .ok (.aload_n 0, 1) := de_2a tX10_rate_9
def tX10_rate_10 := Bt_1 (q := 10) tX10_rate_9 rfl
theorem dX10_rate_10 : decode cX10_rate 10 = .ok (.iconst (-1), 1) := de_02 tX10_rate_10
def tX10_rate_11 := Bt_1 (q := 11) tX10_rate_10 rfl
theorem dX10_rate_11 : decode cX10_rate 11 = .ok (.invokevirtual 151, 3) := de_b6 tX10_rate_11 (by decide +kernel)
def tX10_rate_14 := Bt_3 (q := 14) tX10_rate_11 rfl
theorem dX10_rate_14 : decode cX10_rate 14 = .ok (.ireturn, 1) := de_ac tX10_rate_14
def tX10_rate_15 := Bt_1 (q := 15) tX10_rate_14 rfl
theorem dX10_rate_15 : decode cX10_rate 15 = .ok (.aload_n 0, 1) := de_2a tX10_rate_15
def tX10_rate_16 := Bt_1 (q := 16) tX10_rate_15 rfl
theorem dX10_rate_16 : decode cX10_rate 16 = .ok (.invokevirtual 160, 3) := de_b6 tX10_rate_16 (by decide +kernel)
def tX10_rate_19 := Bt_3 (q := 19) tX10_rate_16 rfl
theorem dX10_rate_19 : decode cX10_rate 19 = .ok (.ifCond .ne 10, 3) := de_9a tX10_rate_19 (by decide +kernel)
def tX10_rate_22 := Bt_3 (q := 22) tX10_rate_19 rfl
theorem dX10_rate_22 : decode cX10_rate 22 = .ok (.aload_n 0, 1) := de_2a tX10_rate_22
def tX10_rate_23 := Bt_1 (q := 23) tX10_rate_22 rfl
theorem dX10_rate_23 : decode cX10_rate 23 = .ok (.bipush (-3), 2) := de_10 tX10_rate_23 (by decide +kernel)
def tX10_rate_25 := Bt_2 (q := 25) tX10_rate_23 rfl
theorem dX10_rate_25 : decode cX10_rate 25 = .ok (.invokevirtual 151, 3) := de_b6 tX10_rate_25 (by decide +kernel)
def tX10_rate_28 := Bt_3 (q := 28) tX10_rate_25 rfl
theorem dX10_rate_28 : decode cX10_rate 28 = .ok (.ireturn, 1) := de_ac tX10_rate_28
def tX10_rate_29 := Bt_1 (q := 29) tX10_rate_28 rfl
theorem dX10_rate_29 : decode cX10_rate 29 = .ok (.iload_n 2, 1) := de_1c tX10_rate_29
def tX10_rate_30 := Bt_1 (q := 30) tX10_rate_29 rfl
theorem dX10_rate_30 : decode cX10_rate 30 = .ok (.iconst 1, 1) := de_04 tX10_rate_30
def tX10_rate_31 := Bt_1 (q := 31) tX10_rate_30 rfl
theorem dX10_rate_31 : decode cX10_rate 31 = .ok (.if_icmp .ge 10, 3) := de_a2 tX10_rate_31 (by decide +kernel)
def tX10_rate_34 := Bt_3 (q := 34) tX10_rate_31 rfl
theorem dX10_rate_34 : decode cX10_rate 34 = .ok (.aload_n 0, 1) := de_2a tX10_rate_34
def tX10_rate_35 := Bt_1 (q := 35) tX10_rate_34 rfl
theorem dX10_rate_35 : decode cX10_rate 35 = .ok (.bipush (-4), 2) := de_10 tX10_rate_35 (by decide +kernel)
def tX10_rate_37 := Bt_2 (q := 37) tX10_rate_35 rfl
theorem dX10_rate_37 : decode cX10_rate 37 = .ok (.invokevirtual 151, 3) := de_b6 tX10_rate_37 (by decide +kernel)
def tX10_rate_40 := Bt_3 (q := 40) tX10_rate_37 rfl
theorem dX10_rate_40 : decode cX10_rate 40 = .ok (.ireturn, 1) := de_ac tX10_rate_40
def tX10_rate_41 := Bt_1 (q := 41) tX10_rate_40 rfl
theorem dX10_rate_41 : decode cX10_rate 41 = .ok (.iload_n 2, 1) := de_1c tX10_rate_41
def tX10_rate_42 := Bt_1 (q := 42) tX10_rate_41 rfl
theorem dX10_rate_42 : decode cX10_rate 42 = .ok (.ldc 164, 2) := de_12 tX10_rate_42 (by decide +kernel)
def tX10_rate_44 := Bt_2 (q := 44) tX10_rate_42 rfl
theorem dX10_rate_44 : decode cX10_rate 44 = .ok (.if_icmp .le 10, 3) := de_a4 tX10_rate_44 (by decide +kernel)
def tX10_rate_47 := Bt_3 (q := 47) tX10_rate_44 rfl
theorem dX10_rate_47 : decode cX10_rate 47 = .ok (.aload_n 0, 1) := de_2a tX10_rate_47
def tX10_rate_48 := Bt_1 (q := 48) tX10_rate_47 rfl
theorem dX10_rate_48 : decode cX10_rate 48 = .ok (.bipush (-6), 2) := de_10 tX10_rate_48 (by decide +kernel)
def tX10_rate_50 := Bt_2 (q := 50) tX10_rate_48 rfl
theorem dX10_rate_50 : decode cX10_rate 50 = .ok (.invokevirtual 151, 3) := de_b6 tX10_rate_50 (by decide +kernel)
def tX10_rate_53 := Bt_3 (q := 53) tX10_rate_50 rfl
theorem dX10_rate_53 : decode cX10_rate 53 = .ok (.ireturn, 1) := de_ac tX10_rate_53
def tX10_rate_54 := Bt_1 (q := 54) tX10_rate_53 rfl
theorem dX10_rate_54 : decode cX10_rate 54 = .ok (.aload_n 0, 1) := de_2a tX10_rate_54
def tX10_rate_55 := Bt_1 (q := 55) tX10_rate_54 rfl
theorem dX10_rate_55 : decode cX10_rate 55 = .ok (.getfield 13, 3) := de_b4 tX10_rate_55 (by decide +kernel)
def tX10_rate_58 := Bt_3 (q := 58) tX10_rate_55 rfl
theorem dX10_rate_58 : decode cX10_rate 58 = .ok (.iload_n 1, 1) := de_1b tX10_rate_58
def tX10_rate_59 := Bt_1 (q := 59) tX10_rate_58 rfl
theorem dX10_rate_59 : decode cX10_rate 59 = .ok (.iaload, 1) := de_2e tX10_rate_59
def tX10_rate_60 := Bt_1 (q := 60) tX10_rate_59 rfl
theorem dX10_rate_60 : decode cX10_rate 60 = .ok (.istore_n 3, 1) := de_3e tX10_rate_60
def tX10_rate_61 := Bt_1 (q := 61) tX10_rate_60 rfl
theorem dX10_rate_61 : decode cX10_rate 61 = .ok (.aload_n 0, 1) := de_2a tX10_rate_61
def tX10_rate_62 := Bt_1 (q := 62) tX10_rate_61 rfl
theorem dX10_rate_62 : decode cX10_rate 62 = .ok (.getfield 13, 3) := de_b4 tX10_rate_62 (by decide +kernel)
def tX10_rate_65 := Bt_3 (q := 65) tX10_rate_62 rfl
theorem dX10_rate_65 : decode cX10_rate 65 = .ok (.iload_n 1, 1) := de_1b tX10_rate_65
def tX10_rate_66 := Bt_1 (q := 66) tX10_rate_65 rfl
theorem dX10_rate_66 : decode cX10_rate 66 = .ok (.iload_n 2, 1) := de_1c tX10_rate_66
def tX10_rate_67 := Bt_1 (q := 67) tX10_rate_66 rfl
theorem dX10_rate_67 : decode cX10_rate 67 = .ok (.iastore, 1) := de_4f tX10_rate_67
def tX10_rate_68 := Bt_1 (q := 68) tX10_rate_67 rfl
theorem dX10_rate_68 : decode cX10_rate 68 = .ok (.iload_n 3, 1) := de_1d tX10_rate_68
def tX10_rate_69 := Bt_1 (q := 69) tX10_rate_68 rfl
theorem dX10_rate_69 : decode cX10_rate 69 = .ok (.ireturn, 1) := de_ac tX10_rate_69
def tX10_lots_0 := Bt_0 cX10_lots
theorem dX10_lots_0 : decode cX10_lots 0 = .ok (.aload_n 0, 1) := de_2a tX10_lots_0
def tX10_lots_1 := Bt_1 (q := 1) tX10_lots_0 rfl
theorem dX10_lots_1 : decode cX10_lots 1 = .ok (.invokevirtual 160, 3) := de_b6 tX10_lots_1 (by decide +kernel)
def tX10_lots_4 := Bt_3 (q := 4) tX10_lots_1 rfl
theorem dX10_lots_4 : decode cX10_lots 4 = .ok (.ifCond .ne 10, 3) := de_9a tX10_lots_4 (by decide +kernel)
def tX10_lots_7 := Bt_3 (q := 7) tX10_lots_4 rfl
theorem dX10_lots_7 : decode cX10_lots 7 = .ok (.aload_n 0, 1) := de_2a tX10_lots_7
def tX10_lots_8 := Bt_1 (q := 8) tX10_lots_7 rfl
theorem dX10_lots_8 : decode cX10_lots 8 = .ok (.bipush (-3), 2) := de_10 tX10_lots_8 (by decide +kernel)
def tX10_lots_10 := Bt_2 (q := 10) tX10_lots_8 rfl
theorem dX10_lots_10 : decode cX10_lots 10 = .ok (.invokevirtual 151, 3) := de_b6 tX10_lots_10 (by decide +kernel)
def tX10_lots_13 := Bt_3 (q := 13) tX10_lots_10 rfl
theorem dX10_lots_13 : decode cX10_lots 13 = .ok (.ireturn, 1) := de_ac tX10_lots_13
def tX10_lots_14 := Bt_1 (q := 14) tX10_lots_13 rfl
theorem dX10_lots_14 : decode cX10_lots 14 = .ok (.iload_n 1, 1) := de_1b tX10_lots_14
def tX10_lots_15 := Bt_1 (q := 15) tX10_lots_14 rfl
theorem dX10_lots_15 : decode cX10_lots 15 = .ok (.iconst 1, 1) := de_04 tX10_lots_15
def tX10_lots_16 := Bt_1 (q := 16) tX10_lots_15 rfl
theorem dX10_lots_16 : decode cX10_lots 16 = .ok (.if_icmp .ge 10, 3) := de_a2 tX10_lots_16 (by decide +kernel)
def tX10_lots_19 := Bt_3 (q := 19) tX10_lots_16 rfl
theorem dX10_lots_19 : decode cX10_lots 19 = .ok (.aload_n 0, 1) := de_2a tX10_lots_19
def tX10_lots_20 := Bt_1 (q := 20) tX10_lots_19 rfl
theorem dX10_lots_20 : decode cX10_lots 20 = .ok (.bipush (-4), 2) := de_10 tX10_lots_20 (by decide +kernel)
def tX10_lots_22 := Bt_2 (q := 22) tX10_lots_20 rfl
theorem dX10_lots_22 : decode cX10_lots 22 = .ok (.invokevirtual 151, 3) := de_b6 tX10_lots_22 (by decide +kernel)
def tX10_lots_25 := Bt_3 (q := 25) tX10_lots_22 rfl
theorem dX10_lots_25 : decode cX10_lots 25 = .ok (.ireturn, 1) := de_ac tX10_lots_25
def tX10_lots_26 := Bt_1 (q := 26) tX10_lots_25 rfl
theorem dX10_lots_26 : decode cX10_lots 26 = .ok (.iload_n 1, 1) := de_1b tX10_lots_26
def tX10_lots_27 := Bt_1 (q := 27) tX10_lots_26 rfl
theorem dX10_lots_27 : decode cX10_lots 27 = .ok (.bipush 6, 2) := de_10 tX10_lots_27 (by decide +kernel)
def tX10_lots_29 := Bt_2 (q := 29) tX10_lots_27 rfl
theorem dX10_lots_29 : decode cX10_lots 29 = .ok (.if_icmp .le 10, 3) := de_a4 tX10_lots_29 (by decide +kernel)
def tX10_lots_32 := Bt_3 (q := 32) tX10_lots_29 rfl
theorem dX10_lots_32 : decode cX10_lots 32 = .ok (.aload_n 0, 1) := de_2a tX10_lots_32
def tX10_lots_33 := Bt_1 (q := 33) tX10_lots_32 rfl
theorem dX10_lots_33 : decode cX10_lots 33 = .ok (.bipush (-6), 2) := de_10 tX10_lots_33 (by decide +kernel)
def tX10_lots_35 := Bt_2 (q := 35) tX10_lots_33 rfl
theorem dX10_lots_35 : decode cX10_lots 35 = .ok (.invokevirtual 151, 3) := de_b6 tX10_lots_35 (by decide +kernel)
def tX10_lots_38 := Bt_3 (q := 38) tX10_lots_35 rfl
theorem dX10_lots_38 : decode cX10_lots 38 = .ok (.ireturn, 1) := de_ac tX10_lots_38
def tX10_lots_39 := Bt_1 (q := 39) tX10_lots_38 rfl
theorem dX10_lots_39 : decode cX10_lots 39 = .ok (.aload_n 0, 1) := de_2a tX10_lots_39
def tX10_lots_40 := Bt_1 (q := 40) tX10_lots_39 rfl
theorem dX10_lots_40 : decode cX10_lots 40 = .ok (.getfield 17, 3) := de_b4 tX10_lots_40 (by decide +kernel)
def tX10_lots_43 := Bt_3 (q := 43) tX10_lots_40 rfl
theorem dX10_lots_43 : decode cX10_lots 43 = .ok (.istore_n 2, 1) := de_3d tX10_lots_43
def tX10_lots_44 := Bt_1 (q := 44) tX10_lots_43 rfl
theorem dX10_lots_44 : decode cX10_lots 44 = .ok (.aload_n 0, 1) := de_2a tX10_lots_44
def tX10_lots_45 := Bt_1 (q := 45) tX10_lots_44 rfl
theorem dX10_lots_45 : decode cX10_lots 45 = .ok (.iload_n 1, 1) := de_1b tX10_lots_45
def tX10_lots_46 := Bt_1 (q := 46) tX10_lots_45 rfl
theorem dX10_lots_46 : decode cX10_lots 46 = .ok (.putfield 17, 3) := de_b5 tX10_lots_46 (by decide +kernel)
def tX10_lots_49 := Bt_3 (q := 49) tX10_lots_46 rfl
theorem dX10_lots_49 : decode cX10_lots 49 = .ok (.bipush 8, 2) := de_10 tX10_lots_49 (by decide +kernel)
def tX10_lots_51 := Bt_2 (q := 51) tX10_lots_49 rfl
theorem dX10_lots_51 : decode cX10_lots 51 = .ok (.iload_n 1, 1) := de_1b tX10_lots_51
def tX10_lots_52 := Bt_1 (q := 52) tX10_lots_51 rfl
theorem dX10_lots_52 : decode cX10_lots 52 = .ok (.imul, 1) := de_68 tX10_lots_52
def tX10_lots_53 := Bt_1 (q := 53) tX10_lots_52 rfl
theorem dX10_lots_53 : decode cX10_lots 53 = .ok (.istore_n 3, 1) := de_3e tX10_lots_53
def tX10_lots_54 := Bt_1 (q := 54) tX10_lots_53 rfl
theorem dX10_lots_54 : decode cX10_lots 54 = .ok (.iload_n 3, 1) := de_1d tX10_lots_54
def tX10_lots_55 := Bt_1 (q := 55) tX10_lots_54 rfl
theorem dX10_lots_55 : decode cX10_lots 55 = .ok (.bipush 48, 2) := de_10 tX10_lots_55 (by decide +kernel)
def tX10_lots_57 := Bt_2 (q := 57) tX10_lots_55 rfl
theorem dX10_lots_57 : decode cX10_lots 57 = .ok (.if_icmp .ge 23, 3) := de_a2 tX10_lots_57 (by decide +kernel)
def tX10_lots_60 := Bt_3 (q := 60) tX10_lots_57 rfl
theorem dX10_lots_60 : decode cX10_lots 60 = .ok (.aload_n 0, 1) := de_2a tX10_lots_60
def tX10_lots_61 := Bt_1 (q := 61) tX10_lots_60 rfl
theorem dX10_lots_61 : decode cX10_lots 61 = .ok (.getfield 20, 3) := de_b4 tX10_lots_61 (by decide +kernel)
def tX10_lots_64 := Bt_3 (q := 64) tX10_lots_61 rfl
theorem dX10_lots_64 : decode cX10_lots 64 = .ok (.iload_n 3, 1) := de_1d tX10_lots_64
def tX10_lots_65 := Bt_1 (q := 65) tX10_lots_64 rfl
theorem dX10_lots_65 : decode cX10_lots 65 = .ok (.iconst 0, 1) := de_03 tX10_lots_65
def tX10_lots_66 := Bt_1 (q := 66) tX10_lots_65 rfl
theorem dX10_lots_66 : decode cX10_lots 66 = .ok (.bastore, 1) := de_54 tX10_lots_66
def tX10_lots_67 := Bt_1 (q := 67) tX10_lots_66 rfl
theorem dX10_lots_67 : decode cX10_lots 67 = .ok (.aload_n 0, 1) := de_2a tX10_lots_67
def tX10_lots_68 := Bt_1 (q := 68) tX10_lots_67 rfl
theorem dX10_lots_68 : decode cX10_lots 68 = .ok (.getfield 39, 3) := de_b4 tX10_lots_68 (by decide +kernel)
def tX10_lots_71 := Bt_3 (q := 71) tX10_lots_68 rfl
theorem dX10_lots_71 : decode cX10_lots 71 = .ok (.iload_n 3, 1) := de_1d tX10_lots_71
def tX10_lots_72 := Bt_1 (q := 72) tX10_lots_71 rfl
theorem dX10_lots_72 : decode cX10_lots 72 = .ok (.iconst (-1), 1) := de_02 tX10_lots_72
def tX10_lots_73 := Bt_1 (q := 73) tX10_lots_72 rfl
theorem dX10_lots_73 : decode cX10_lots 73 = .ok (.iastore, 1) := de_4f tX10_lots_73
def tX10_lots_74 := Bt_1 (q := 74) tX10_lots_73 rfl
theorem dX10_lots_74 : decode cX10_lots 74 = .ok (.iinc 3 1, 3) := de_84 tX10_lots_74 (by decide +kernel) (by decide +kernel)
def tX10_lots_77 := Bt_3 (q := 77) tX10_lots_74 rfl
theorem dX10_lots_77 : decode cX10_lots 77 = .ok (.goto (-23), 3) := de_a7 tX10_lots_77 (by decide +kernel)
def tX10_lots_80 := Bt_3 (q := 80) tX10_lots_77 rfl
theorem dX10_lots_80 : decode cX10_lots 80 = .ok (.iload_n 2, 1) := de_1c tX10_lots_80
def tX10_lots_81 := Bt_1 (q := 81) tX10_lots_80 rfl
theorem dX10_lots_81 : decode cX10_lots 81 = .ok (.ireturn, 1) := de_ac tX10_lots_81
def tX10_closing_0 := Bt_0 cX10_closing
theorem dX10_closing_0 : decode cX10_closing 0 = .ok (.aload_n 0, 1) := de_2a tX10_closing_0
def tX10_closing_1 := Bt_1 (q := 1) tX10_closing_0 rfl
theorem dX10_closing_1 : decode cX10_closing 1 = .ok (.getfield 7, 3) := de_b4 tX10_closing_1 (by decide +kernel)
def tX10_closing_4 := Bt_3 (q := 4) tX10_closing_1 rfl
theorem dX10_closing_4 : decode cX10_closing 4 = .ok (.ifCond .lt 10, 3) := de_9b tX10_closing_4 (by decide +kernel)
def tX10_closing_7 := Bt_3 (q := 7) tX10_closing_4 rfl
theorem dX10_closing_7 : decode cX10_closing 7 = .ok (.aload_n 0, 1) := de_2a tX10_closing_7
def tX10_closing_8 := Bt_1 (q := 8) tX10_closing_7 rfl
theorem dX10_closing_8 : decode cX10_closing 8 = .ok (.bipush (-3), 2) := de_10 tX10_closing_8 (by decide +kernel)
def tX10_closing_10 := Bt_2 (q := 10) tX10_closing_8 rfl
theorem dX10_closing_10 : decode cX10_closing 10 = .ok (.invokevirtual 151, 3) := de_b6 tX10_closing_10 (by decide +kernel)
def tX10_closing_13 := Bt_3 (q := 13) tX10_closing_10 rfl
theorem dX10_closing_13 : decode cX10_closing 13 = .ok (.ireturn, 1) := de_ac tX10_closing_13
def tX10_closing_14 := Bt_1 (q := 14) tX10_closing_13 rfl
theorem dX10_closing_14 : decode cX10_closing 14 = .ok (.iload_n 1, 1) := de_1b tX10_closing_14
def tX10_closing_15 := Bt_1 (q := 15) tX10_closing_14 rfl
theorem dX10_closing_15 : decode cX10_closing 15 = .ok (.aload_n 0, 1) := de_2a tX10_closing_15
def tX10_closing_16 := Bt_1 (q := 16) tX10_closing_15 rfl
theorem dX10_closing_16 : decode cX10_closing 16 = .ok (.getfield 148, 3) := de_b4 tX10_closing_16 (by decide +kernel)
def tX10_closing_19 := Bt_3 (q := 19) tX10_closing_16 rfl
theorem dX10_closing_19 : decode cX10_closing 19 = .ok (.if_icmp .ge 10, 3) := de_a2 tX10_closing_19 (by decide +kernel)
def tX10_closing_22 := Bt_3 (q := 22) tX10_closing_19 rfl
theorem dX10_closing_22 : decode cX10_closing 22 = .ok (.aload_n 0, 1) := de_2a tX10_closing_22
def tX10_closing_23 := Bt_1 (q := 23) tX10_closing_22 rfl
theorem dX10_closing_23 : decode cX10_closing 23 = .ok (.bipush (-4), 2) := de_10 tX10_closing_23 (by decide +kernel)
def tX10_closing_25 := Bt_2 (q := 25) tX10_closing_23 rfl
theorem dX10_closing_25 : decode cX10_closing 25 = .ok (.invokevirtual 151, 3) := de_b6 tX10_closing_25 (by decide +kernel)
def tX10_closing_28 := Bt_3 (q := 28) tX10_closing_25 rfl
theorem dX10_closing_28 : decode cX10_closing 28 = .ok (.ireturn, 1) := de_ac tX10_closing_28
def tX10_closing_29 := Bt_1 (q := 29) tX10_closing_28 rfl
theorem dX10_closing_29 : decode cX10_closing 29 = .ok (.iload_n 1, 1) := de_1b tX10_closing_29
def tX10_closing_30 := Bt_1 (q := 30) tX10_closing_29 rfl
theorem dX10_closing_30 : decode cX10_closing 30 = .ok (.ldc 155, 2) := de_12 tX10_closing_30 (by decide +kernel)
def tX10_closing_32 := Bt_2 (q := 32) tX10_closing_30 rfl
theorem dX10_closing_32 : decode cX10_closing 32 = .ok (.if_icmp .le 10, 3) := de_a4 tX10_closing_32 (by decide +kernel)
def tX10_closing_35 := Bt_3 (q := 35) tX10_closing_32 rfl
theorem dX10_closing_35 : decode cX10_closing 35 = .ok (.aload_n 0, 1) := de_2a tX10_closing_35
def tX10_closing_36 := Bt_1 (q := 36) tX10_closing_35 rfl
theorem dX10_closing_36 : decode cX10_closing 36 = .ok (.bipush (-6), 2) := de_10 tX10_closing_36 (by decide +kernel)
def tX10_closing_38 := Bt_2 (q := 38) tX10_closing_36 rfl
theorem dX10_closing_38 : decode cX10_closing 38 = .ok (.invokevirtual 151, 3) := de_b6 tX10_closing_38 (by decide +kernel)
def tX10_closing_41 := Bt_3 (q := 41) tX10_closing_38 rfl
theorem dX10_closing_41 : decode cX10_closing 41 = .ok (.ireturn, 1) := de_ac tX10_closing_41
def tX10_closing_42 := Bt_1 (q := 42) tX10_closing_41 rfl
theorem dX10_closing_42 : decode cX10_closing 42 = .ok (.aload_n 0, 1) := de_2a tX10_closing_42
def tX10_closing_43 := Bt_1 (q := 43) tX10_closing_42 rfl
theorem dX10_closing_43 : decode cX10_closing 43 = .ok (.iload_n 1, 1) := de_1b tX10_closing_43
def tX10_closing_44 := Bt_1 (q := 44) tX10_closing_43 rfl
theorem dX10_closing_44 : decode cX10_closing 44 = .ok (.putfield 7, 3) := de_b5 tX10_closing_44 (by decide +kernel)
def tX10_closing_47 := Bt_3 (q := 47) tX10_closing_44 rfl
theorem dX10_closing_47 : decode cX10_closing 47 = .ok (.iconst 1, 1) := de_04 tX10_closing_47
def tX10_closing_48 := Bt_1 (q := 48) tX10_closing_47 rfl
theorem dX10_closing_48 : decode cX10_closing 48 = .ok (.ireturn, 1) := de_ac tX10_closing_48
def tX10_wrongBid_0 := Bt_0 cX10_wrongBid
theorem dX10_wrongBid_0 : decode cX10_wrongBid 0 = .ok (.iload_n 1, 1) := de_1b tX10_wrongBid_0
def tX10_wrongBid_1 := Bt_1 (q := 1) tX10_wrongBid_0 rfl
theorem dX10_wrongBid_1 : decode cX10_wrongBid 1 = .ok (.iconst 0, 1) := de_03 tX10_wrongBid_1
def tX10_wrongBid_2 := Bt_1 (q := 2) tX10_wrongBid_1 rfl
theorem dX10_wrongBid_2 : decode cX10_wrongBid 2 = .ok (.iconst 3, 1) := de_06 tX10_wrongBid_2
def tX10_wrongBid_3 := Bt_1 (q := 3) tX10_wrongBid_2 rfl
theorem dX10_wrongBid_3 : decode cX10_wrongBid 3 = .ok (.invokestatic 144, 3) := de_b8 tX10_wrongBid_3 (by decide +kernel)
def tX10_wrongBid_6 := Bt_3 (q := 6) tX10_wrongBid_3 rfl
theorem dX10_wrongBid_6 : decode cX10_wrongBid 6 = .ok (.ifCond .ne 5, 3) := de_9a tX10_wrongBid_6 (by decide +kernel)
def tX10_wrongBid_9 := Bt_3 (q := 9) tX10_wrongBid_6 rfl
theorem dX10_wrongBid_9 : decode cX10_wrongBid 9 = .ok (.iconst (-1), 1) := de_02 tX10_wrongBid_9
def tX10_wrongBid_10 := Bt_1 (q := 10) tX10_wrongBid_9 rfl
theorem dX10_wrongBid_10 : decode cX10_wrongBid 10 = .ok (.ireturn, 1) := de_ac tX10_wrongBid_10
def tX10_wrongBid_11 := Bt_1 (q := 11) tX10_wrongBid_10 rfl
theorem dX10_wrongBid_11 : decode cX10_wrongBid 11 = .ok (.iload_n 2, 1) := de_1c tX10_wrongBid_11
def tX10_wrongBid_12 := Bt_1 (q := 12) tX10_wrongBid_11 rfl
theorem dX10_wrongBid_12 : decode cX10_wrongBid 12 = .ok (.ifCond .lt 27, 3) := de_9b tX10_wrongBid_12 (by decide +kernel)
def tX10_wrongBid_15 := Bt_3 (q := 15) tX10_wrongBid_12 rfl
theorem dX10_wrongBid_15 : decode cX10_wrongBid 15 = .ok (.iload_n 3, 1) := de_1d tX10_wrongBid_15
def tX10_wrongBid_16 := Bt_1 (q := 16) tX10_wrongBid_15 rfl
theorem dX10_wrongBid_16 : decode cX10_wrongBid 16 = .ok (.ifCond .lt 23, 3) := de_9b tX10_wrongBid_16 (by decide +kernel)
def tX10_wrongBid_19 := Bt_3 (q := 19) tX10_wrongBid_16 rfl
theorem dX10_wrongBid_19 : decode cX10_wrongBid 19 = .ok (.iload 4, 2) := de_15 tX10_wrongBid_19 (by decide +kernel)
def tX10_wrongBid_21 := Bt_2 (q := 21) tX10_wrongBid_19 rfl
theorem dX10_wrongBid_21 : decode cX10_wrongBid 21 = .ok (.ifCond .lt 18, 3) := de_9b tX10_wrongBid_21 (by decide +kernel)
def tX10_wrongBid_24 := Bt_3 (q := 24) tX10_wrongBid_21 rfl
theorem dX10_wrongBid_24 : decode cX10_wrongBid 24 = .ok (.iload 5, 2) := de_15 tX10_wrongBid_24 (by decide +kernel)
def tX10_wrongBid_26 := Bt_2 (q := 26) tX10_wrongBid_24 rfl
theorem dX10_wrongBid_26 : decode cX10_wrongBid 26 = .ok (.ifCond .lt 13, 3) := de_9b tX10_wrongBid_26 (by decide +kernel)
def tX10_wrongBid_29 := Bt_3 (q := 29) tX10_wrongBid_26 rfl
theorem dX10_wrongBid_29 : decode cX10_wrongBid 29 = .ok (.iload 6, 2) := de_15 tX10_wrongBid_29 (by decide +kernel)
def tX10_wrongBid_31 := Bt_2 (q := 31) tX10_wrongBid_29 rfl
theorem dX10_wrongBid_31 : decode cX10_wrongBid 31 = .ok (.ifCond .lt 8, 3) := de_9b tX10_wrongBid_31 (by decide +kernel)
def tX10_wrongBid_34 := Bt_3 (q := 34) tX10_wrongBid_31 rfl
theorem dX10_wrongBid_34 : decode cX10_wrongBid 34 = .ok (.iload 7, 2) := de_15 tX10_wrongBid_34 (by decide +kernel)
def tX10_wrongBid_36 := Bt_2 (q := 36) tX10_wrongBid_34 rfl
theorem dX10_wrongBid_36 : decode cX10_wrongBid 36 = .ok (.ifCond .ge 6, 3) := de_9c tX10_wrongBid_36 (by decide +kernel)
def tX10_wrongBid_39 := Bt_3 (q := 39) tX10_wrongBid_36 rfl
theorem dX10_wrongBid_39 : decode cX10_wrongBid 39 = .ok (.bipush (-4), 2) := de_10 tX10_wrongBid_39 (by decide +kernel)
def tX10_wrongBid_41 := Bt_2 (q := 41) tX10_wrongBid_39 rfl
theorem dX10_wrongBid_41 : decode cX10_wrongBid 41 = .ok (.ireturn, 1) := de_ac tX10_wrongBid_41
def tX10_wrongBid_42 := Bt_1 (q := 42) tX10_wrongBid_41 rfl
theorem dX10_wrongBid_42 : decode cX10_wrongBid 42 = .ok (.iload_n 2, 1) := de_1c tX10_wrongBid_42
def tX10_wrongBid_43 := Bt_1 (q := 43) tX10_wrongBid_42 rfl
theorem dX10_wrongBid_43 : decode cX10_wrongBid 43 = .ok (.ldc 165, 2) := de_12 tX10_wrongBid_43 (by decide +kernel)
def tX10_wrongBid_45 := Bt_2 (q := 45) tX10_wrongBid_43 rfl
theorem dX10_wrongBid_45 : decode cX10_wrongBid 45 = .ok (.if_icmp .gt 37, 3) := de_a3 tX10_wrongBid_45 (by decide +kernel)
def tX10_wrongBid_48 := Bt_3 (q := 48) tX10_wrongBid_45 rfl
theorem dX10_wrongBid_48 : decode cX10_wrongBid 48 = .ok (.iload_n 3, 1) := de_1d tX10_wrongBid_48
def tX10_wrongBid_49 := Bt_1 (q := 49) tX10_wrongBid_48 rfl
theorem dX10_wrongBid_49 : decode cX10_wrongBid 49 = .ok (.ldc 165, 2) := de_12 tX10_wrongBid_49 (by decide +kernel)
def tX10_wrongBid_51 := Bt_2 (q := 51) tX10_wrongBid_49 rfl
theorem dX10_wrongBid_51 : decode cX10_wrongBid 51 = .ok (.if_icmp .gt 31, 3) := de_a3 tX10_wrongBid_51 (by decide +kernel)
def tX10_wrongBid_54 := Bt_3 (q := 54) tX10_wrongBid_51 rfl
theorem dX10_wrongBid_54 : decode cX10_wrongBid 54 = .ok (.iload 4, 2) := de_15 tX10_wrongBid_54 (by decide +kernel)
def tX10_wrongBid_56 := Bt_2 (q := 56) tX10_wrongBid_54 rfl
theorem dX10_wrongBid_56 : decode cX10_wrongBid 56 = .ok (.ldc 165, 2) := de_12 tX10_wrongBid_56 (by decide +kernel)
def tX10_wrongBid_58 := Bt_2 (q := 58) tX10_wrongBid_56 rfl
theorem dX10_wrongBid_58 : decode cX10_wrongBid 58 = .ok (.if_icmp .gt 24, 3) := de_a3 tX10_wrongBid_58 (by decide +kernel)
def tX10_wrongBid_61 := Bt_3 (q := 61) tX10_wrongBid_58 rfl
theorem dX10_wrongBid_61 : decode cX10_wrongBid 61 = .ok (.iload 5, 2) := de_15 tX10_wrongBid_61 (by decide +kernel)
def tX10_wrongBid_63 := Bt_2 (q := 63) tX10_wrongBid_61 rfl
theorem dX10_wrongBid_63 : decode cX10_wrongBid 63 = .ok (.ldc 165, 2) := de_12 tX10_wrongBid_63 (by decide +kernel)
def tX10_wrongBid_65 := Bt_2 (q := 65) tX10_wrongBid_63 rfl
theorem dX10_wrongBid_65 : decode cX10_wrongBid 65 = .ok (.if_icmp .gt 17, 3) := de_a3 tX10_wrongBid_65 (by decide +kernel)
def tX10_wrongBid_68 := Bt_3 (q := 68) tX10_wrongBid_65 rfl
theorem dX10_wrongBid_68 : decode cX10_wrongBid 68 = .ok (.iload 6, 2) := de_15 tX10_wrongBid_68 (by decide +kernel)
def tX10_wrongBid_70 := Bt_2 (q := 70) tX10_wrongBid_68 rfl
theorem dX10_wrongBid_70 : decode cX10_wrongBid 70 = .ok (.ldc 155, 2) := de_12 tX10_wrongBid_70 (by decide +kernel)
def tX10_wrongBid_72 := Bt_2 (q := 72) tX10_wrongBid_70 rfl
theorem dX10_wrongBid_72 : decode cX10_wrongBid 72 = .ok (.if_icmp .gt 10, 3) := de_a3 tX10_wrongBid_72 (by decide +kernel)
def tX10_wrongBid_75 := Bt_3 (q := 75) tX10_wrongBid_72 rfl
theorem dX10_wrongBid_75 : decode cX10_wrongBid 75 = .ok (.iload 7, 2) := de_15 tX10_wrongBid_75 (by decide +kernel)
def tX10_wrongBid_77 := Bt_2 (q := 77) tX10_wrongBid_75 rfl
theorem dX10_wrongBid_77 : decode cX10_wrongBid 77 = .ok (.ldc 165, 2) := de_12 tX10_wrongBid_77 (by decide +kernel)
def tX10_wrongBid_79 := Bt_2 (q := 79) tX10_wrongBid_77 rfl
theorem dX10_wrongBid_79 : decode cX10_wrongBid 79 = .ok (.if_icmp .le 8, 3) := de_a4 tX10_wrongBid_79 (by decide +kernel)
def tX10_wrongBid_82 := Bt_3 (q := 82) tX10_wrongBid_79 rfl
theorem dX10_wrongBid_82 : decode cX10_wrongBid 82 = .ok (.bipush (-6), 2) := de_10 tX10_wrongBid_82 (by decide +kernel)
def tX10_wrongBid_84 := Bt_2 (q := 84) tX10_wrongBid_82 rfl
theorem dX10_wrongBid_84 : decode cX10_wrongBid 84 = .ok (.goto 4, 3) := de_a7 tX10_wrongBid_84 (by decide +kernel)
def tX10_wrongBid_87 := Bt_3 (q := 87) tX10_wrongBid_84 rfl
theorem dX10_wrongBid_87 : decode cX10_wrongBid 87 = .ok (.iconst 0, 1) := de_03 tX10_wrongBid_87
def tX10_wrongBid_88 := Bt_1 (q := 88) tX10_wrongBid_87 rfl
theorem dX10_wrongBid_88 : decode cX10_wrongBid 88 = .ok (.ireturn, 1) := de_ac tX10_wrongBid_88
def tX10_bid_0 := Bt_0 cX10_bid
theorem dX10_bid_0 : decode cX10_bid 0 = .ok (.iload_n 1, 1) := de_1b tX10_bid_0
def tX10_bid_1 := Bt_1 (q := 1) tX10_bid_0 rfl
theorem dX10_bid_1 : decode cX10_bid 1 = .ok (.invokestatic 166, 3) := de_b8 tX10_bid_1 (by decide +kernel)
def tX10_bid_4 := Bt_3 (q := 4) tX10_bid_1 rfl
theorem dX10_bid_4 : decode cX10_bid 4 = .ok (.ifCond .eq 11, 3) := de_99 tX10_bid_4 (by decide +kernel)
def tX10_bid_7 := Bt_3 (q := 7) tX10_bid_4 rfl
theorem dX10_bid_7 : decode cX10_bid 7 = .ok (.aload_n 0, 1) := de_2a tX10_bid_7
def tX10_bid_8 := Bt_1 (q := 8) tX10_bid_7 rfl
theorem dX10_bid_8 : decode cX10_bid 8 = .ok (.iload_n 2, 1) := de_1c tX10_bid_8
def tX10_bid_9 := Bt_1 (q := 9) tX10_bid_8 rfl
theorem dX10_bid_9 : decode cX10_bid 9 = .ok (.invokevirtual 170, 3) := de_b6 tX10_bid_9 (by decide +kernel)
def tX10_bid_12 := Bt_3 (q := 12) tX10_bid_9 rfl
theorem dX10_bid_12 : decode cX10_bid 12 = .ok (.ifCond .ne 7, 3) := de_9a tX10_bid_12 (by decide +kernel)
def tX10_bid_15 := Bt_3 (q := 15) tX10_bid_12 rfl
theorem dX10_bid_15 : decode cX10_bid 15 = .ok (.iconst (-1), 1) := de_02 tX10_bid_15
def tX10_bid_16 := Bt_1 (q := 16) tX10_bid_15 rfl
theorem dX10_bid_16 : decode cX10_bid 16 = .ok (.goto 20, 3) := de_a7 tX10_bid_16 (by decide +kernel)
def tX10_bid_19 := Bt_3 (q := 19) tX10_bid_16 rfl
theorem dX10_bid_19 : decode cX10_bid 19 = .ok (.aload_n 0, 1) := de_2a tX10_bid_19
def tX10_bid_20 := Bt_1 (q := 20) tX10_bid_19 rfl
theorem dX10_bid_20 : decode cX10_bid 20 = .ok (.iload_n 3, 1) := de_1d tX10_bid_20
def tX10_bid_21 := Bt_1 (q := 21) tX10_bid_20 rfl
theorem dX10_bid_21 : decode cX10_bid 21 = .ok (.iload 4, 2) := de_15 tX10_bid_21 (by decide +kernel)
def tX10_bid_23 := Bt_2 (q := 23) tX10_bid_21 rfl
theorem dX10_bid_23 : decode cX10_bid 23 = .ok (.iload 5, 2) := de_15 tX10_bid_23 (by decide +kernel)
def tX10_bid_25 := Bt_2 (q := 25) tX10_bid_23 rfl
theorem dX10_bid_25 : decode cX10_bid 25 = .ok (.iload 6, 2) := de_15 tX10_bid_25 (by decide +kernel)
def tX10_bid_27 := Bt_2 (q := 27) tX10_bid_25 rfl
theorem dX10_bid_27 : decode cX10_bid 27 = .ok (.iload 7, 2) := de_15 tX10_bid_27 (by decide +kernel)
def tX10_bid_29 := Bt_2 (q := 29) tX10_bid_27 rfl
theorem dX10_bid_29 : decode cX10_bid 29 = .ok (.iload 8, 2) := de_15 tX10_bid_29 (by decide +kernel)
def tX10_bid_31 := Bt_2 (q := 31) tX10_bid_29 rfl
theorem dX10_bid_31 : decode cX10_bid 31 = .ok (.iload 9, 2) := de_15 tX10_bid_31 (by decide +kernel)
def tX10_bid_33 := Bt_2 (q := 33) tX10_bid_31 rfl
theorem dX10_bid_33 : decode cX10_bid 33 = .ok (.invokevirtual 173, 3) := de_b6 tX10_bid_33 (by decide +kernel)
def tX10_bid_36 := Bt_3 (q := 36) tX10_bid_33 rfl
theorem dX10_bid_36 : decode cX10_bid 36 = .ok (.istore 10, 2) := de_36 tX10_bid_36 (by decide +kernel)
def tX10_bid_38 := Bt_2 (q := 38) tX10_bid_36 rfl
theorem dX10_bid_38 : decode cX10_bid 38 = .ok (.iload 10, 2) := de_15 tX10_bid_38 (by decide +kernel)
def tX10_bid_40 := Bt_2 (q := 40) tX10_bid_38 rfl
theorem dX10_bid_40 : decode cX10_bid 40 = .ok (.ifCond .ge 10, 3) := de_9c tX10_bid_40 (by decide +kernel)
def tX10_bid_43 := Bt_3 (q := 43) tX10_bid_40 rfl
theorem dX10_bid_43 : decode cX10_bid 43 = .ok (.aload_n 0, 1) := de_2a tX10_bid_43
def tX10_bid_44 := Bt_1 (q := 44) tX10_bid_43 rfl
theorem dX10_bid_44 : decode cX10_bid 44 = .ok (.iload 10, 2) := de_15 tX10_bid_44 (by decide +kernel)
def tX10_bid_46 := Bt_2 (q := 46) tX10_bid_44 rfl
theorem dX10_bid_46 : decode cX10_bid 46 = .ok (.invokevirtual 151, 3) := de_b6 tX10_bid_46 (by decide +kernel)
def tX10_bid_49 := Bt_3 (q := 49) tX10_bid_46 rfl
theorem dX10_bid_49 : decode cX10_bid 49 = .ok (.ireturn, 1) := de_ac tX10_bid_49
def tX10_bid_50 := Bt_1 (q := 50) tX10_bid_49 rfl
theorem dX10_bid_50 : decode cX10_bid 50 = .ok (.aload_n 0, 1) := de_2a tX10_bid_50
def tX10_bid_51 := Bt_1 (q := 51) tX10_bid_50 rfl
theorem dX10_bid_51 : decode cX10_bid 51 = .ok (.invokevirtual 160, 3) := de_b6 tX10_bid_51 (by decide +kernel)
def tX10_bid_54 := Bt_3 (q := 54) tX10_bid_51 rfl
theorem dX10_bid_54 : decode cX10_bid 54 = .ok (.ifCond .ne 16, 3) := de_9a tX10_bid_54 (by decide +kernel)
def tX10_bid_57 := Bt_3 (q := 57) tX10_bid_54 rfl
theorem dX10_bid_57 : decode cX10_bid 57 = .ok (.aload_n 0, 1) := de_2a tX10_bid_57
def tX10_bid_58 := Bt_1 (q := 58) tX10_bid_57 rfl
theorem dX10_bid_58 : decode cX10_bid 58 = .ok (.dup, 1) := de_59 tX10_bid_58
def tX10_bid_59 := Bt_1 (q := 59) tX10_bid_58 rfl
theorem dX10_bid_59 : decode cX10_bid 59 = .ok (.getfield 177, 3) := de_b4 tX10_bid_59 (by decide +kernel)
def tX10_bid_62 := Bt_3 (q := 62) tX10_bid_59 rfl
theorem dX10_bid_62 : decode cX10_bid 62 = .ok (.iconst 1, 1) := de_04 tX10_bid_62
def tX10_bid_63 := Bt_1 (q := 63) tX10_bid_62 rfl
theorem dX10_bid_63 : decode cX10_bid 63 = .ok (.iadd, 1) := de_60 tX10_bid_63
def tX10_bid_64 := Bt_1 (q := 64) tX10_bid_63 rfl
theorem dX10_bid_64 : decode cX10_bid 64 = .ok (.putfield 177, 3) := de_b5 tX10_bid_64 (by decide +kernel)
def tX10_bid_67 := Bt_3 (q := 67) tX10_bid_64 rfl
theorem dX10_bid_67 : decode cX10_bid 67 = .ok (.bipush (-9), 2) := de_10 tX10_bid_67 (by decide +kernel)
def tX10_bid_69 := Bt_2 (q := 69) tX10_bid_67 rfl
theorem dX10_bid_69 : decode cX10_bid 69 = .ok (.ireturn, 1) := de_ac tX10_bid_69
def tX10_bid_70 := Bt_1 (q := 70) tX10_bid_69 rfl
theorem dX10_bid_70 : decode cX10_bid 70 = .ok (.bipush 8, 2) := de_10 tX10_bid_70 (by decide +kernel)
def tX10_bid_72 := Bt_2 (q := 72) tX10_bid_70 rfl
theorem dX10_bid_72 : decode cX10_bid 72 = .ok (.iload_n 2, 1) := de_1c tX10_bid_72
def tX10_bid_73 := Bt_1 (q := 73) tX10_bid_72 rfl
theorem dX10_bid_73 : decode cX10_bid 73 = .ok (.imul, 1) := de_68 tX10_bid_73
def tX10_bid_74 := Bt_1 (q := 74) tX10_bid_73 rfl
theorem dX10_bid_74 : decode cX10_bid 74 = .ok (.iload_n 1, 1) := de_1b tX10_bid_74
def tX10_bid_75 := Bt_1 (q := 75) tX10_bid_74 rfl
theorem dX10_bid_75 : decode cX10_bid 75 = .ok (.iadd, 1) := de_60 tX10_bid_75
def tX10_bid_76 := Bt_1 (q := 76) tX10_bid_75 rfl
theorem dX10_bid_76 : decode cX10_bid 76 = .ok (.istore 11, 2) := de_36 tX10_bid_76 (by decide +kernel)
def tX10_bid_78 := Bt_2 (q := 78) tX10_bid_76 rfl
theorem dX10_bid_78 : decode cX10_bid 78 = .ok (.aload_n 0, 1) := de_2a tX10_bid_78
def tX10_bid_79 := Bt_1 (q := 79) tX10_bid_78 rfl
theorem dX10_bid_79 : decode cX10_bid 79 = .ok (.getfield 20, 3) := de_b4 tX10_bid_79 (by decide +kernel)
def tX10_bid_82 := Bt_3 (q := 82) tX10_bid_79 rfl
theorem dX10_bid_82 : decode cX10_bid 82 = .ok (.iload 11, 2) := de_15 tX10_bid_82 (by decide +kernel)
def tX10_bid_84 := Bt_2 (q := 84) tX10_bid_82 rfl
theorem dX10_bid_84 : decode cX10_bid 84 = .ok (.baload, 1) := de_33 tX10_bid_84
def tX10_bid_85 := Bt_1 (q := 85) tX10_bid_84 rfl
theorem dX10_bid_85 : decode cX10_bid 85 = .ok (.istore 12, 2) := de_36 tX10_bid_85 (by decide +kernel)
def tX10_bid_87 := Bt_2 (q := 87) tX10_bid_85 rfl
theorem dX10_bid_87 : decode cX10_bid 87 = .ok (.aload_n 0, 1) := de_2a tX10_bid_87
def tX10_bid_88 := Bt_1 (q := 88) tX10_bid_87 rfl
theorem dX10_bid_88 : decode cX10_bid 88 = .ok (.getfield 20, 3) := de_b4 tX10_bid_88 (by decide +kernel)
def tX10_bid_91 := Bt_3 (q := 91) tX10_bid_88 rfl
theorem dX10_bid_91 : decode cX10_bid 91 = .ok (.iload 11, 2) := de_15 tX10_bid_91 (by decide +kernel)
def tX10_bid_93 := Bt_2 (q := 93) tX10_bid_91 rfl
theorem dX10_bid_93 : decode cX10_bid 93 = .ok (.iconst 1, 1) := de_04 tX10_bid_93
def tX10_bid_94 := Bt_1 (q := 94) tX10_bid_93 rfl
theorem dX10_bid_94 : decode cX10_bid 94 = .ok (.bastore, 1) := de_54 tX10_bid_94
def tX10_bid_95 := Bt_1 (q := 95) tX10_bid_94 rfl
theorem dX10_bid_95 : decode cX10_bid 95 = .ok (.aload_n 0, 1) := de_2a tX10_bid_95
def tX10_bid_96 := Bt_1 (q := 96) tX10_bid_95 rfl
theorem dX10_bid_96 : decode cX10_bid 96 = .ok (.getfield 39, 3) := de_b4 tX10_bid_96 (by decide +kernel)
def tX10_bid_99 := Bt_3 (q := 99) tX10_bid_96 rfl
theorem dX10_bid_99 : decode cX10_bid 99 = .ok (.iload 11, 2) := de_15 tX10_bid_99 (by decide +kernel)
def tX10_bid_101 := Bt_2 (q := 101) tX10_bid_99 rfl
theorem dX10_bid_101 : decode cX10_bid 101 = .ok (.iconst (-1), 1) := de_02 tX10_bid_101
def tX10_bid_102 := Bt_1 (q := 102) tX10_bid_101 rfl
theorem dX10_bid_102 : decode cX10_bid 102 = .ok (.iastore, 1) := de_4f tX10_bid_102
def tX10_bid_103 := Bt_1 (q := 103) tX10_bid_102 rfl
theorem dX10_bid_103 : decode cX10_bid 103 = .ok (.aload_n 0, 1) := de_2a tX10_bid_103
def tX10_bid_104 := Bt_1 (q := 104) tX10_bid_103 rfl
theorem dX10_bid_104 : decode cX10_bid 104 = .ok (.getfield 24, 3) := de_b4 tX10_bid_104 (by decide +kernel)
def tX10_bid_107 := Bt_3 (q := 107) tX10_bid_104 rfl
theorem dX10_bid_107 : decode cX10_bid 107 = .ok (.iload 11, 2) := de_15 tX10_bid_107 (by decide +kernel)
def tX10_bid_109 := Bt_2 (q := 109) tX10_bid_107 rfl
theorem dX10_bid_109 : decode cX10_bid 109 = .ok (.iload_n 3, 1) := de_1d tX10_bid_109
def tX10_bid_110 := Bt_1 (q := 110) tX10_bid_109 rfl
theorem dX10_bid_110 : decode cX10_bid 110 = .ok (.iastore, 1) := de_4f tX10_bid_110
def tX10_bid_111 := Bt_1 (q := 111) tX10_bid_110 rfl
theorem dX10_bid_111 : decode cX10_bid 111 = .ok (.aload_n 0, 1) := de_2a tX10_bid_111
def tX10_bid_112 := Bt_1 (q := 112) tX10_bid_111 rfl
theorem dX10_bid_112 : decode cX10_bid 112 = .ok (.getfield 27, 3) := de_b4 tX10_bid_112 (by decide +kernel)
def tX10_bid_115 := Bt_3 (q := 115) tX10_bid_112 rfl
theorem dX10_bid_115 : decode cX10_bid 115 = .ok (.iconst 4, 1) := de_07 tX10_bid_115
def tX10_bid_116 := Bt_1 (q := 116) tX10_bid_115 rfl
theorem dX10_bid_116 : decode cX10_bid 116 = .ok (.iload 11, 2) := de_15 tX10_bid_116 (by decide +kernel)
def tX10_bid_118 := Bt_2 (q := 118) tX10_bid_116 rfl
theorem dX10_bid_118 : decode cX10_bid 118 = .ok (.imul, 1) := de_68 tX10_bid_118
def tX10_bid_119 := Bt_1 (q := 119) tX10_bid_118 rfl
theorem dX10_bid_119 : decode cX10_bid 119 = .ok (.iload 4, 2) := de_15 tX10_bid_119 (by decide +kernel)
def tX10_bid_121 := Bt_2 (q := 121) tX10_bid_119 rfl
theorem dX10_bid_121 : decode cX10_bid 121 = .ok (.iastore, 1) := de_4f tX10_bid_121
def tX10_bid_122 := Bt_1 (q := 122) tX10_bid_121 rfl
theorem dX10_bid_122 : decode cX10_bid 122 = .ok (.aload_n 0, 1) := de_2a tX10_bid_122
def tX10_bid_123 := Bt_1 (q := 123) tX10_bid_122 rfl
theorem dX10_bid_123 : decode cX10_bid 123 = .ok (.getfield 27, 3) := de_b4 tX10_bid_123 (by decide +kernel)
def tX10_bid_126 := Bt_3 (q := 126) tX10_bid_123 rfl
theorem dX10_bid_126 : decode cX10_bid 126 = .ok (.iconst 4, 1) := de_07 tX10_bid_126
def tX10_bid_127 := Bt_1 (q := 127) tX10_bid_126 rfl
theorem dX10_bid_127 : decode cX10_bid 127 = .ok (.iload 11, 2) := de_15 tX10_bid_127 (by decide +kernel)
def tX10_bid_129 := Bt_2 (q := 129) tX10_bid_127 rfl
theorem dX10_bid_129 : decode cX10_bid 129 = .ok (.imul, 1) := de_68 tX10_bid_129
def tX10_bid_130 := Bt_1 (q := 130) tX10_bid_129 rfl
theorem dX10_bid_130 : decode cX10_bid 130 = .ok (.iconst 1, 1) := de_04 tX10_bid_130
def tX10_bid_131 := Bt_1 (q := 131) tX10_bid_130 rfl
theorem dX10_bid_131 : decode cX10_bid 131 = .ok (.iadd, 1) := de_60 tX10_bid_131
def tX10_bid_132 := Bt_1 (q := 132) tX10_bid_131 rfl
theorem dX10_bid_132 : decode cX10_bid 132 = .ok (.iload 5, 2) := de_15 tX10_bid_132 (by decide +kernel)
def tX10_bid_134 := Bt_2 (q := 134) tX10_bid_132 rfl
theorem dX10_bid_134 : decode cX10_bid 134 = .ok (.iastore, 1) := de_4f tX10_bid_134
def tX10_bid_135 := Bt_1 (q := 135) tX10_bid_134 rfl
theorem dX10_bid_135 : decode cX10_bid 135 = .ok (.aload_n 0, 1) := de_2a tX10_bid_135
def tX10_bid_136 := Bt_1 (q := 136) tX10_bid_135 rfl
theorem dX10_bid_136 : decode cX10_bid 136 = .ok (.getfield 27, 3) := de_b4 tX10_bid_136 (by decide +kernel)
def tX10_bid_139 := Bt_3 (q := 139) tX10_bid_136 rfl
theorem dX10_bid_139 : decode cX10_bid 139 = .ok (.iconst 4, 1) := de_07 tX10_bid_139
def tX10_bid_140 := Bt_1 (q := 140) tX10_bid_139 rfl
theorem dX10_bid_140 : decode cX10_bid 140 = .ok (.iload 11, 2) := de_15 tX10_bid_140 (by decide +kernel)
def tX10_bid_142 := Bt_2 (q := 142) tX10_bid_140 rfl
theorem dX10_bid_142 : decode cX10_bid 142 = .ok (.imul, 1) := de_68 tX10_bid_142
def tX10_bid_143 := Bt_1 (q := 143) tX10_bid_142 rfl
theorem dX10_bid_143 : decode cX10_bid 143 = .ok (.iconst 2, 1) := de_05 tX10_bid_143
def tX10_bid_144 := Bt_1 (q := 144) tX10_bid_143 rfl
theorem dX10_bid_144 : decode cX10_bid 144 = .ok (.iadd, 1) := de_60 tX10_bid_144
def tX10_bid_145 := Bt_1 (q := 145) tX10_bid_144 rfl
theorem dX10_bid_145 : decode cX10_bid 145 = .ok (.iload 6, 2) := de_15 tX10_bid_145 (by decide +kernel)
def tX10_bid_147 := Bt_2 (q := 147) tX10_bid_145 rfl
theorem dX10_bid_147 : decode cX10_bid 147 = .ok (.iastore, 1) := de_4f tX10_bid_147
def tX10_bid_148 := Bt_1 (q := 148) tX10_bid_147 rfl
theorem dX10_bid_148 : decode cX10_bid 148 = .ok (.aload_n 0, 1) := de_2a tX10_bid_148
def tX10_bid_149 := Bt_1 (q := 149) tX10_bid_148 rfl
theorem dX10_bid_149 : decode cX10_bid 149 = .ok (.getfield 27, 3) := de_b4 tX10_bid_149 (by decide +kernel)
def tX10_bid_152 := Bt_3 (q := 152) tX10_bid_149 rfl
theorem dX10_bid_152 : decode cX10_bid 152 = .ok (.iconst 4, 1) := de_07 tX10_bid_152
def tX10_bid_153 := Bt_1 (q := 153) tX10_bid_152 rfl
theorem dX10_bid_153 : decode cX10_bid 153 = .ok (.iload 11, 2) := de_15 tX10_bid_153 (by decide +kernel)
def tX10_bid_155 := Bt_2 (q := 155) tX10_bid_153 rfl
theorem dX10_bid_155 : decode cX10_bid 155 = .ok (.imul, 1) := de_68 tX10_bid_155
def tX10_bid_156 := Bt_1 (q := 156) tX10_bid_155 rfl
theorem dX10_bid_156 : decode cX10_bid 156 = .ok (.iconst 3, 1) := de_06 tX10_bid_156
def tX10_bid_157 := Bt_1 (q := 157) tX10_bid_156 rfl
theorem dX10_bid_157 : decode cX10_bid 157 = .ok (.iadd, 1) := de_60 tX10_bid_157
def tX10_bid_158 := Bt_1 (q := 158) tX10_bid_157 rfl
theorem dX10_bid_158 : decode cX10_bid 158 = .ok (.iload 7, 2) := de_15 tX10_bid_158 (by decide +kernel)
def tX10_bid_160 := Bt_2 (q := 160) tX10_bid_158 rfl
theorem dX10_bid_160 : decode cX10_bid 160 = .ok (.iastore, 1) := de_4f tX10_bid_160
def tX10_bid_161 := Bt_1 (q := 161) tX10_bid_160 rfl
theorem dX10_bid_161 : decode cX10_bid 161 = .ok (.aload_n 0, 1) := de_2a tX10_bid_161
def tX10_bid_162 := Bt_1 (q := 162) tX10_bid_161 rfl
theorem dX10_bid_162 : decode cX10_bid 162 = .ok (.getfield 30, 3) := de_b4 tX10_bid_162 (by decide +kernel)
def tX10_bid_165 := Bt_3 (q := 165) tX10_bid_162 rfl
theorem dX10_bid_165 : decode cX10_bid 165 = .ok (.iload 11, 2) := de_15 tX10_bid_165 (by decide +kernel)
def tX10_bid_167 := Bt_2 (q := 167) tX10_bid_165 rfl
theorem dX10_bid_167 : decode cX10_bid 167 = .ok (.iload 8, 2) := de_15 tX10_bid_167 (by decide +kernel)
def tX10_bid_169 := Bt_2 (q := 169) tX10_bid_167 rfl
theorem dX10_bid_169 : decode cX10_bid 169 = .ok (.iastore, 1) := de_4f tX10_bid_169
def tX10_bid_170 := Bt_1 (q := 170) tX10_bid_169 rfl
theorem dX10_bid_170 : decode cX10_bid 170 = .ok (.aload_n 0, 1) := de_2a tX10_bid_170
def tX10_bid_171 := Bt_1 (q := 171) tX10_bid_170 rfl
theorem dX10_bid_171 : decode cX10_bid 171 = .ok (.getfield 33, 3) := de_b4 tX10_bid_171 (by decide +kernel)
def tX10_bid_174 := Bt_3 (q := 174) tX10_bid_171 rfl
theorem dX10_bid_174 : decode cX10_bid 174 = .ok (.iload 11, 2) := de_15 tX10_bid_174 (by decide +kernel)
def tX10_bid_176 := Bt_2 (q := 176) tX10_bid_174 rfl
theorem dX10_bid_176 : decode cX10_bid 176 = .ok (.iload 9, 2) := de_15 tX10_bid_176 (by decide +kernel)
def tX10_bid_178 := Bt_2 (q := 178) tX10_bid_176 rfl
theorem dX10_bid_178 : decode cX10_bid 178 = .ok (.iastore, 1) := de_4f tX10_bid_178
def tX10_bid_179 := Bt_1 (q := 179) tX10_bid_178 rfl
theorem dX10_bid_179 : decode cX10_bid 179 = .ok (.iload 12, 2) := de_15 tX10_bid_179 (by decide +kernel)
def tX10_bid_181 := Bt_2 (q := 181) tX10_bid_179 rfl
theorem dX10_bid_181 : decode cX10_bid 181 = .ok (.ifCond .eq 7, 3) := de_99 tX10_bid_181 (by decide +kernel)
def tX10_bid_184 := Bt_3 (q := 184) tX10_bid_181 rfl
theorem dX10_bid_184 : decode cX10_bid 184 = .ok (.iconst 0, 1) := de_03 tX10_bid_184
def tX10_bid_185 := Bt_1 (q := 185) tX10_bid_184 rfl
theorem dX10_bid_185 : decode cX10_bid 185 = .ok (.goto 4, 3) := de_a7 tX10_bid_185 (by decide +kernel)
def tX10_bid_188 := Bt_3 (q := 188) tX10_bid_185 rfl
theorem dX10_bid_188 : decode cX10_bid 188 = .ok (.iconst 1, 1) := de_04 tX10_bid_188
def tX10_bid_189 := Bt_1 (q := 189) tX10_bid_188 rfl
theorem dX10_bid_189 : decode cX10_bid 189 = .ok (.ireturn, 1) := de_ac tX10_bid_189
def tX10_lacks_0 := Bt_0 cX10_lacks
theorem dX10_lacks_0 : decode cX10_lacks 0 = .ok (.iload_n 1, 1) := de_1b tX10_lacks_0
def tX10_lacks_1 := Bt_1 (q := 1) tX10_lacks_0 rfl
theorem dX10_lacks_1 : decode cX10_lacks 1 = .ok (.invokestatic 166, 3) := de_b8 tX10_lacks_1 (by decide +kernel)
def tX10_lacks_4 := Bt_3 (q := 4) tX10_lacks_1 rfl
theorem dX10_lacks_4 : decode cX10_lacks 4 = .ok (.ifCond .eq 11, 3) := de_99 tX10_lacks_4 (by decide +kernel)
def tX10_lacks_7 := Bt_3 (q := 7) tX10_lacks_4 rfl
theorem dX10_lacks_7 : decode cX10_lacks 7 = .ok (.aload_n 0, 1) := de_2a tX10_lacks_7
def tX10_lacks_8 := Bt_1 (q := 8) tX10_lacks_7 rfl
theorem dX10_lacks_8 : decode cX10_lacks 8 = .ok (.iload_n 2, 1) := de_1c tX10_lacks_8
def tX10_lacks_9 := Bt_1 (q := 9) tX10_lacks_8 rfl
theorem dX10_lacks_9 : decode cX10_lacks 9 = .ok (.invokevirtual 170, 3) := de_b6 tX10_lacks_9 (by decide +kernel)
def tX10_lacks_12 := Bt_3 (q := 12) tX10_lacks_9 rfl
theorem dX10_lacks_12 : decode cX10_lacks 12 = .ok (.ifCond .ne 7, 3) := de_9a tX10_lacks_12 (by decide +kernel)
def tX10_lacks_15 := Bt_3 (q := 15) tX10_lacks_12 rfl
theorem dX10_lacks_15 : decode cX10_lacks 15 = .ok (.iconst (-1), 1) := de_02 tX10_lacks_15
def tX10_lacks_16 := Bt_1 (q := 16) tX10_lacks_15 rfl
theorem dX10_lacks_16 : decode cX10_lacks 16 = .ok (.goto 23, 3) := de_a7 tX10_lacks_16 (by decide +kernel)
def tX10_lacks_19 := Bt_3 (q := 19) tX10_lacks_16 rfl
theorem dX10_lacks_19 : decode cX10_lacks 19 = .ok (.aload_n 0, 1) := de_2a tX10_lacks_19
def tX10_lacks_20 := Bt_1 (q := 20) tX10_lacks_19 rfl
theorem dX10_lacks_20 : decode cX10_lacks 20 = .ok (.getfield 20, 3) := de_b4 tX10_lacks_20 (by decide +kernel)
def tX10_lacks_23 := Bt_3 (q := 23) tX10_lacks_20 rfl
theorem dX10_lacks_23 : decode cX10_lacks 23 = .ok (.bipush 8, 2) := de_10 tX10_lacks_23 (by decide +kernel)
def tX10_lacks_25 := Bt_2 (q := 25) tX10_lacks_23 rfl
theorem dX10_lacks_25 : decode cX10_lacks 25 = .ok (.iload_n 2, 1) := de_1c tX10_lacks_25
def tX10_lacks_26 := Bt_1 (q := 26) tX10_lacks_25 rfl
theorem dX10_lacks_26 : decode cX10_lacks 26 = .ok (.imul, 1) := de_68 tX10_lacks_26
def tX10_lacks_27 := Bt_1 (q := 27) tX10_lacks_26 rfl
theorem dX10_lacks_27 : decode cX10_lacks 27 = .ok (.iload_n 1, 1) := de_1b tX10_lacks_27
def tX10_lacks_28 := Bt_1 (q := 28) tX10_lacks_27 rfl
theorem dX10_lacks_28 : decode cX10_lacks 28 = .ok (.iadd, 1) := de_60 tX10_lacks_28
def tX10_lacks_29 := Bt_1 (q := 29) tX10_lacks_28 rfl
theorem dX10_lacks_29 : decode cX10_lacks 29 = .ok (.baload, 1) := de_33 tX10_lacks_29
def tX10_lacks_30 := Bt_1 (q := 30) tX10_lacks_29 rfl
theorem dX10_lacks_30 : decode cX10_lacks 30 = .ok (.ifCond .eq 7, 3) := de_99 tX10_lacks_30 (by decide +kernel)
def tX10_lacks_33 := Bt_3 (q := 33) tX10_lacks_30 rfl
theorem dX10_lacks_33 : decode cX10_lacks 33 = .ok (.iconst 0, 1) := de_03 tX10_lacks_33
def tX10_lacks_34 := Bt_1 (q := 34) tX10_lacks_33 rfl
theorem dX10_lacks_34 : decode cX10_lacks 34 = .ok (.goto 5, 3) := de_a7 tX10_lacks_34 (by decide +kernel)
def tX10_lacks_37 := Bt_3 (q := 37) tX10_lacks_34 rfl
theorem dX10_lacks_37 : decode cX10_lacks 37 = .ok (.bipush (-5), 2) := de_10 tX10_lacks_37 (by decide +kernel)
def tX10_lacks_39 := Bt_2 (q := 39) tX10_lacks_37 rfl
theorem dX10_lacks_39 : decode cX10_lacks 39 = .ok (.ireturn, 1) := de_ac tX10_lacks_39
def tX10_withdraw_0 := Bt_0 cX10_withdraw
theorem dX10_withdraw_0 : decode cX10_withdraw 0 = .ok (.aload_n 0, 1) := de_2a tX10_withdraw_0
def tX10_withdraw_1 := Bt_1 (q := 1) tX10_withdraw_0 rfl
theorem dX10_withdraw_1 : decode cX10_withdraw 1 = .ok (.iload_n 1, 1) := de_1b tX10_withdraw_1
def tX10_withdraw_2 := Bt_1 (q := 2) tX10_withdraw_1 rfl
theorem dX10_withdraw_2 : decode cX10_withdraw 2 = .ok (.iload_n 2, 1) := de_1c tX10_withdraw_2
def tX10_withdraw_3 := Bt_1 (q := 3) tX10_withdraw_2 rfl
theorem dX10_withdraw_3 : decode cX10_withdraw 3 = .ok (.invokevirtual 180, 3) := de_b6 tX10_withdraw_3 (by decide +kernel)
def tX10_withdraw_6 := Bt_3 (q := 6) tX10_withdraw_3 rfl
theorem dX10_withdraw_6 : decode cX10_withdraw 6 = .ok (.istore_n 3, 1) := de_3e tX10_withdraw_6
def tX10_withdraw_7 := Bt_1 (q := 7) tX10_withdraw_6 rfl
theorem dX10_withdraw_7 : decode cX10_withdraw 7 = .ok (.iload_n 3, 1) := de_1d tX10_withdraw_7
def tX10_withdraw_8 := Bt_1 (q := 8) tX10_withdraw_7 rfl
theorem dX10_withdraw_8 : decode cX10_withdraw 8 = .ok (.ifCond .ge 9, 3) := de_9c tX10_withdraw_8 (by decide +kernel)
def tX10_withdraw_11 := Bt_3 (q := 11) tX10_withdraw_8 rfl
theorem dX10_withdraw_11 : decode cX10_withdraw 11 = .ok (.aload_n 0, 1) := de_2a tX10_withdraw_11
def tX10_withdraw_12 := Bt_1 (q := 12) tX10_withdraw_11 rfl
theorem dX10_withdraw_12 : decode cX10_withdraw 12 = .ok (.iload_n 3, 1) := de_1d tX10_withdraw_12
def tX10_withdraw_13 := Bt_1 (q := 13) tX10_withdraw_12 rfl
theorem dX10_withdraw_13 : decode cX10_withdraw 13 = .ok (.invokevirtual 151, 3) := de_b6 tX10_withdraw_13 (by decide +kernel)
def tX10_withdraw_16 := Bt_3 (q := 16) tX10_withdraw_13 rfl
theorem dX10_withdraw_16 : decode cX10_withdraw 16 = .ok (.ireturn, 1) := de_ac tX10_withdraw_16
def tX10_withdraw_17 := Bt_1 (q := 17) tX10_withdraw_16 rfl
theorem dX10_withdraw_17 : decode cX10_withdraw 17 = .ok (.aload_n 0, 1) := de_2a tX10_withdraw_17
def tX10_withdraw_18 := Bt_1 (q := 18) tX10_withdraw_17 rfl
theorem dX10_withdraw_18 : decode cX10_withdraw 18 = .ok (.invokevirtual 160, 3) := de_b6 tX10_withdraw_18 (by decide +kernel)
def tX10_withdraw_21 := Bt_3 (q := 21) tX10_withdraw_18 rfl
theorem dX10_withdraw_21 : decode cX10_withdraw 21 = .ok (.ifCond .ne 16, 3) := de_9a tX10_withdraw_21 (by decide +kernel)
def tX10_withdraw_24 := Bt_3 (q := 24) tX10_withdraw_21 rfl
theorem dX10_withdraw_24 : decode cX10_withdraw 24 = .ok (.aload_n 0, 1) := de_2a tX10_withdraw_24
def tX10_withdraw_25 := Bt_1 (q := 25) tX10_withdraw_24 rfl
theorem dX10_withdraw_25 : decode cX10_withdraw 25 = .ok (.dup, 1) := de_59 tX10_withdraw_25
def tX10_withdraw_26 := Bt_1 (q := 26) tX10_withdraw_25 rfl
theorem dX10_withdraw_26 : decode cX10_withdraw 26 = .ok (.getfield 177, 3) := de_b4 tX10_withdraw_26 (by decide +kernel)
def tX10_withdraw_29 := Bt_3 (q := 29) tX10_withdraw_26 rfl
theorem dX10_withdraw_29 : decode cX10_withdraw 29 = .ok (.iconst 1, 1) := de_04 tX10_withdraw_29
def tX10_withdraw_30 := Bt_1 (q := 30) tX10_withdraw_29 rfl
theorem dX10_withdraw_30 : decode cX10_withdraw 30 = .ok (.iadd, 1) := de_60 tX10_withdraw_30
def tX10_withdraw_31 := Bt_1 (q := 31) tX10_withdraw_30 rfl
theorem dX10_withdraw_31 : decode cX10_withdraw 31 = .ok (.putfield 177, 3) := de_b5 tX10_withdraw_31 (by decide +kernel)
def tX10_withdraw_34 := Bt_3 (q := 34) tX10_withdraw_31 rfl
theorem dX10_withdraw_34 : decode cX10_withdraw 34 = .ok (.bipush (-9), 2) := de_10 tX10_withdraw_34 (by decide +kernel)
def tX10_withdraw_36 := Bt_2 (q := 36) tX10_withdraw_34 rfl
theorem dX10_withdraw_36 : decode cX10_withdraw 36 = .ok (.ireturn, 1) := de_ac tX10_withdraw_36
def tX10_withdraw_37 := Bt_1 (q := 37) tX10_withdraw_36 rfl
theorem dX10_withdraw_37 : decode cX10_withdraw 37 = .ok (.aload_n 0, 1) := de_2a tX10_withdraw_37
def tX10_withdraw_38 := Bt_1 (q := 38) tX10_withdraw_37 rfl
theorem dX10_withdraw_38 : decode cX10_withdraw 38 = .ok (.getfield 20, 3) := de_b4 tX10_withdraw_38 (by decide +kernel)
def tX10_withdraw_41 := Bt_3 (q := 41) tX10_withdraw_38 rfl
theorem dX10_withdraw_41 : decode cX10_withdraw 41 = .ok (.bipush 8, 2) := de_10 tX10_withdraw_41 (by decide +kernel)
def tX10_withdraw_43 := Bt_2 (q := 43) tX10_withdraw_41 rfl
theorem dX10_withdraw_43 : decode cX10_withdraw 43 = .ok (.iload_n 2, 1) := de_1c tX10_withdraw_43
def tX10_withdraw_44 := Bt_1 (q := 44) tX10_withdraw_43 rfl
theorem dX10_withdraw_44 : decode cX10_withdraw 44 = .ok (.imul, 1) := de_68 tX10_withdraw_44
def tX10_withdraw_45 := Bt_1 (q := 45) tX10_withdraw_44 rfl
theorem dX10_withdraw_45 : decode cX10_withdraw 45 = .ok (.iload_n 1, 1) := de_1b tX10_withdraw_45
def tX10_withdraw_46 := Bt_1 (q := 46) tX10_withdraw_45 rfl
theorem dX10_withdraw_46 : decode cX10_withdraw 46 = .ok (.iadd, 1) := de_60 tX10_withdraw_46
def tX10_withdraw_47 := Bt_1 (q := 47) tX10_withdraw_46 rfl
theorem dX10_withdraw_47 : decode cX10_withdraw 47 = .ok (.iconst 0, 1) := de_03 tX10_withdraw_47
def tX10_withdraw_48 := Bt_1 (q := 48) tX10_withdraw_47 rfl
theorem dX10_withdraw_48 : decode cX10_withdraw 48 = .ok (.bastore, 1) := de_54 tX10_withdraw_48
def tX10_withdraw_49 := Bt_1 (q := 49) tX10_withdraw_48 rfl
theorem dX10_withdraw_49 : decode cX10_withdraw 49 = .ok (.aload_n 0, 1) := de_2a tX10_withdraw_49
def tX10_withdraw_50 := Bt_1 (q := 50) tX10_withdraw_49 rfl
theorem dX10_withdraw_50 : decode cX10_withdraw 50 = .ok (.getfield 39, 3) := de_b4 tX10_withdraw_50 (by decide +kernel)
def tX10_withdraw_53 := Bt_3 (q := 53) tX10_withdraw_50 rfl
theorem dX10_withdraw_53 : decode cX10_withdraw 53 = .ok (.bipush 8, 2) := de_10 tX10_withdraw_53 (by decide +kernel)
def tX10_withdraw_55 := Bt_2 (q := 55) tX10_withdraw_53 rfl
theorem dX10_withdraw_55 : decode cX10_withdraw 55 = .ok (.iload_n 2, 1) := de_1c tX10_withdraw_55
def tX10_withdraw_56 := Bt_1 (q := 56) tX10_withdraw_55 rfl
theorem dX10_withdraw_56 : decode cX10_withdraw 56 = .ok (.imul, 1) := de_68 tX10_withdraw_56
def tX10_withdraw_57 := Bt_1 (q := 57) tX10_withdraw_56 rfl
theorem dX10_withdraw_57 : decode cX10_withdraw 57 = .ok (.iload_n 1, 1) := de_1b tX10_withdraw_57
def tX10_withdraw_58 := Bt_1 (q := 58) tX10_withdraw_57 rfl
theorem dX10_withdraw_58 : decode cX10_withdraw 58 = .ok (.iadd, 1) := de_60 tX10_withdraw_58
def tX10_withdraw_59 := Bt_1 (q := 59) tX10_withdraw_58 rfl
theorem dX10_withdraw_59 : decode cX10_withdraw 59 = .ok (.iconst (-1), 1) := de_02 tX10_withdraw_59
def tX10_withdraw_60 := Bt_1 (q := 60) tX10_withdraw_59 rfl
theorem dX10_withdraw_60 : decode cX10_withdraw 60 = .ok (.iastore, 1) := de_4f tX10_withdraw_60
def tX10_withdraw_61 := Bt_1 (q := 61) tX10_withdraw_60 rfl
theorem dX10_withdraw_61 : decode cX10_withdraw 61 = .ok (.iconst 1, 1) := de_04 tX10_withdraw_61
def tX10_withdraw_62 := Bt_1 (q := 62) tX10_withdraw_61 rfl
theorem dX10_withdraw_62 : decode cX10_withdraw 62 = .ok (.ireturn, 1) := de_ac tX10_withdraw_62
def tX10_set_0 := Bt_0 cX10_set
theorem dX10_set_0 : decode cX10_set 0 = .ok (.iload_n 1, 1) := de_1b tX10_set_0
def tX10_set_1 := Bt_1 (q := 1) tX10_set_0 rfl
theorem dX10_set_1 : decode cX10_set 1 = .ok (.iconst 0, 1) := de_03 tX10_set_1
def tX10_set_2 := Bt_1 (q := 2) tX10_set_1 rfl
theorem dX10_set_2 : decode cX10_set 2 = .ok (.iconst 3, 1) := de_06 tX10_set_2
def tX10_set_3 := Bt_1 (q := 3) tX10_set_2 rfl
theorem dX10_set_3 : decode cX10_set 3 = .ok (.invokestatic 144, 3) := de_b8 tX10_set_3 (by decide +kernel)
def tX10_set_6 := Bt_3 (q := 6) tX10_set_3 rfl
theorem dX10_set_6 : decode cX10_set 6 = .ok (.ifCond .ne 10, 3) := de_9a tX10_set_6 (by decide +kernel)
def tX10_set_9 := Bt_3 (q := 9) tX10_set_6 rfl
theorem dX10_set_9 : decode cX10_set 9 = .ok (.aload_n 0, 1) := de_2a tX10_set_9
def tX10_set_10 := Bt_1 (q := 10) tX10_set_9 rfl
theorem dX10_set_10 : decode cX10_set 10 = .ok (.bipush (-2), 2) := de_10 tX10_set_10 (by decide +kernel)
def tX10_set_12 := Bt_2 (q := 12) tX10_set_10 rfl
theorem dX10_set_12 : decode cX10_set 12 = .ok (.invokevirtual 151, 3) := de_b6 tX10_set_12 (by decide +kernel)
def tX10_set_15 := Bt_3 (q := 15) tX10_set_12 rfl
theorem dX10_set_15 : decode cX10_set 15 = .ok (.ireturn, 1) := de_ac tX10_set_15
def tX10_set_16 := Bt_1 (q := 16) tX10_set_15 rfl
theorem dX10_set_16 : decode cX10_set 16 = .ok (.iload_n 2, 1) := de_1c tX10_set_16
def tX10_set_17 := Bt_1 (q := 17) tX10_set_16 rfl
theorem dX10_set_17 : decode cX10_set 17 = .ok (.ifCond .ge 10, 3) := de_9c tX10_set_17 (by decide +kernel)
def tX10_set_20 := Bt_3 (q := 20) tX10_set_17 rfl
theorem dX10_set_20 : decode cX10_set 20 = .ok (.aload_n 0, 1) := de_2a tX10_set_20
def tX10_set_21 := Bt_1 (q := 21) tX10_set_20 rfl
theorem dX10_set_21 : decode cX10_set 21 = .ok (.bipush (-4), 2) := de_10 tX10_set_21 (by decide +kernel)
def tX10_set_23 := Bt_2 (q := 23) tX10_set_21 rfl
theorem dX10_set_23 : decode cX10_set 23 = .ok (.invokevirtual 151, 3) := de_b6 tX10_set_23 (by decide +kernel)
def tX10_set_26 := Bt_3 (q := 26) tX10_set_23 rfl
theorem dX10_set_26 : decode cX10_set 26 = .ok (.ireturn, 1) := de_ac tX10_set_26
def tX10_set_27 := Bt_1 (q := 27) tX10_set_26 rfl
theorem dX10_set_27 : decode cX10_set 27 = .ok (.iload_n 2, 1) := de_1c tX10_set_27
def tX10_set_28 := Bt_1 (q := 28) tX10_set_27 rfl
theorem dX10_set_28 : decode cX10_set 28 = .ok (.iload_n 1, 1) := de_1b tX10_set_28
def tX10_set_29 := Bt_1 (q := 29) tX10_set_28 rfl
theorem dX10_set_29 : decode cX10_set 29 = .ok (.ifCond .ne 7, 3) := de_9a tX10_set_29 (by decide +kernel)
def tX10_set_32 := Bt_3 (q := 32) tX10_set_29 rfl
theorem dX10_set_32 : decode cX10_set 32 = .ok (.iconst 2, 1) := de_05 tX10_set_32
def tX10_set_33 := Bt_1 (q := 33) tX10_set_32 rfl
theorem dX10_set_33 : decode cX10_set 33 = .ok (.goto 5, 3) := de_a7 tX10_set_33 (by decide +kernel)
def tX10_set_36 := Bt_3 (q := 36) tX10_set_33 rfl
theorem dX10_set_36 : decode cX10_set 36 = .ok (.bipush 100, 2) := de_10 tX10_set_36 (by decide +kernel)
def tX10_set_38 := Bt_2 (q := 38) tX10_set_36 rfl
theorem dX10_set_38 : decode cX10_set 38 = .ok (.if_icmp .le 10, 3) := de_a4 tX10_set_38 (by decide +kernel)
def tX10_set_41 := Bt_3 (q := 41) tX10_set_38 rfl
theorem dX10_set_41 : decode cX10_set 41 = .ok (.aload_n 0, 1) := de_2a tX10_set_41
def tX10_set_42 := Bt_1 (q := 42) tX10_set_41 rfl
theorem dX10_set_42 : decode cX10_set 42 = .ok (.bipush (-6), 2) := de_10 tX10_set_42 (by decide +kernel)
def tX10_set_44 := Bt_2 (q := 44) tX10_set_42 rfl
theorem dX10_set_44 : decode cX10_set 44 = .ok (.invokevirtual 151, 3) := de_b6 tX10_set_44 (by decide +kernel)
def tX10_set_47 := Bt_3 (q := 47) tX10_set_44 rfl
theorem dX10_set_47 : decode cX10_set 47 = .ok (.ireturn, 1) := de_ac tX10_set_47
def tX10_set_48 := Bt_1 (q := 48) tX10_set_47 rfl
theorem dX10_set_48 : decode cX10_set 48 = .ok (.aload_n 0, 1) := de_2a tX10_set_48
def tX10_set_49 := Bt_1 (q := 49) tX10_set_48 rfl
theorem dX10_set_49 : decode cX10_set 49 = .ok (.getfield 42, 3) := de_b4 tX10_set_49 (by decide +kernel)
def tX10_set_52 := Bt_3 (q := 52) tX10_set_49 rfl
theorem dX10_set_52 : decode cX10_set 52 = .ok (.iload_n 1, 1) := de_1b tX10_set_52
def tX10_set_53 := Bt_1 (q := 53) tX10_set_52 rfl
theorem dX10_set_53 : decode cX10_set 53 = .ok (.iaload, 1) := de_2e tX10_set_53
def tX10_set_54 := Bt_1 (q := 54) tX10_set_53 rfl
theorem dX10_set_54 : decode cX10_set 54 = .ok (.istore_n 3, 1) := de_3e tX10_set_54
def tX10_set_55 := Bt_1 (q := 55) tX10_set_54 rfl
theorem dX10_set_55 : decode cX10_set 55 = .ok (.aload_n 0, 1) := de_2a tX10_set_55
def tX10_set_56 := Bt_1 (q := 56) tX10_set_55 rfl
theorem dX10_set_56 : decode cX10_set 56 = .ok (.getfield 42, 3) := de_b4 tX10_set_56 (by decide +kernel)
def tX10_set_59 := Bt_3 (q := 59) tX10_set_56 rfl
theorem dX10_set_59 : decode cX10_set 59 = .ok (.iload_n 1, 1) := de_1b tX10_set_59
def tX10_set_60 := Bt_1 (q := 60) tX10_set_59 rfl
theorem dX10_set_60 : decode cX10_set 60 = .ok (.iload_n 2, 1) := de_1c tX10_set_60
def tX10_set_61 := Bt_1 (q := 61) tX10_set_60 rfl
theorem dX10_set_61 : decode cX10_set 61 = .ok (.iastore, 1) := de_4f tX10_set_61
def tX10_set_62 := Bt_1 (q := 62) tX10_set_61 rfl
theorem dX10_set_62 : decode cX10_set 62 = .ok (.aload_n 0, 1) := de_2a tX10_set_62
def tX10_set_63 := Bt_1 (q := 63) tX10_set_62 rfl
theorem dX10_set_63 : decode cX10_set 63 = .ok (.iconst 0, 1) := de_03 tX10_set_63
def tX10_set_64 := Bt_1 (q := 64) tX10_set_63 rfl
theorem dX10_set_64 : decode cX10_set 64 = .ok (.putfield 156, 3) := de_b5 tX10_set_64 (by decide +kernel)
def tX10_set_67 := Bt_3 (q := 67) tX10_set_64 rfl
theorem dX10_set_67 : decode cX10_set 67 = .ok (.iload_n 3, 1) := de_1d tX10_set_67
def tX10_set_68 := Bt_1 (q := 68) tX10_set_67 rfl
theorem dX10_set_68 : decode cX10_set 68 = .ok (.ireturn, 1) := de_ac tX10_set_68
def tX10_itemsOf_0 := Bt_0 cX10_itemsOf
theorem dX10_itemsOf_0 : decode cX10_itemsOf 0 = .ok (.aload_n 0, 1) := de_2a tX10_itemsOf_0
def tX10_itemsOf_1 := Bt_1 (q := 1) tX10_itemsOf_0 rfl
theorem dX10_itemsOf_1 : decode cX10_itemsOf 1 = .ok (.getfield 27, 3) := de_b4 tX10_itemsOf_1 (by decide +kernel)
def tX10_itemsOf_4 := Bt_3 (q := 4) tX10_itemsOf_1 rfl
theorem dX10_itemsOf_4 : decode cX10_itemsOf 4 = .ok (.iconst 4, 1) := de_07 tX10_itemsOf_4
def tX10_itemsOf_5 := Bt_1 (q := 5) tX10_itemsOf_4 rfl
theorem dX10_itemsOf_5 : decode cX10_itemsOf 5 = .ok (.iload_n 1, 1) := de_1b tX10_itemsOf_5
def tX10_itemsOf_6 := Bt_1 (q := 6) tX10_itemsOf_5 rfl
theorem dX10_itemsOf_6 : decode cX10_itemsOf 6 = .ok (.imul, 1) := de_68 tX10_itemsOf_6
def tX10_itemsOf_7 := Bt_1 (q := 7) tX10_itemsOf_6 rfl
theorem dX10_itemsOf_7 : decode cX10_itemsOf 7 = .ok (.iaload, 1) := de_2e tX10_itemsOf_7
def tX10_itemsOf_8 := Bt_1 (q := 8) tX10_itemsOf_7 rfl
theorem dX10_itemsOf_8 : decode cX10_itemsOf 8 = .ok (.aload_n 0, 1) := de_2a tX10_itemsOf_8
def tX10_itemsOf_9 := Bt_1 (q := 9) tX10_itemsOf_8 rfl
theorem dX10_itemsOf_9 : decode cX10_itemsOf 9 = .ok (.getfield 27, 3) := de_b4 tX10_itemsOf_9 (by decide +kernel)
def tX10_itemsOf_12 := Bt_3 (q := 12) tX10_itemsOf_9 rfl
theorem dX10_itemsOf_12 : decode cX10_itemsOf 12 = .ok (.iconst 4, 1) := de_07 tX10_itemsOf_12
def tX10_itemsOf_13 := Bt_1 (q := 13) tX10_itemsOf_12 rfl
theorem dX10_itemsOf_13 : decode cX10_itemsOf 13 = .ok (.iload_n 1, 1) := de_1b tX10_itemsOf_13
def tX10_itemsOf_14 := Bt_1 (q := 14) tX10_itemsOf_13 rfl
theorem dX10_itemsOf_14 : decode cX10_itemsOf 14 = .ok (.imul, 1) := de_68 tX10_itemsOf_14
def tX10_itemsOf_15 := Bt_1 (q := 15) tX10_itemsOf_14 rfl
theorem dX10_itemsOf_15 : decode cX10_itemsOf 15 = .ok (.iconst 1, 1) := de_04 tX10_itemsOf_15
def tX10_itemsOf_16 := Bt_1 (q := 16) tX10_itemsOf_15 rfl
theorem dX10_itemsOf_16 : decode cX10_itemsOf 16 = .ok (.iadd, 1) := de_60 tX10_itemsOf_16
def tX10_itemsOf_17 := Bt_1 (q := 17) tX10_itemsOf_16 rfl
theorem dX10_itemsOf_17 : decode cX10_itemsOf 17 = .ok (.iaload, 1) := de_2e tX10_itemsOf_17
def tX10_itemsOf_18 := Bt_1 (q := 18) tX10_itemsOf_17 rfl
theorem dX10_itemsOf_18 : decode cX10_itemsOf 18 = .ok (.iadd, 1) := de_60 tX10_itemsOf_18
def tX10_itemsOf_19 := Bt_1 (q := 19) tX10_itemsOf_18 rfl
theorem dX10_itemsOf_19 : decode cX10_itemsOf 19 = .ok (.aload_n 0, 1) := de_2a tX10_itemsOf_19
def tX10_itemsOf_20 := Bt_1 (q := 20) tX10_itemsOf_19 rfl
theorem dX10_itemsOf_20 : decode cX10_itemsOf 20 = .ok (.getfield 27, 3) := de_b4 tX10_itemsOf_20 (by decide +kernel)
def tX10_itemsOf_23 := Bt_3 (q := 23) tX10_itemsOf_20 rfl
theorem dX10_itemsOf_23 : decode cX10_itemsOf 23 = .ok (.iconst 4, 1) := de_07 tX10_itemsOf_23
def tX10_itemsOf_24 := Bt_1 (q := 24) tX10_itemsOf_23 rfl
theorem dX10_itemsOf_24 : decode cX10_itemsOf 24 = .ok (.iload_n 1, 1) := de_1b tX10_itemsOf_24
def tX10_itemsOf_25 := Bt_1 (q := 25) tX10_itemsOf_24 rfl
theorem dX10_itemsOf_25 : decode cX10_itemsOf 25 = .ok (.imul, 1) := de_68 tX10_itemsOf_25
def tX10_itemsOf_26 := Bt_1 (q := 26) tX10_itemsOf_25 rfl
theorem dX10_itemsOf_26 : decode cX10_itemsOf 26 = .ok (.iconst 2, 1) := de_05 tX10_itemsOf_26
def tX10_itemsOf_27 := Bt_1 (q := 27) tX10_itemsOf_26 rfl
theorem dX10_itemsOf_27 : decode cX10_itemsOf 27 = .ok (.iadd, 1) := de_60 tX10_itemsOf_27
def tX10_itemsOf_28 := Bt_1 (q := 28) tX10_itemsOf_27 rfl
theorem dX10_itemsOf_28 : decode cX10_itemsOf 28 = .ok (.iaload, 1) := de_2e tX10_itemsOf_28
def tX10_itemsOf_29 := Bt_1 (q := 29) tX10_itemsOf_28 rfl
theorem dX10_itemsOf_29 : decode cX10_itemsOf 29 = .ok (.iadd, 1) := de_60 tX10_itemsOf_29
def tX10_itemsOf_30 := Bt_1 (q := 30) tX10_itemsOf_29 rfl
theorem dX10_itemsOf_30 : decode cX10_itemsOf 30 = .ok (.aload_n 0, 1) := de_2a tX10_itemsOf_30
def tX10_itemsOf_31 := Bt_1 (q := 31) tX10_itemsOf_30 rfl
theorem dX10_itemsOf_31 : decode cX10_itemsOf 31 = .ok (.getfield 27, 3) := de_b4 tX10_itemsOf_31 (by decide +kernel)
def tX10_itemsOf_34 := Bt_3 (q := 34) tX10_itemsOf_31 rfl
theorem dX10_itemsOf_34 : decode cX10_itemsOf 34 = .ok (.iconst 4, 1) := de_07 tX10_itemsOf_34
def tX10_itemsOf_35 := Bt_1 (q := 35) tX10_itemsOf_34 rfl
theorem dX10_itemsOf_35 : decode cX10_itemsOf 35 = .ok (.iload_n 1, 1) := de_1b tX10_itemsOf_35
def tX10_itemsOf_36 := Bt_1 (q := 36) tX10_itemsOf_35 rfl
theorem dX10_itemsOf_36 : decode cX10_itemsOf 36 = .ok (.imul, 1) := de_68 tX10_itemsOf_36
def tX10_itemsOf_37 := Bt_1 (q := 37) tX10_itemsOf_36 rfl
theorem dX10_itemsOf_37 : decode cX10_itemsOf 37 = .ok (.iconst 3, 1) := de_06 tX10_itemsOf_37
def tX10_itemsOf_38 := Bt_1 (q := 38) tX10_itemsOf_37 rfl
theorem dX10_itemsOf_38 : decode cX10_itemsOf 38 = .ok (.iadd, 1) := de_60 tX10_itemsOf_38
def tX10_itemsOf_39 := Bt_1 (q := 39) tX10_itemsOf_38 rfl
theorem dX10_itemsOf_39 : decode cX10_itemsOf 39 = .ok (.iaload, 1) := de_2e tX10_itemsOf_39
def tX10_itemsOf_40 := Bt_1 (q := 40) tX10_itemsOf_39 rfl
theorem dX10_itemsOf_40 : decode cX10_itemsOf 40 = .ok (.iadd, 1) := de_60 tX10_itemsOf_40
def tX10_itemsOf_41 := Bt_1 (q := 41) tX10_itemsOf_40 rfl
theorem dX10_itemsOf_41 : decode cX10_itemsOf 41 = .ok (.ireturn, 1) := de_ac tX10_itemsOf_41
def tX10_priceOf_0 := Bt_0 cX10_priceOf
theorem dX10_priceOf_0 : decode cX10_priceOf 0 = .ok (.aload_n 0, 1) := de_2a tX10_priceOf_0
def tX10_priceOf_1 := Bt_1 (q := 1) tX10_priceOf_0 rfl
theorem dX10_priceOf_1 : decode cX10_priceOf 1 = .ok (.iload_n 1, 1) := de_1b tX10_priceOf_1
def tX10_priceOf_2 := Bt_1 (q := 2) tX10_priceOf_1 rfl
theorem dX10_priceOf_2 : decode cX10_priceOf 2 = .ok (.invokevirtual 184, 3) := de_b6 tX10_priceOf_2 (by decide +kernel)
def tX10_priceOf_5 := Bt_3 (q := 5) tX10_priceOf_2 rfl
theorem dX10_priceOf_5 : decode cX10_priceOf 5 = .ok (.istore_n 2, 1) := de_3d tX10_priceOf_5
def tX10_priceOf_6 := Bt_1 (q := 6) tX10_priceOf_5 rfl
theorem dX10_priceOf_6 : decode cX10_priceOf 6 = .ok (.aload_n 0, 1) := de_2a tX10_priceOf_6
def tX10_priceOf_7 := Bt_1 (q := 7) tX10_priceOf_6 rfl
theorem dX10_priceOf_7 : decode cX10_priceOf 7 = .ok (.getfield 42, 3) := de_b4 tX10_priceOf_7 (by decide +kernel)
def tX10_priceOf_10 := Bt_3 (q := 10) tX10_priceOf_7 rfl
theorem dX10_priceOf_10 : decode cX10_priceOf 10 = .ok (.iconst 0, 1) := de_03 tX10_priceOf_10
def tX10_priceOf_11 := Bt_1 (q := 11) tX10_priceOf_10 rfl
theorem dX10_priceOf_11 : decode cX10_priceOf 11 = .ok (.iaload, 1) := de_2e tX10_priceOf_11
def tX10_priceOf_12 := Bt_1 (q := 12) tX10_priceOf_11 rfl
theorem dX10_priceOf_12 : decode cX10_priceOf 12 = .ok (.ifCond .ne 7, 3) := de_9a tX10_priceOf_12 (by decide +kernel)
def tX10_priceOf_15 := Bt_3 (q := 15) tX10_priceOf_12 rfl
theorem dX10_priceOf_15 : decode cX10_priceOf 15 = .ok (.iload_n 2, 1) := de_1c tX10_priceOf_15
def tX10_priceOf_16 := Bt_1 (q := 16) tX10_priceOf_15 rfl
theorem dX10_priceOf_16 : decode cX10_priceOf 16 = .ok (.goto 42, 3) := de_a7 tX10_priceOf_16 (by decide +kernel)
def tX10_priceOf_19 := Bt_3 (q := 19) tX10_priceOf_16 rfl
theorem dX10_priceOf_19 : decode cX10_priceOf 19 = .ok (.aload_n 0, 1) := de_2a tX10_priceOf_19
def tX10_priceOf_20 := Bt_1 (q := 20) tX10_priceOf_19 rfl
theorem dX10_priceOf_20 : decode cX10_priceOf 20 = .ok (.getfield 42, 3) := de_b4 tX10_priceOf_20 (by decide +kernel)
def tX10_priceOf_23 := Bt_3 (q := 23) tX10_priceOf_20 rfl
theorem dX10_priceOf_23 : decode cX10_priceOf 23 = .ok (.iconst 0, 1) := de_03 tX10_priceOf_23
def tX10_priceOf_24 := Bt_1 (q := 24) tX10_priceOf_23 rfl
theorem dX10_priceOf_24 : decode cX10_priceOf 24 = .ok (.iaload, 1) := de_2e tX10_priceOf_24
def tX10_priceOf_25 := Bt_1 (q := 25) tX10_priceOf_24 rfl
theorem dX10_priceOf_25 : decode cX10_priceOf 25 = .ok (.iconst 1, 1) := de_04 tX10_priceOf_25
def tX10_priceOf_26 := Bt_1 (q := 26) tX10_priceOf_25 rfl
theorem dX10_priceOf_26 : decode cX10_priceOf 26 = .ok (.if_icmp .ne 12, 3) := de_a0 tX10_priceOf_26 (by decide +kernel)
def tX10_priceOf_29 := Bt_3 (q := 29) tX10_priceOf_26 rfl
theorem dX10_priceOf_29 : decode cX10_priceOf 29 = .ok (.aload_n 0, 1) := de_2a tX10_priceOf_29
def tX10_priceOf_30 := Bt_1 (q := 30) tX10_priceOf_29 rfl
theorem dX10_priceOf_30 : decode cX10_priceOf 30 = .ok (.getfield 30, 3) := de_b4 tX10_priceOf_30 (by decide +kernel)
def tX10_priceOf_33 := Bt_3 (q := 33) tX10_priceOf_30 rfl
theorem dX10_priceOf_33 : decode cX10_priceOf 33 = .ok (.iload_n 1, 1) := de_1b tX10_priceOf_33
def tX10_priceOf_34 := Bt_1 (q := 34) tX10_priceOf_33 rfl
theorem dX10_priceOf_34 : decode cX10_priceOf 34 = .ok (.iaload, 1) := de_2e tX10_priceOf_34
def tX10_priceOf_35 := Bt_1 (q := 35) tX10_priceOf_34 rfl
theorem dX10_priceOf_35 : decode cX10_priceOf 35 = .ok (.goto 23, 3) := de_a7 tX10_priceOf_35 (by decide +kernel)
def tX10_priceOf_38 := Bt_3 (q := 38) tX10_priceOf_35 rfl
theorem dX10_priceOf_38 : decode cX10_priceOf 38 = .ok (.iload_n 2, 1) := de_1c tX10_priceOf_38
def tX10_priceOf_39 := Bt_1 (q := 39) tX10_priceOf_38 rfl
theorem dX10_priceOf_39 : decode cX10_priceOf 39 = .ok (.aload_n 0, 1) := de_2a tX10_priceOf_39
def tX10_priceOf_40 := Bt_1 (q := 40) tX10_priceOf_39 rfl
theorem dX10_priceOf_40 : decode cX10_priceOf 40 = .ok (.getfield 30, 3) := de_b4 tX10_priceOf_40 (by decide +kernel)
def tX10_priceOf_43 := Bt_3 (q := 43) tX10_priceOf_40 rfl
theorem dX10_priceOf_43 : decode cX10_priceOf 43 = .ok (.iload_n 1, 1) := de_1b tX10_priceOf_43
def tX10_priceOf_44 := Bt_1 (q := 44) tX10_priceOf_43 rfl
theorem dX10_priceOf_44 : decode cX10_priceOf 44 = .ok (.iaload, 1) := de_2e tX10_priceOf_44
def tX10_priceOf_45 := Bt_1 (q := 45) tX10_priceOf_44 rfl
theorem dX10_priceOf_45 : decode cX10_priceOf 45 = .ok (.if_icmp .le 7, 3) := de_a4 tX10_priceOf_45 (by decide +kernel)
def tX10_priceOf_48 := Bt_3 (q := 48) tX10_priceOf_45 rfl
theorem dX10_priceOf_48 : decode cX10_priceOf 48 = .ok (.iload_n 2, 1) := de_1c tX10_priceOf_48
def tX10_priceOf_49 := Bt_1 (q := 49) tX10_priceOf_48 rfl
theorem dX10_priceOf_49 : decode cX10_priceOf 49 = .ok (.goto 9, 3) := de_a7 tX10_priceOf_49 (by decide +kernel)
def tX10_priceOf_52 := Bt_3 (q := 52) tX10_priceOf_49 rfl
theorem dX10_priceOf_52 : decode cX10_priceOf 52 = .ok (.aload_n 0, 1) := de_2a tX10_priceOf_52
def tX10_priceOf_53 := Bt_1 (q := 53) tX10_priceOf_52 rfl
theorem dX10_priceOf_53 : decode cX10_priceOf 53 = .ok (.getfield 30, 3) := de_b4 tX10_priceOf_53 (by decide +kernel)
def tX10_priceOf_56 := Bt_3 (q := 56) tX10_priceOf_53 rfl
theorem dX10_priceOf_56 : decode cX10_priceOf 56 = .ok (.iload_n 1, 1) := de_1b tX10_priceOf_56
def tX10_priceOf_57 := Bt_1 (q := 57) tX10_priceOf_56 rfl
theorem dX10_priceOf_57 : decode cX10_priceOf 57 = .ok (.iaload, 1) := de_2e tX10_priceOf_57
def tX10_priceOf_58 := Bt_1 (q := 58) tX10_priceOf_57 rfl
theorem dX10_priceOf_58 : decode cX10_priceOf 58 = .ok (.istore_n 3, 1) := de_3e tX10_priceOf_58
def tX10_priceOf_59 := Bt_1 (q := 59) tX10_priceOf_58 rfl
theorem dX10_priceOf_59 : decode cX10_priceOf 59 = .ok (.iload_n 3, 1) := de_1d tX10_priceOf_59
def tX10_priceOf_60 := Bt_1 (q := 60) tX10_priceOf_59 rfl
theorem dX10_priceOf_60 : decode cX10_priceOf 60 = .ok (.aload_n 0, 1) := de_2a tX10_priceOf_60
def tX10_priceOf_61 := Bt_1 (q := 61) tX10_priceOf_60 rfl
theorem dX10_priceOf_61 : decode cX10_priceOf 61 = .ok (.getfield 33, 3) := de_b4 tX10_priceOf_61 (by decide +kernel)
def tX10_priceOf_64 := Bt_3 (q := 64) tX10_priceOf_61 rfl
theorem dX10_priceOf_64 : decode cX10_priceOf 64 = .ok (.iload_n 1, 1) := de_1b tX10_priceOf_64
def tX10_priceOf_65 := Bt_1 (q := 65) tX10_priceOf_64 rfl
theorem dX10_priceOf_65 : decode cX10_priceOf 65 = .ok (.iaload, 1) := de_2e tX10_priceOf_65
def tX10_priceOf_66 := Bt_1 (q := 66) tX10_priceOf_65 rfl
theorem dX10_priceOf_66 : decode cX10_priceOf 66 = .ok (.i2l, 1) := de_85 tX10_priceOf_66
def tX10_priceOf_67 := Bt_1 (q := 67) tX10_priceOf_66 rfl
theorem dX10_priceOf_67 : decode cX10_priceOf 67 = .ok (.aload_n 0, 1) := de_2a tX10_priceOf_67
def tX10_priceOf_68 := Bt_1 (q := 68) tX10_priceOf_67 rfl
theorem dX10_priceOf_68 : decode cX10_priceOf 68 = .ok (.getfield 42, 3) := de_b4 tX10_priceOf_68 (by decide +kernel)
def tX10_priceOf_71 := Bt_3 (q := 71) tX10_priceOf_68 rfl
theorem dX10_priceOf_71 : decode cX10_priceOf 71 = .ok (.iconst 1, 1) := de_04 tX10_priceOf_71
def tX10_priceOf_72 := Bt_1 (q := 72) tX10_priceOf_71 rfl
theorem dX10_priceOf_72 : decode cX10_priceOf 72 = .ok (.iaload, 1) := de_2e tX10_priceOf_72
def tX10_priceOf_73 := Bt_1 (q := 73) tX10_priceOf_72 rfl
theorem dX10_priceOf_73 : decode cX10_priceOf 73 = .ok (.i2l, 1) := de_85 tX10_priceOf_73
def tX10_priceOf_74 := Bt_1 (q := 74) tX10_priceOf_73 rfl
theorem dX10_priceOf_74 : decode cX10_priceOf 74 = .ok (.lmul, 1) := de_69 tX10_priceOf_74
def tX10_priceOf_75 := Bt_1 (q := 75) tX10_priceOf_74 rfl
theorem dX10_priceOf_75 : decode cX10_priceOf 75 = .ok (.ldc2_w 187, 3) := de_14 tX10_priceOf_75 (by decide +kernel)
def tX10_priceOf_78 := Bt_3 (q := 78) tX10_priceOf_75 rfl
theorem dX10_priceOf_78 : decode cX10_priceOf 78 = .ok (.ldiv, 1) := de_6d tX10_priceOf_78
def tX10_priceOf_79 := Bt_1 (q := 79) tX10_priceOf_78 rfl
theorem dX10_priceOf_79 : decode cX10_priceOf 79 = .ok (.l2i, 1) := de_88 tX10_priceOf_79
def tX10_priceOf_80 := Bt_1 (q := 80) tX10_priceOf_79 rfl
theorem dX10_priceOf_80 : decode cX10_priceOf 80 = .ok (.iadd, 1) := de_60 tX10_priceOf_80
def tX10_priceOf_81 := Bt_1 (q := 81) tX10_priceOf_80 rfl
theorem dX10_priceOf_81 : decode cX10_priceOf 81 = .ok (.i2l, 1) := de_85 tX10_priceOf_81
def tX10_priceOf_82 := Bt_1 (q := 82) tX10_priceOf_81 rfl
theorem dX10_priceOf_82 : decode cX10_priceOf 82 = .ok (.lstore 4, 2) := de_37 tX10_priceOf_82 (by decide +kernel)
def tX10_priceOf_84 := Bt_2 (q := 84) tX10_priceOf_82 rfl
theorem dX10_priceOf_84 : decode cX10_priceOf 84 = .ok (.lload 4, 2) := de_16 tX10_priceOf_84 (by decide +kernel)
def tX10_priceOf_86 := Bt_2 (q := 86) tX10_priceOf_84 rfl
theorem dX10_priceOf_86 : decode cX10_priceOf 86 = .ok (.aload_n 0, 1) := de_2a tX10_priceOf_86
def tX10_priceOf_87 := Bt_1 (q := 87) tX10_priceOf_86 rfl
theorem dX10_priceOf_87 : decode cX10_priceOf 87 = .ok (.getfield 13, 3) := de_b4 tX10_priceOf_87 (by decide +kernel)
def tX10_priceOf_90 := Bt_3 (q := 90) tX10_priceOf_87 rfl
theorem dX10_priceOf_90 : decode cX10_priceOf 90 = .ok (.aload_n 0, 1) := de_2a tX10_priceOf_90
def tX10_priceOf_91 := Bt_1 (q := 91) tX10_priceOf_90 rfl
theorem dX10_priceOf_91 : decode cX10_priceOf 91 = .ok (.getfield 24, 3) := de_b4 tX10_priceOf_91 (by decide +kernel)
def tX10_priceOf_94 := Bt_3 (q := 94) tX10_priceOf_91 rfl
theorem dX10_priceOf_94 : decode cX10_priceOf 94 = .ok (.iload_n 1, 1) := de_1b tX10_priceOf_94
def tX10_priceOf_95 := Bt_1 (q := 95) tX10_priceOf_94 rfl
theorem dX10_priceOf_95 : decode cX10_priceOf 95 = .ok (.iaload, 1) := de_2e tX10_priceOf_95
def tX10_priceOf_96 := Bt_1 (q := 96) tX10_priceOf_95 rfl
theorem dX10_priceOf_96 : decode cX10_priceOf 96 = .ok (.iaload, 1) := de_2e tX10_priceOf_96
def tX10_priceOf_97 := Bt_1 (q := 97) tX10_priceOf_96 rfl
theorem dX10_priceOf_97 : decode cX10_priceOf 97 = .ok (.i2l, 1) := de_85 tX10_priceOf_97
def tX10_priceOf_98 := Bt_1 (q := 98) tX10_priceOf_97 rfl
theorem dX10_priceOf_98 : decode cX10_priceOf 98 = .ok (.lmul, 1) := de_69 tX10_priceOf_98
def tX10_priceOf_99 := Bt_1 (q := 99) tX10_priceOf_98 rfl
theorem dX10_priceOf_99 : decode cX10_priceOf 99 = .ok (.ldc2_w 189, 3) := de_14 tX10_priceOf_99 (by decide +kernel)
def tX10_priceOf_102 := Bt_3 (q := 102) tX10_priceOf_99 rfl
theorem dX10_priceOf_102 : decode cX10_priceOf 102 = .ok (.ldiv, 1) := de_6d tX10_priceOf_102
def tX10_priceOf_103 := Bt_1 (q := 103) tX10_priceOf_102 rfl
theorem dX10_priceOf_103 : decode cX10_priceOf 103 = .ok (.l2i, 1) := de_88 tX10_priceOf_103
def tX10_priceOf_104 := Bt_1 (q := 104) tX10_priceOf_103 rfl
theorem dX10_priceOf_104 : decode cX10_priceOf 104 = .ok (.istore 6, 2) := de_36 tX10_priceOf_104 (by decide +kernel)
def tX10_priceOf_106 := Bt_2 (q := 106) tX10_priceOf_104 rfl
theorem dX10_priceOf_106 : decode cX10_priceOf 106 = .ok (.iload 6, 2) := de_15 tX10_priceOf_106 (by decide +kernel)
def tX10_priceOf_108 := Bt_2 (q := 108) tX10_priceOf_106 rfl
theorem dX10_priceOf_108 : decode cX10_priceOf 108 = .ok (.iconst 1, 1) := de_04 tX10_priceOf_108
def tX10_priceOf_109 := Bt_1 (q := 109) tX10_priceOf_108 rfl
theorem dX10_priceOf_109 : decode cX10_priceOf 109 = .ok (.if_icmp .ge 7, 3) := de_a2 tX10_priceOf_109 (by decide +kernel)
def tX10_priceOf_112 := Bt_3 (q := 112) tX10_priceOf_109 rfl
theorem dX10_priceOf_112 : decode cX10_priceOf 112 = .ok (.iconst 1, 1) := de_04 tX10_priceOf_112
def tX10_priceOf_113 := Bt_1 (q := 113) tX10_priceOf_112 rfl
theorem dX10_priceOf_113 : decode cX10_priceOf 113 = .ok (.goto 5, 3) := de_a7 tX10_priceOf_113 (by decide +kernel)
def tX10_priceOf_116 := Bt_3 (q := 116) tX10_priceOf_113 rfl
theorem dX10_priceOf_116 : decode cX10_priceOf 116 = .ok (.iload 6, 2) := de_15 tX10_priceOf_116 (by decide +kernel)
def tX10_priceOf_118 := Bt_2 (q := 118) tX10_priceOf_116 rfl
theorem dX10_priceOf_118 : decode cX10_priceOf 118 = .ok (.ireturn, 1) := de_ac tX10_priceOf_118
def tX10_price_0 := Bt_0 cX10_price
theorem dX10_price_0 : decode cX10_price 0 = .ok (.aload_n 0, 1) := de_2a tX10_price_0
def tX10_price_1 := Bt_1 (q := 1) tX10_price_0 rfl
theorem dX10_price_1 : decode cX10_price 1 = .ok (.iload_n 1, 1) := de_1b tX10_price_1
def tX10_price_2 := Bt_1 (q := 2) tX10_price_1 rfl
theorem dX10_price_2 : decode cX10_price 2 = .ok (.iload_n 2, 1) := de_1c tX10_price_2
def tX10_price_3 := Bt_1 (q := 3) tX10_price_2 rfl
theorem dX10_price_3 : decode cX10_price 3 = .ok (.invokevirtual 180, 3) := de_b6 tX10_price_3 (by decide +kernel)
def tX10_price_6 := Bt_3 (q := 6) tX10_price_3 rfl
theorem dX10_price_6 : decode cX10_price 6 = .ok (.istore_n 3, 1) := de_3e tX10_price_6
def tX10_price_7 := Bt_1 (q := 7) tX10_price_6 rfl
theorem dX10_price_7 : decode cX10_price 7 = .ok (.iload_n 3, 1) := de_1d tX10_price_7
def tX10_price_8 := Bt_1 (q := 8) tX10_price_7 rfl
theorem dX10_price_8 : decode cX10_price 8 = .ok (.ifCond .ge 11, 3) := de_9c tX10_price_8 (by decide +kernel)
def tX10_price_11 := Bt_3 (q := 11) tX10_price_8 rfl
theorem dX10_price_11 : decode cX10_price 11 = .ok (.aload_n 0, 1) := de_2a tX10_price_11
def tX10_price_12 := Bt_1 (q := 12) tX10_price_11 rfl
theorem dX10_price_12 : decode cX10_price 12 = .ok (.iload_n 3, 1) := de_1d tX10_price_12
def tX10_price_13 := Bt_1 (q := 13) tX10_price_12 rfl
theorem dX10_price_13 : decode cX10_price 13 = .ok (.invokevirtual 151, 3) := de_b6 tX10_price_13 (by decide +kernel)
def tX10_price_16 := Bt_3 (q := 16) tX10_price_13 rfl
theorem dX10_price_16 : decode cX10_price 16 = .ok (.goto 13, 3) := de_a7 tX10_price_16 (by decide +kernel)
def tX10_price_19 := Bt_3 (q := 19) tX10_price_16 rfl
theorem dX10_price_19 : decode cX10_price 19 = .ok (.aload_n 0, 1) := de_2a tX10_price_19
def tX10_price_20 := Bt_1 (q := 20) tX10_price_19 rfl
theorem dX10_price_20 : decode cX10_price 20 = .ok (.bipush 8, 2) := de_10 tX10_price_20 (by decide +kernel)
def tX10_price_22 := Bt_2 (q := 22) tX10_price_20 rfl
theorem dX10_price_22 : decode cX10_price 22 = .ok (.iload_n 2, 1) := de_1c tX10_price_22
def tX10_price_23 := Bt_1 (q := 23) tX10_price_22 rfl
theorem dX10_price_23 : decode cX10_price 23 = .ok (.imul, 1) := de_68 tX10_price_23
def tX10_price_24 := Bt_1 (q := 24) tX10_price_23 rfl
theorem dX10_price_24 : decode cX10_price 24 = .ok (.iload_n 1, 1) := de_1b tX10_price_24
def tX10_price_25 := Bt_1 (q := 25) tX10_price_24 rfl
theorem dX10_price_25 : decode cX10_price 25 = .ok (.iadd, 1) := de_60 tX10_price_25
def tX10_price_26 := Bt_1 (q := 26) tX10_price_25 rfl
theorem dX10_price_26 : decode cX10_price 26 = .ok (.invokevirtual 191, 3) := de_b6 tX10_price_26 (by decide +kernel)
def tX10_price_29 := Bt_3 (q := 29) tX10_price_26 rfl
theorem dX10_price_29 : decode cX10_price 29 = .ok (.ireturn, 1) := de_ac tX10_price_29
def tX10_isSilent_0 := Bt_0 cX10_isSilent
theorem dX10_isSilent_0 : decode cX10_isSilent 0 = .ok (.aload_n 0, 1) := de_2a tX10_isSilent_0
def tX10_isSilent_1 := Bt_1 (q := 1) tX10_isSilent_0 rfl
theorem dX10_isSilent_1 : decode cX10_isSilent 1 = .ok (.getfield 39, 3) := de_b4 tX10_isSilent_1 (by decide +kernel)
def tX10_isSilent_4 := Bt_3 (q := 4) tX10_isSilent_1 rfl
theorem dX10_isSilent_4 : decode cX10_isSilent 4 = .ok (.iload_n 1, 1) := de_1b tX10_isSilent_4
def tX10_isSilent_5 := Bt_1 (q := 5) tX10_isSilent_4 rfl
theorem dX10_isSilent_5 : decode cX10_isSilent 5 = .ok (.iaload, 1) := de_2e tX10_isSilent_5
def tX10_isSilent_6 := Bt_1 (q := 6) tX10_isSilent_5 rfl
theorem dX10_isSilent_6 : decode cX10_isSilent 6 = .ok (.ifCond .lt 20, 3) := de_9b tX10_isSilent_6 (by decide +kernel)
def tX10_isSilent_9 := Bt_3 (q := 9) tX10_isSilent_6 rfl
theorem dX10_isSilent_9 : decode cX10_isSilent 9 = .ok (.aload_n 0, 1) := de_2a tX10_isSilent_9
def tX10_isSilent_10 := Bt_1 (q := 10) tX10_isSilent_9 rfl
theorem dX10_isSilent_10 : decode cX10_isSilent 10 = .ok (.getfield 148, 3) := de_b4 tX10_isSilent_10 (by decide +kernel)
def tX10_isSilent_13 := Bt_3 (q := 13) tX10_isSilent_10 rfl
theorem dX10_isSilent_13 : decode cX10_isSilent 13 = .ok (.aload_n 0, 1) := de_2a tX10_isSilent_13
def tX10_isSilent_14 := Bt_1 (q := 14) tX10_isSilent_13 rfl
theorem dX10_isSilent_14 : decode cX10_isSilent 14 = .ok (.getfield 39, 3) := de_b4 tX10_isSilent_14 (by decide +kernel)
def tX10_isSilent_17 := Bt_3 (q := 17) tX10_isSilent_14 rfl
theorem dX10_isSilent_17 : decode cX10_isSilent 17 = .ok (.iload_n 1, 1) := de_1b tX10_isSilent_17
def tX10_isSilent_18 := Bt_1 (q := 18) tX10_isSilent_17 rfl
theorem dX10_isSilent_18 : decode cX10_isSilent 18 = .ok (.iaload, 1) := de_2e tX10_isSilent_18
def tX10_isSilent_19 := Bt_1 (q := 19) tX10_isSilent_18 rfl
theorem dX10_isSilent_19 : decode cX10_isSilent 19 = .ok (.if_icmp .le 7, 3) := de_a4 tX10_isSilent_19 (by decide +kernel)
def tX10_isSilent_22 := Bt_3 (q := 22) tX10_isSilent_19 rfl
theorem dX10_isSilent_22 : decode cX10_isSilent 22 = .ok (.iconst 1, 1) := de_04 tX10_isSilent_22
def tX10_isSilent_23 := Bt_1 (q := 23) tX10_isSilent_22 rfl
theorem dX10_isSilent_23 : decode cX10_isSilent 23 = .ok (.goto 4, 3) := de_a7 tX10_isSilent_23 (by decide +kernel)
def tX10_isSilent_26 := Bt_3 (q := 26) tX10_isSilent_23 rfl
theorem dX10_isSilent_26 : decode cX10_isSilent 26 = .ok (.iconst 0, 1) := de_03 tX10_isSilent_26
def tX10_isSilent_27 := Bt_1 (q := 27) tX10_isSilent_26 rfl
theorem dX10_isSilent_27 : decode cX10_isSilent 27 = .ok (.ireturn, 1) := de_ac tX10_isSilent_27
def tX10_doesStand_0 := Bt_0 cX10_doesStand
theorem dX10_doesStand_0 : decode cX10_doesStand 0 = .ok (.aload_n 0, 1) := de_2a tX10_doesStand_0
def tX10_doesStand_1 := Bt_1 (q := 1) tX10_doesStand_0 rfl
theorem dX10_doesStand_1 : decode cX10_doesStand 1 = .ok (.getfield 20, 3) := de_b4 tX10_doesStand_1 (by decide +kernel)
def tX10_doesStand_4 := Bt_3 (q := 4) tX10_doesStand_1 rfl
theorem dX10_doesStand_4 : decode cX10_doesStand 4 = .ok (.iload_n 1, 1) := de_1b tX10_doesStand_4
def tX10_doesStand_5 := Bt_1 (q := 5) tX10_doesStand_4 rfl
theorem dX10_doesStand_5 : decode cX10_doesStand 5 = .ok (.baload, 1) := de_33 tX10_doesStand_5
def tX10_doesStand_6 := Bt_1 (q := 6) tX10_doesStand_5 rfl
theorem dX10_doesStand_6 : decode cX10_doesStand 6 = .ok (.ifCond .eq 24, 3) := de_99 tX10_doesStand_6 (by decide +kernel)
def tX10_doesStand_9 := Bt_3 (q := 9) tX10_doesStand_6 rfl
theorem dX10_doesStand_9 : decode cX10_doesStand 9 = .ok (.aload_n 0, 1) := de_2a tX10_doesStand_9
def tX10_doesStand_10 := Bt_1 (q := 10) tX10_doesStand_9 rfl
theorem dX10_doesStand_10 : decode cX10_doesStand 10 = .ok (.getfield 36, 3) := de_b4 tX10_doesStand_10 (by decide +kernel)
def tX10_doesStand_13 := Bt_3 (q := 13) tX10_doesStand_10 rfl
theorem dX10_doesStand_13 : decode cX10_doesStand 13 = .ok (.iload_n 1, 1) := de_1b tX10_doesStand_13
def tX10_doesStand_14 := Bt_1 (q := 14) tX10_doesStand_13 rfl
theorem dX10_doesStand_14 : decode cX10_doesStand 14 = .ok (.baload, 1) := de_33 tX10_doesStand_14
def tX10_doesStand_15 := Bt_1 (q := 15) tX10_doesStand_14 rfl
theorem dX10_doesStand_15 : decode cX10_doesStand 15 = .ok (.ifCond .ne 15, 3) := de_9a tX10_doesStand_15 (by decide +kernel)
def tX10_doesStand_18 := Bt_3 (q := 18) tX10_doesStand_15 rfl
theorem dX10_doesStand_18 : decode cX10_doesStand 18 = .ok (.aload_n 0, 1) := de_2a tX10_doesStand_18
def tX10_doesStand_19 := Bt_1 (q := 19) tX10_doesStand_18 rfl
theorem dX10_doesStand_19 : decode cX10_doesStand 19 = .ok (.iload_n 1, 1) := de_1b tX10_doesStand_19
def tX10_doesStand_20 := Bt_1 (q := 20) tX10_doesStand_19 rfl
theorem dX10_doesStand_20 : decode cX10_doesStand 20 = .ok (.invokevirtual 194, 3) := de_b6 tX10_doesStand_20 (by decide +kernel)
def tX10_doesStand_23 := Bt_3 (q := 23) tX10_doesStand_20 rfl
theorem dX10_doesStand_23 : decode cX10_doesStand 23 = .ok (.ifCond .ne 7, 3) := de_9a tX10_doesStand_23 (by decide +kernel)
def tX10_doesStand_26 := Bt_3 (q := 26) tX10_doesStand_23 rfl
theorem dX10_doesStand_26 : decode cX10_doesStand 26 = .ok (.iconst 1, 1) := de_04 tX10_doesStand_26
def tX10_doesStand_27 := Bt_1 (q := 27) tX10_doesStand_26 rfl
theorem dX10_doesStand_27 : decode cX10_doesStand 27 = .ok (.goto 4, 3) := de_a7 tX10_doesStand_27 (by decide +kernel)
def tX10_doesStand_30 := Bt_3 (q := 30) tX10_doesStand_27 rfl
theorem dX10_doesStand_30 : decode cX10_doesStand 30 = .ok (.iconst 0, 1) := de_03 tX10_doesStand_30
def tX10_doesStand_31 := Bt_1 (q := 31) tX10_doesStand_30 rfl
theorem dX10_doesStand_31 : decode cX10_doesStand 31 = .ok (.ireturn, 1) := de_ac tX10_doesStand_31
def tX10_fails_0 := Bt_0 cX10_fails
theorem dX10_fails_0 : decode cX10_fails 0 = .ok (.aload_n 0, 1) := de_2a tX10_fails_0
def tX10_fails_1 := Bt_1 (q := 1) tX10_fails_0 rfl
theorem dX10_fails_1 : decode cX10_fails 1 = .ok (.iload_n 1, 1) := de_1b tX10_fails_1
def tX10_fails_2 := Bt_1 (q := 2) tX10_fails_1 rfl
theorem dX10_fails_2 : decode cX10_fails 2 = .ok (.iload_n 2, 1) := de_1c tX10_fails_2
def tX10_fails_3 := Bt_1 (q := 3) tX10_fails_2 rfl
theorem dX10_fails_3 : decode cX10_fails 3 = .ok (.invokevirtual 180, 3) := de_b6 tX10_fails_3 (by decide +kernel)
def tX10_fails_6 := Bt_3 (q := 6) tX10_fails_3 rfl
theorem dX10_fails_6 : decode cX10_fails 6 = .ok (.istore_n 3, 1) := de_3e tX10_fails_6
def tX10_fails_7 := Bt_1 (q := 7) tX10_fails_6 rfl
theorem dX10_fails_7 : decode cX10_fails 7 = .ok (.iload_n 3, 1) := de_1d tX10_fails_7
def tX10_fails_8 := Bt_1 (q := 8) tX10_fails_7 rfl
theorem dX10_fails_8 : decode cX10_fails 8 = .ok (.ifCond .ge 7, 3) := de_9c tX10_fails_8 (by decide +kernel)
def tX10_fails_11 := Bt_3 (q := 11) tX10_fails_8 rfl
theorem dX10_fails_11 : decode cX10_fails 11 = .ok (.iload_n 3, 1) := de_1d tX10_fails_11
def tX10_fails_12 := Bt_1 (q := 12) tX10_fails_11 rfl
theorem dX10_fails_12 : decode cX10_fails 12 = .ok (.goto 22, 3) := de_a7 tX10_fails_12 (by decide +kernel)
def tX10_fails_15 := Bt_3 (q := 15) tX10_fails_12 rfl
theorem dX10_fails_15 : decode cX10_fails 15 = .ok (.aload_n 0, 1) := de_2a tX10_fails_15
def tX10_fails_16 := Bt_1 (q := 16) tX10_fails_15 rfl
theorem dX10_fails_16 : decode cX10_fails 16 = .ok (.bipush 8, 2) := de_10 tX10_fails_16 (by decide +kernel)
def tX10_fails_18 := Bt_2 (q := 18) tX10_fails_16 rfl
theorem dX10_fails_18 : decode cX10_fails 18 = .ok (.iload_n 2, 1) := de_1c tX10_fails_18
def tX10_fails_19 := Bt_1 (q := 19) tX10_fails_18 rfl
theorem dX10_fails_19 : decode cX10_fails 19 = .ok (.imul, 1) := de_68 tX10_fails_19
def tX10_fails_20 := Bt_1 (q := 20) tX10_fails_19 rfl
theorem dX10_fails_20 : decode cX10_fails 20 = .ok (.iload_n 1, 1) := de_1b tX10_fails_20
def tX10_fails_21 := Bt_1 (q := 21) tX10_fails_20 rfl
theorem dX10_fails_21 : decode cX10_fails 21 = .ok (.iadd, 1) := de_60 tX10_fails_21
def tX10_fails_22 := Bt_1 (q := 22) tX10_fails_21 rfl
theorem dX10_fails_22 : decode cX10_fails 22 = .ok (.invokevirtual 197, 3) := de_b6 tX10_fails_22 (by decide +kernel)
def tX10_fails_25 := Bt_3 (q := 25) tX10_fails_22 rfl
theorem dX10_fails_25 : decode cX10_fails 25 = .ok (.ifCond .eq 7, 3) := de_99 tX10_fails_25 (by decide +kernel)
def tX10_fails_28 := Bt_3 (q := 28) tX10_fails_25 rfl
theorem dX10_fails_28 : decode cX10_fails 28 = .ok (.iconst 0, 1) := de_03 tX10_fails_28
def tX10_fails_29 := Bt_1 (q := 29) tX10_fails_28 rfl
theorem dX10_fails_29 : decode cX10_fails 29 = .ok (.goto 5, 3) := de_a7 tX10_fails_29 (by decide +kernel)
def tX10_fails_32 := Bt_3 (q := 32) tX10_fails_29 rfl
theorem dX10_fails_32 : decode cX10_fails 32 = .ok (.bipush (-5), 2) := de_10 tX10_fails_32 (by decide +kernel)
def tX10_fails_34 := Bt_2 (q := 34) tX10_fails_32 rfl
theorem dX10_fails_34 : decode cX10_fails 34 = .ok (.ireturn, 1) := de_ac tX10_fails_34
def tX10_isScorer_0 := Bt_0 cX10_isScorer
theorem dX10_isScorer_0 : decode cX10_isScorer 0 = .ok (.iload_n 0, 1) := de_1a tX10_isScorer_0
def tX10_isScorer_1 := Bt_1 (q := 1) tX10_isScorer_0 rfl
theorem dX10_isScorer_1 : decode cX10_isScorer 1 = .ok (.iconst 0, 1) := de_03 tX10_isScorer_1
def tX10_isScorer_2 := Bt_1 (q := 2) tX10_isScorer_1 rfl
theorem dX10_isScorer_2 : decode cX10_isScorer 2 = .ok (.iconst 5, 1) := de_08 tX10_isScorer_2
def tX10_isScorer_3 := Bt_1 (q := 3) tX10_isScorer_2 rfl
theorem dX10_isScorer_3 : decode cX10_isScorer 3 = .ok (.invokestatic 144, 3) := de_b8 tX10_isScorer_3 (by decide +kernel)
def tX10_isScorer_6 := Bt_3 (q := 6) tX10_isScorer_3 rfl
theorem dX10_isScorer_6 : decode cX10_isScorer 6 = .ok (.ireturn, 1) := de_ac tX10_isScorer_6
def tX10_note_0 := Bt_0 cX10_note
theorem dX10_note_0 : decode cX10_note 0 = .ok (.iload_n 1, 1) := de_1b tX10_note_0
def tX10_note_1 := Bt_1 (q := 1) tX10_note_0 rfl
theorem dX10_note_1 : decode cX10_note 1 = .ok (.invokestatic 200, 3) := de_b8 tX10_note_1 (by decide +kernel)
def tX10_note_4 := Bt_3 (q := 4) tX10_note_1 rfl
theorem dX10_note_4 : decode cX10_note 4 = .ok (.ifCond .ne 9, 3) := de_9a tX10_note_4 (by decide +kernel)
def tX10_note_7 := Bt_3 (q := 7) tX10_note_4 rfl
theorem dX10_note_7 : decode cX10_note 7 = .ok (.aload_n 0, 1) := de_2a tX10_note_7
def tX10_note_8 := Bt_1 (q := 8) tX10_note_7 rfl
theorem dX10_note_8 : decode cX10_note 8 = .ok (.iconst (-1), 1) := de_02 tX10_note_8
def tX10_note_9 := Bt_1 (q := 9) tX10_note_8 rfl
theorem dX10_note_9 : decode cX10_note 9 = .ok (.invokevirtual 151, 3) := de_b6 tX10_note_9 (by decide +kernel)
def tX10_note_12 := Bt_3 (q := 12) tX10_note_9 rfl
theorem dX10_note_12 : decode cX10_note 12 = .ok (.ireturn, 1) := de_ac tX10_note_12
def tX10_note_13 := Bt_1 (q := 13) tX10_note_12 rfl
theorem dX10_note_13 : decode cX10_note 13 = .ok (.aload_n 0, 1) := de_2a tX10_note_13
def tX10_note_14 := Bt_1 (q := 14) tX10_note_13 rfl
theorem dX10_note_14 : decode cX10_note 14 = .ok (.iload_n 2, 1) := de_1c tX10_note_14
def tX10_note_15 := Bt_1 (q := 15) tX10_note_14 rfl
theorem dX10_note_15 : decode cX10_note 15 = .ok (.iload_n 3, 1) := de_1d tX10_note_15
def tX10_note_16 := Bt_1 (q := 16) tX10_note_15 rfl
theorem dX10_note_16 : decode cX10_note 16 = .ok (.invokevirtual 203, 3) := de_b6 tX10_note_16 (by decide +kernel)
def tX10_note_19 := Bt_3 (q := 19) tX10_note_16 rfl
theorem dX10_note_19 : decode cX10_note 19 = .ok (.istore 5, 2) := de_36 tX10_note_19 (by decide +kernel)
def tX10_note_21 := Bt_2 (q := 21) tX10_note_19 rfl
theorem dX10_note_21 : decode cX10_note 21 = .ok (.iload 5, 2) := de_15 tX10_note_21 (by decide +kernel)
def tX10_note_23 := Bt_2 (q := 23) tX10_note_21 rfl
theorem dX10_note_23 : decode cX10_note 23 = .ok (.ifCond .ge 10, 3) := de_9c tX10_note_23 (by decide +kernel)
def tX10_note_26 := Bt_3 (q := 26) tX10_note_23 rfl
theorem dX10_note_26 : decode cX10_note 26 = .ok (.aload_n 0, 1) := de_2a tX10_note_26
def tX10_note_27 := Bt_1 (q := 27) tX10_note_26 rfl
theorem dX10_note_27 : decode cX10_note 27 = .ok (.iload 5, 2) := de_15 tX10_note_27 (by decide +kernel)
def tX10_note_29 := Bt_2 (q := 29) tX10_note_27 rfl
theorem dX10_note_29 : decode cX10_note 29 = .ok (.invokevirtual 151, 3) := de_b6 tX10_note_29 (by decide +kernel)
def tX10_note_32 := Bt_3 (q := 32) tX10_note_29 rfl
theorem dX10_note_32 : decode cX10_note 32 = .ok (.ireturn, 1) := de_ac tX10_note_32
def tX10_note_33 := Bt_1 (q := 33) tX10_note_32 rfl
theorem dX10_note_33 : decode cX10_note 33 = .ok (.aload_n 0, 1) := de_2a tX10_note_33
def tX10_note_34 := Bt_1 (q := 34) tX10_note_33 rfl
theorem dX10_note_34 : decode cX10_note 34 = .ok (.invokevirtual 160, 3) := de_b6 tX10_note_34 (by decide +kernel)
def tX10_note_37 := Bt_3 (q := 37) tX10_note_34 rfl
theorem dX10_note_37 : decode cX10_note 37 = .ok (.ifCond .eq 10, 3) := de_99 tX10_note_37 (by decide +kernel)
def tX10_note_40 := Bt_3 (q := 40) tX10_note_37 rfl
theorem dX10_note_40 : decode cX10_note 40 = .ok (.aload_n 0, 1) := de_2a tX10_note_40
def tX10_note_41 := Bt_1 (q := 41) tX10_note_40 rfl
theorem dX10_note_41 : decode cX10_note 41 = .ok (.bipush (-3), 2) := de_10 tX10_note_41 (by decide +kernel)
def tX10_note_43 := Bt_2 (q := 43) tX10_note_41 rfl
theorem dX10_note_43 : decode cX10_note 43 = .ok (.invokevirtual 151, 3) := de_b6 tX10_note_43 (by decide +kernel)
def tX10_note_46 := Bt_3 (q := 46) tX10_note_43 rfl
theorem dX10_note_46 : decode cX10_note 46 = .ok (.ireturn, 1) := de_ac tX10_note_46
def tX10_note_47 := Bt_1 (q := 47) tX10_note_46 rfl
theorem dX10_note_47 : decode cX10_note 47 = .ok (.iload 4, 2) := de_15 tX10_note_47 (by decide +kernel)
def tX10_note_49 := Bt_2 (q := 49) tX10_note_47 rfl
theorem dX10_note_49 : decode cX10_note 49 = .ok (.ifCond .ge 10, 3) := de_9c tX10_note_49 (by decide +kernel)
def tX10_note_52 := Bt_3 (q := 52) tX10_note_49 rfl
theorem dX10_note_52 : decode cX10_note 52 = .ok (.aload_n 0, 1) := de_2a tX10_note_52
def tX10_note_53 := Bt_1 (q := 53) tX10_note_52 rfl
theorem dX10_note_53 : decode cX10_note 53 = .ok (.bipush (-4), 2) := de_10 tX10_note_53 (by decide +kernel)
def tX10_note_55 := Bt_2 (q := 55) tX10_note_53 rfl
theorem dX10_note_55 : decode cX10_note 55 = .ok (.invokevirtual 151, 3) := de_b6 tX10_note_55 (by decide +kernel)
def tX10_note_58 := Bt_3 (q := 58) tX10_note_55 rfl
theorem dX10_note_58 : decode cX10_note 58 = .ok (.ireturn, 1) := de_ac tX10_note_58
def tX10_note_59 := Bt_1 (q := 59) tX10_note_58 rfl
theorem dX10_note_59 : decode cX10_note 59 = .ok (.iload 4, 2) := de_15 tX10_note_59 (by decide +kernel)
def tX10_note_61 := Bt_2 (q := 61) tX10_note_59 rfl
theorem dX10_note_61 : decode cX10_note 61 = .ok (.bipush 100, 2) := de_10 tX10_note_61 (by decide +kernel)
def tX10_note_63 := Bt_2 (q := 63) tX10_note_61 rfl
theorem dX10_note_63 : decode cX10_note 63 = .ok (.if_icmp .le 10, 3) := de_a4 tX10_note_63 (by decide +kernel)
def tX10_note_66 := Bt_3 (q := 66) tX10_note_63 rfl
theorem dX10_note_66 : decode cX10_note 66 = .ok (.aload_n 0, 1) := de_2a tX10_note_66
def tX10_note_67 := Bt_1 (q := 67) tX10_note_66 rfl
theorem dX10_note_67 : decode cX10_note 67 = .ok (.bipush (-6), 2) := de_10 tX10_note_67 (by decide +kernel)
def tX10_note_69 := Bt_2 (q := 69) tX10_note_67 rfl
theorem dX10_note_69 : decode cX10_note 69 = .ok (.invokevirtual 151, 3) := de_b6 tX10_note_69 (by decide +kernel)
def tX10_note_72 := Bt_3 (q := 72) tX10_note_69 rfl
theorem dX10_note_72 : decode cX10_note 72 = .ok (.ireturn, 1) := de_ac tX10_note_72
def tX10_note_73 := Bt_1 (q := 73) tX10_note_72 rfl
theorem dX10_note_73 : decode cX10_note 73 = .ok (.bipush 48, 2) := de_10 tX10_note_73 (by decide +kernel)
def tX10_note_75 := Bt_2 (q := 75) tX10_note_73 rfl
theorem dX10_note_75 : decode cX10_note 75 = .ok (.iload_n 1, 1) := de_1b tX10_note_75
def tX10_note_76 := Bt_1 (q := 76) tX10_note_75 rfl
theorem dX10_note_76 : decode cX10_note 76 = .ok (.imul, 1) := de_68 tX10_note_76
def tX10_note_77 := Bt_1 (q := 77) tX10_note_76 rfl
theorem dX10_note_77 : decode cX10_note 77 = .ok (.bipush 8, 2) := de_10 tX10_note_77 (by decide +kernel)
def tX10_note_79 := Bt_2 (q := 79) tX10_note_77 rfl
theorem dX10_note_79 : decode cX10_note 79 = .ok (.iload_n 3, 1) := de_1d tX10_note_79
def tX10_note_80 := Bt_1 (q := 80) tX10_note_79 rfl
theorem dX10_note_80 : decode cX10_note 80 = .ok (.imul, 1) := de_68 tX10_note_80
def tX10_note_81 := Bt_1 (q := 81) tX10_note_80 rfl
theorem dX10_note_81 : decode cX10_note 81 = .ok (.iadd, 1) := de_60 tX10_note_81
def tX10_note_82 := Bt_1 (q := 82) tX10_note_81 rfl
theorem dX10_note_82 : decode cX10_note 82 = .ok (.iload_n 2, 1) := de_1c tX10_note_82
def tX10_note_83 := Bt_1 (q := 83) tX10_note_82 rfl
theorem dX10_note_83 : decode cX10_note 83 = .ok (.iadd, 1) := de_60 tX10_note_83
def tX10_note_84 := Bt_1 (q := 84) tX10_note_83 rfl
theorem dX10_note_84 : decode cX10_note 84 = .ok (.istore 6, 2) := de_36 tX10_note_84 (by decide +kernel)
def tX10_note_86 := Bt_2 (q := 86) tX10_note_84 rfl
theorem dX10_note_86 : decode cX10_note 86 = .ok (.aload_n 0, 1) := de_2a tX10_note_86
def tX10_note_87 := Bt_1 (q := 87) tX10_note_86 rfl
theorem dX10_note_87 : decode cX10_note 87 = .ok (.getfield 45, 3) := de_b4 tX10_note_87 (by decide +kernel)
def tX10_note_90 := Bt_3 (q := 90) tX10_note_87 rfl
theorem dX10_note_90 : decode cX10_note 90 = .ok (.iload 6, 2) := de_15 tX10_note_90 (by decide +kernel)
def tX10_note_92 := Bt_2 (q := 92) tX10_note_90 rfl
theorem dX10_note_92 : decode cX10_note 92 = .ok (.iaload, 1) := de_2e tX10_note_92
def tX10_note_93 := Bt_1 (q := 93) tX10_note_92 rfl
theorem dX10_note_93 : decode cX10_note 93 = .ok (.ifCond .ge 8, 3) := de_9c tX10_note_93 (by decide +kernel)
def tX10_note_96 := Bt_3 (q := 96) tX10_note_93 rfl
theorem dX10_note_96 : decode cX10_note 96 = .ok (.bipush (-9), 2) := de_10 tX10_note_96 (by decide +kernel)
def tX10_note_98 := Bt_2 (q := 98) tX10_note_96 rfl
theorem dX10_note_98 : decode cX10_note 98 = .ok (.goto 10, 3) := de_a7 tX10_note_98 (by decide +kernel)
def tX10_note_101 := Bt_3 (q := 101) tX10_note_98 rfl
theorem dX10_note_101 : decode cX10_note 101 = .ok (.aload_n 0, 1) := de_2a tX10_note_101
def tX10_note_102 := Bt_1 (q := 102) tX10_note_101 rfl
theorem dX10_note_102 : decode cX10_note 102 = .ok (.getfield 45, 3) := de_b4 tX10_note_102 (by decide +kernel)
def tX10_note_105 := Bt_3 (q := 105) tX10_note_102 rfl
theorem dX10_note_105 : decode cX10_note 105 = .ok (.iload 6, 2) := de_15 tX10_note_105 (by decide +kernel)
def tX10_note_107 := Bt_2 (q := 107) tX10_note_105 rfl
theorem dX10_note_107 : decode cX10_note 107 = .ok (.iaload, 1) := de_2e tX10_note_107
def tX10_note_108 := Bt_1 (q := 108) tX10_note_107 rfl
theorem dX10_note_108 : decode cX10_note 108 = .ok (.istore 7, 2) := de_36 tX10_note_108 (by decide +kernel)
def tX10_note_110 := Bt_2 (q := 110) tX10_note_108 rfl
theorem dX10_note_110 : decode cX10_note 110 = .ok (.aload_n 0, 1) := de_2a tX10_note_110
def tX10_note_111 := Bt_1 (q := 111) tX10_note_110 rfl
theorem dX10_note_111 : decode cX10_note 111 = .ok (.getfield 45, 3) := de_b4 tX10_note_111 (by decide +kernel)
def tX10_note_114 := Bt_3 (q := 114) tX10_note_111 rfl
theorem dX10_note_114 : decode cX10_note 114 = .ok (.iload 6, 2) := de_15 tX10_note_114 (by decide +kernel)
def tX10_note_116 := Bt_2 (q := 116) tX10_note_114 rfl
theorem dX10_note_116 : decode cX10_note 116 = .ok (.iload 4, 2) := de_15 tX10_note_116 (by decide +kernel)
def tX10_note_118 := Bt_2 (q := 118) tX10_note_116 rfl
theorem dX10_note_118 : decode cX10_note 118 = .ok (.iastore, 1) := de_4f tX10_note_118
def tX10_note_119 := Bt_1 (q := 119) tX10_note_118 rfl
theorem dX10_note_119 : decode cX10_note 119 = .ok (.aload_n 0, 1) := de_2a tX10_note_119
def tX10_note_120 := Bt_1 (q := 120) tX10_note_119 rfl
theorem dX10_note_120 : decode cX10_note 120 = .ok (.iconst 0, 1) := de_03 tX10_note_120
def tX10_note_121 := Bt_1 (q := 121) tX10_note_120 rfl
theorem dX10_note_121 : decode cX10_note 121 = .ok (.putfield 156, 3) := de_b5 tX10_note_121 (by decide +kernel)
def tX10_note_124 := Bt_3 (q := 124) tX10_note_121 rfl
theorem dX10_note_124 : decode cX10_note 124 = .ok (.iload 7, 2) := de_15 tX10_note_124 (by decide +kernel)
def tX10_note_126 := Bt_2 (q := 126) tX10_note_124 rfl
theorem dX10_note_126 : decode cX10_note 126 = .ok (.ireturn, 1) := de_ac tX10_note_126
def tX10_bar_0 := Bt_0 cX10_bar
theorem dX10_bar_0 : decode cX10_bar 0 = .ok (.iload_n 1, 1) := de_1b tX10_bar_0
def tX10_bar_1 := Bt_1 (q := 1) tX10_bar_0 rfl
theorem dX10_bar_1 : decode cX10_bar 1 = .ok (.invokestatic 200, 3) := de_b8 tX10_bar_1 (by decide +kernel)
def tX10_bar_4 := Bt_3 (q := 4) tX10_bar_1 rfl
theorem dX10_bar_4 : decode cX10_bar 4 = .ok (.ifCond .eq 10, 3) := de_99 tX10_bar_4 (by decide +kernel)
def tX10_bar_7 := Bt_3 (q := 7) tX10_bar_4 rfl
theorem dX10_bar_7 : decode cX10_bar 7 = .ok (.iload_n 2, 1) := de_1c tX10_bar_7
def tX10_bar_8 := Bt_1 (q := 8) tX10_bar_7 rfl
theorem dX10_bar_8 : decode cX10_bar 8 = .ok (.invokestatic 166, 3) := de_b8 tX10_bar_8 (by decide +kernel)
def tX10_bar_11 := Bt_3 (q := 11) tX10_bar_8 rfl
theorem dX10_bar_11 : decode cX10_bar 11 = .ok (.ifCond .ne 9, 3) := de_9a tX10_bar_11 (by decide +kernel)
def tX10_bar_14 := Bt_3 (q := 14) tX10_bar_11 rfl
theorem dX10_bar_14 : decode cX10_bar 14 = .ok (.aload_n 0, 1) := de_2a tX10_bar_14
def tX10_bar_15 := Bt_1 (q := 15) tX10_bar_14 rfl
theorem dX10_bar_15 : decode cX10_bar 15 = .ok (.iconst (-1), 1) := de_02 tX10_bar_15
def tX10_bar_16 := Bt_1 (q := 16) tX10_bar_15 rfl
theorem dX10_bar_16 : decode cX10_bar 16 = .ok (.invokevirtual 151, 3) := de_b6 tX10_bar_16 (by decide +kernel)
def tX10_bar_19 := Bt_3 (q := 19) tX10_bar_16 rfl
theorem dX10_bar_19 : decode cX10_bar 19 = .ok (.ireturn, 1) := de_ac tX10_bar_19
def tX10_bar_20 := Bt_1 (q := 20) tX10_bar_19 rfl
theorem dX10_bar_20 : decode cX10_bar 20 = .ok (.aload_n 0, 1) := de_2a tX10_bar_20
def tX10_bar_21 := Bt_1 (q := 21) tX10_bar_20 rfl
theorem dX10_bar_21 : decode cX10_bar 21 = .ok (.getfield 48, 3) := de_b4 tX10_bar_21 (by decide +kernel)
def tX10_bar_24 := Bt_3 (q := 24) tX10_bar_21 rfl
theorem dX10_bar_24 : decode cX10_bar 24 = .ok (.bipush 8, 2) := de_10 tX10_bar_24 (by decide +kernel)
def tX10_bar_26 := Bt_2 (q := 26) tX10_bar_24 rfl
theorem dX10_bar_26 : decode cX10_bar 26 = .ok (.iload_n 1, 1) := de_1b tX10_bar_26
def tX10_bar_27 := Bt_1 (q := 27) tX10_bar_26 rfl
theorem dX10_bar_27 : decode cX10_bar 27 = .ok (.imul, 1) := de_68 tX10_bar_27
def tX10_bar_28 := Bt_1 (q := 28) tX10_bar_27 rfl
theorem dX10_bar_28 : decode cX10_bar 28 = .ok (.iload_n 2, 1) := de_1c tX10_bar_28
def tX10_bar_29 := Bt_1 (q := 29) tX10_bar_28 rfl
theorem dX10_bar_29 : decode cX10_bar 29 = .ok (.iadd, 1) := de_60 tX10_bar_29
def tX10_bar_30 := Bt_1 (q := 30) tX10_bar_29 rfl
theorem dX10_bar_30 : decode cX10_bar 30 = .ok (.baload, 1) := de_33 tX10_bar_30
def tX10_bar_31 := Bt_1 (q := 31) tX10_bar_30 rfl
theorem dX10_bar_31 : decode cX10_bar 31 = .ok (.istore 4, 2) := de_36 tX10_bar_31 (by decide +kernel)
def tX10_bar_33 := Bt_2 (q := 33) tX10_bar_31 rfl
theorem dX10_bar_33 : decode cX10_bar 33 = .ok (.aload_n 0, 1) := de_2a tX10_bar_33
def tX10_bar_34 := Bt_1 (q := 34) tX10_bar_33 rfl
theorem dX10_bar_34 : decode cX10_bar 34 = .ok (.getfield 48, 3) := de_b4 tX10_bar_34 (by decide +kernel)
def tX10_bar_37 := Bt_3 (q := 37) tX10_bar_34 rfl
theorem dX10_bar_37 : decode cX10_bar 37 = .ok (.bipush 8, 2) := de_10 tX10_bar_37 (by decide +kernel)
def tX10_bar_39 := Bt_2 (q := 39) tX10_bar_37 rfl
theorem dX10_bar_39 : decode cX10_bar 39 = .ok (.iload_n 1, 1) := de_1b tX10_bar_39
def tX10_bar_40 := Bt_1 (q := 40) tX10_bar_39 rfl
theorem dX10_bar_40 : decode cX10_bar 40 = .ok (.imul, 1) := de_68 tX10_bar_40
def tX10_bar_41 := Bt_1 (q := 41) tX10_bar_40 rfl
theorem dX10_bar_41 : decode cX10_bar 41 = .ok (.iload_n 2, 1) := de_1c tX10_bar_41
def tX10_bar_42 := Bt_1 (q := 42) tX10_bar_41 rfl
theorem dX10_bar_42 : decode cX10_bar 42 = .ok (.iadd, 1) := de_60 tX10_bar_42
def tX10_bar_43 := Bt_1 (q := 43) tX10_bar_42 rfl
theorem dX10_bar_43 : decode cX10_bar 43 = .ok (.iload_n 3, 1) := de_1d tX10_bar_43
def tX10_bar_44 := Bt_1 (q := 44) tX10_bar_43 rfl
theorem dX10_bar_44 : decode cX10_bar 44 = .ok (.bastore, 1) := de_54 tX10_bar_44
def tX10_bar_45 := Bt_1 (q := 45) tX10_bar_44 rfl
theorem dX10_bar_45 : decode cX10_bar 45 = .ok (.aload_n 0, 1) := de_2a tX10_bar_45
def tX10_bar_46 := Bt_1 (q := 46) tX10_bar_45 rfl
theorem dX10_bar_46 : decode cX10_bar 46 = .ok (.iconst 0, 1) := de_03 tX10_bar_46
def tX10_bar_47 := Bt_1 (q := 47) tX10_bar_46 rfl
theorem dX10_bar_47 : decode cX10_bar 47 = .ok (.putfield 156, 3) := de_b5 tX10_bar_47 (by decide +kernel)
def tX10_bar_50 := Bt_3 (q := 50) tX10_bar_47 rfl
theorem dX10_bar_50 : decode cX10_bar 50 = .ok (.iload 4, 2) := de_15 tX10_bar_50 (by decide +kernel)
def tX10_bar_52 := Bt_2 (q := 52) tX10_bar_50 rfl
theorem dX10_bar_52 : decode cX10_bar 52 = .ok (.iload_n 3, 1) := de_1d tX10_bar_52
def tX10_bar_53 := Bt_1 (q := 53) tX10_bar_52 rfl
theorem dX10_bar_53 : decode cX10_bar 53 = .ok (.if_icmp .ne 7, 3) := de_a0 tX10_bar_53 (by decide +kernel)
def tX10_bar_56 := Bt_3 (q := 56) tX10_bar_53 rfl
theorem dX10_bar_56 : decode cX10_bar 56 = .ok (.iconst 0, 1) := de_03 tX10_bar_56
def tX10_bar_57 := Bt_1 (q := 57) tX10_bar_56 rfl
theorem dX10_bar_57 : decode cX10_bar 57 = .ok (.goto 4, 3) := de_a7 tX10_bar_57 (by decide +kernel)
def tX10_bar_60 := Bt_3 (q := 60) tX10_bar_57 rfl
theorem dX10_bar_60 : decode cX10_bar 60 = .ok (.iconst 1, 1) := de_04 tX10_bar_60
def tX10_bar_61 := Bt_1 (q := 61) tX10_bar_60 rfl
theorem dX10_bar_61 : decode cX10_bar 61 = .ok (.ireturn, 1) := de_ac tX10_bar_61
def tX10_isAside_0 := Bt_0 cX10_isAside
theorem dX10_isAside_0 : decode cX10_isAside 0 = .ok (.iconst 0, 1) := de_03 tX10_isAside_0
def tX10_isAside_1 := Bt_1 (q := 1) tX10_isAside_0 rfl
theorem dX10_isAside_1 : decode cX10_isAside 1 = .ok (.istore 4, 2) := de_36 tX10_isAside_1 (by decide +kernel)
def tX10_isAside_3 := Bt_2 (q := 3) tX10_isAside_1 rfl
theorem dX10_isAside_3 : decode cX10_isAside 3 = .ok (.iconst 0, 1) := de_03 tX10_isAside_3
def tX10_isAside_4 := Bt_1 (q := 4) tX10_isAside_3 rfl
theorem dX10_isAside_4 : decode cX10_isAside 4 = .ok (.istore 5, 2) := de_36 tX10_isAside_4 (by decide +kernel)
def tX10_isAside_6 := Bt_2 (q := 6) tX10_isAside_4 rfl
theorem dX10_isAside_6 : decode cX10_isAside 6 = .ok (.iload 5, 2) := de_15 tX10_isAside_6 (by decide +kernel)
def tX10_isAside_8 := Bt_2 (q := 8) tX10_isAside_6 rfl
theorem dX10_isAside_8 : decode cX10_isAside 8 = .ok (.bipush 8, 2) := de_10 tX10_isAside_8 (by decide +kernel)
def tX10_isAside_10 := Bt_2 (q := 10) tX10_isAside_8 rfl
theorem dX10_isAside_10 : decode cX10_isAside 10 = .ok (.if_icmp .ge 56, 3) := de_a2 tX10_isAside_10 (by decide +kernel)
def tX10_isAside_13 := Bt_3 (q := 13) tX10_isAside_10 rfl
theorem dX10_isAside_13 : decode cX10_isAside 13 = .ok (.iload 4, 2) := de_15 tX10_isAside_13 (by decide +kernel)
def tX10_isAside_15 := Bt_2 (q := 15) tX10_isAside_13 rfl
theorem dX10_isAside_15 : decode cX10_isAside 15 = .ok (.ifCond .ne 38, 3) := de_9a tX10_isAside_15 (by decide +kernel)
def tX10_isAside_18 := Bt_3 (q := 18) tX10_isAside_15 rfl
theorem dX10_isAside_18 : decode cX10_isAside 18 = .ok (.aload_n 0, 1) := de_2a tX10_isAside_18
def tX10_isAside_19 := Bt_1 (q := 19) tX10_isAside_18 rfl
theorem dX10_isAside_19 : decode cX10_isAside 19 = .ok (.getfield 48, 3) := de_b4 tX10_isAside_19 (by decide +kernel)
def tX10_isAside_22 := Bt_3 (q := 22) tX10_isAside_19 rfl
theorem dX10_isAside_22 : decode cX10_isAside 22 = .ok (.bipush 8, 2) := de_10 tX10_isAside_22 (by decide +kernel)
def tX10_isAside_24 := Bt_2 (q := 24) tX10_isAside_22 rfl
theorem dX10_isAside_24 : decode cX10_isAside 24 = .ok (.iload_n 1, 1) := de_1b tX10_isAside_24
def tX10_isAside_25 := Bt_1 (q := 25) tX10_isAside_24 rfl
theorem dX10_isAside_25 : decode cX10_isAside 25 = .ok (.imul, 1) := de_68 tX10_isAside_25
def tX10_isAside_26 := Bt_1 (q := 26) tX10_isAside_25 rfl
theorem dX10_isAside_26 : decode cX10_isAside 26 = .ok (.iload 5, 2) := de_15 tX10_isAside_26 (by decide +kernel)
def tX10_isAside_28 := Bt_2 (q := 28) tX10_isAside_26 rfl
theorem dX10_isAside_28 : decode cX10_isAside 28 = .ok (.iadd, 1) := de_60 tX10_isAside_28
def tX10_isAside_29 := Bt_1 (q := 29) tX10_isAside_28 rfl
theorem dX10_isAside_29 : decode cX10_isAside 29 = .ok (.baload, 1) := de_33 tX10_isAside_29
def tX10_isAside_30 := Bt_1 (q := 30) tX10_isAside_29 rfl
theorem dX10_isAside_30 : decode cX10_isAside 30 = .ok (.ifCond .eq 27, 3) := de_99 tX10_isAside_30 (by decide +kernel)
def tX10_isAside_33 := Bt_3 (q := 33) tX10_isAside_30 rfl
theorem dX10_isAside_33 : decode cX10_isAside 33 = .ok (.aload_n 0, 1) := de_2a tX10_isAside_33
def tX10_isAside_34 := Bt_1 (q := 34) tX10_isAside_33 rfl
theorem dX10_isAside_34 : decode cX10_isAside 34 = .ok (.bipush 8, 2) := de_10 tX10_isAside_34 (by decide +kernel)
def tX10_isAside_36 := Bt_2 (q := 36) tX10_isAside_34 rfl
theorem dX10_isAside_36 : decode cX10_isAside 36 = .ok (.iload_n 2, 1) := de_1c tX10_isAside_36
def tX10_isAside_37 := Bt_1 (q := 37) tX10_isAside_36 rfl
theorem dX10_isAside_37 : decode cX10_isAside 37 = .ok (.imul, 1) := de_68 tX10_isAside_37
def tX10_isAside_38 := Bt_1 (q := 38) tX10_isAside_37 rfl
theorem dX10_isAside_38 : decode cX10_isAside 38 = .ok (.iload 5, 2) := de_15 tX10_isAside_38 (by decide +kernel)
def tX10_isAside_40 := Bt_2 (q := 40) tX10_isAside_38 rfl
theorem dX10_isAside_40 : decode cX10_isAside 40 = .ok (.iadd, 1) := de_60 tX10_isAside_40
def tX10_isAside_41 := Bt_1 (q := 41) tX10_isAside_40 rfl
theorem dX10_isAside_41 : decode cX10_isAside 41 = .ok (.invokevirtual 197, 3) := de_b6 tX10_isAside_41 (by decide +kernel)
def tX10_isAside_44 := Bt_3 (q := 44) tX10_isAside_41 rfl
theorem dX10_isAside_44 : decode cX10_isAside 44 = .ok (.ifCond .eq 13, 3) := de_99 tX10_isAside_44 (by decide +kernel)
def tX10_isAside_47 := Bt_3 (q := 47) tX10_isAside_44 rfl
theorem dX10_isAside_47 : decode cX10_isAside 47 = .ok (.iload 5, 2) := de_15 tX10_isAside_47 (by decide +kernel)
def tX10_isAside_49 := Bt_2 (q := 49) tX10_isAside_47 rfl
theorem dX10_isAside_49 : decode cX10_isAside 49 = .ok (.iload_n 3, 1) := de_1d tX10_isAside_49
def tX10_isAside_50 := Bt_1 (q := 50) tX10_isAside_49 rfl
theorem dX10_isAside_50 : decode cX10_isAside 50 = .ok (.if_icmp .eq 7, 3) := de_9f tX10_isAside_50 (by decide +kernel)
def tX10_isAside_53 := Bt_3 (q := 53) tX10_isAside_50 rfl
theorem dX10_isAside_53 : decode cX10_isAside 53 = .ok (.iconst 1, 1) := de_04 tX10_isAside_53
def tX10_isAside_54 := Bt_1 (q := 54) tX10_isAside_53 rfl
theorem dX10_isAside_54 : decode cX10_isAside 54 = .ok (.goto 4, 3) := de_a7 tX10_isAside_54 (by decide +kernel)
def tX10_isAside_57 := Bt_3 (q := 57) tX10_isAside_54 rfl
theorem dX10_isAside_57 : decode cX10_isAside 57 = .ok (.iconst 0, 1) := de_03 tX10_isAside_57
def tX10_isAside_58 := Bt_1 (q := 58) tX10_isAside_57 rfl
theorem dX10_isAside_58 : decode cX10_isAside 58 = .ok (.istore 4, 2) := de_36 tX10_isAside_58 (by decide +kernel)
def tX10_isAside_60 := Bt_2 (q := 60) tX10_isAside_58 rfl
theorem dX10_isAside_60 : decode cX10_isAside 60 = .ok (.iinc 5 1, 3) := de_84 tX10_isAside_60 (by decide +kernel) (by decide +kernel)
def tX10_isAside_63 := Bt_3 (q := 63) tX10_isAside_60 rfl
theorem dX10_isAside_63 : decode cX10_isAside 63 = .ok (.goto (-57), 3) := de_a7 tX10_isAside_63 (by decide +kernel)
def tX10_isAside_66 := Bt_3 (q := 66) tX10_isAside_63 rfl
theorem dX10_isAside_66 : decode cX10_isAside 66 = .ok (.iload 4, 2) := de_15 tX10_isAside_66 (by decide +kernel)
def tX10_isAside_68 := Bt_2 (q := 68) tX10_isAside_66 rfl
theorem dX10_isAside_68 : decode cX10_isAside 68 = .ok (.ireturn, 1) := de_ac tX10_isAside_68
def tX10_findQuality_0 := Bt_0 cX10_findQuality
theorem dX10_findQuality_0 : decode cX10_findQuality 0 = .ok (.aload_n 0, 1) := de_2a tX10_findQuality_0
def tX10_findQuality_1 := Bt_1 (q := 1) tX10_findQuality_0 rfl
theorem dX10_findQuality_1 : decode cX10_findQuality 1 = .ok (.iconst 0, 1) := de_03 tX10_findQuality_1
def tX10_findQuality_2 := Bt_1 (q := 2) tX10_findQuality_1 rfl
theorem dX10_findQuality_2 : decode cX10_findQuality 2 = .ok (.putfield 206, 3) := de_b5 tX10_findQuality_2 (by decide +kernel)
def tX10_findQuality_5 := Bt_3 (q := 5) tX10_findQuality_2 rfl
theorem dX10_findQuality_5 : decode cX10_findQuality 5 = .ok (.aload_n 0, 1) := de_2a tX10_findQuality_5
def tX10_findQuality_6 := Bt_1 (q := 6) tX10_findQuality_5 rfl
theorem dX10_findQuality_6 : decode cX10_findQuality 6 = .ok (.iconst 0, 1) := de_03 tX10_findQuality_6
def tX10_findQuality_7 := Bt_1 (q := 7) tX10_findQuality_6 rfl
theorem dX10_findQuality_7 : decode cX10_findQuality 7 = .ok (.putfield 209, 3) := de_b5 tX10_findQuality_7 (by decide +kernel)
def tX10_findQuality_10 := Bt_3 (q := 10) tX10_findQuality_7 rfl
theorem dX10_findQuality_10 : decode cX10_findQuality 10 = .ok (.bipush 101, 2) := de_10 tX10_findQuality_10 (by decide +kernel)
def tX10_findQuality_12 := Bt_2 (q := 12) tX10_findQuality_10 rfl
theorem dX10_findQuality_12 : decode cX10_findQuality 12 = .ok (.istore_n 3, 1) := de_3e tX10_findQuality_12
def tX10_findQuality_13 := Bt_1 (q := 13) tX10_findQuality_12 rfl
theorem dX10_findQuality_13 : decode cX10_findQuality 13 = .ok (.iconst (-1), 1) := de_02 tX10_findQuality_13
def tX10_findQuality_14 := Bt_1 (q := 14) tX10_findQuality_13 rfl
theorem dX10_findQuality_14 : decode cX10_findQuality 14 = .ok (.istore 4, 2) := de_36 tX10_findQuality_14 (by decide +kernel)
def tX10_findQuality_16 := Bt_2 (q := 16) tX10_findQuality_14 rfl
theorem dX10_findQuality_16 : decode cX10_findQuality 16 = .ok (.iconst 0, 1) := de_03 tX10_findQuality_16
def tX10_findQuality_17 := Bt_1 (q := 17) tX10_findQuality_16 rfl
theorem dX10_findQuality_17 : decode cX10_findQuality 17 = .ok (.istore 5, 2) := de_36 tX10_findQuality_17 (by decide +kernel)
def tX10_findQuality_19 := Bt_2 (q := 19) tX10_findQuality_17 rfl
theorem dX10_findQuality_19 : decode cX10_findQuality 19 = .ok (.iload 5, 2) := de_15 tX10_findQuality_19 (by decide +kernel)
def tX10_findQuality_21 := Bt_2 (q := 21) tX10_findQuality_19 rfl
theorem dX10_findQuality_21 : decode cX10_findQuality 21 = .ok (.bipush 6, 2) := de_10 tX10_findQuality_21 (by decide +kernel)
def tX10_findQuality_23 := Bt_2 (q := 23) tX10_findQuality_21 rfl
theorem dX10_findQuality_23 : decode cX10_findQuality 23 = .ok (.if_icmp .ge 92, 3) := de_a2 tX10_findQuality_23 (by decide +kernel)
def tX10_findQuality_26 := Bt_3 (q := 26) tX10_findQuality_23 rfl
theorem dX10_findQuality_26 : decode cX10_findQuality 26 = .ok (.aload_n 0, 1) := de_2a tX10_findQuality_26
def tX10_findQuality_27 := Bt_1 (q := 27) tX10_findQuality_26 rfl
theorem dX10_findQuality_27 : decode cX10_findQuality 27 = .ok (.getfield 45, 3) := de_b4 tX10_findQuality_27 (by decide +kernel)
def tX10_findQuality_30 := Bt_3 (q := 30) tX10_findQuality_27 rfl
theorem dX10_findQuality_30 : decode cX10_findQuality 30 = .ok (.bipush 48, 2) := de_10 tX10_findQuality_30 (by decide +kernel)
def tX10_findQuality_32 := Bt_2 (q := 32) tX10_findQuality_30 rfl
theorem dX10_findQuality_32 : decode cX10_findQuality 32 = .ok (.iload 5, 2) := de_15 tX10_findQuality_32 (by decide +kernel)
def tX10_findQuality_34 := Bt_2 (q := 34) tX10_findQuality_32 rfl
theorem dX10_findQuality_34 : decode cX10_findQuality 34 = .ok (.imul, 1) := de_68 tX10_findQuality_34
def tX10_findQuality_35 := Bt_1 (q := 35) tX10_findQuality_34 rfl
theorem dX10_findQuality_35 : decode cX10_findQuality 35 = .ok (.iload_n 1, 1) := de_1b tX10_findQuality_35
def tX10_findQuality_36 := Bt_1 (q := 36) tX10_findQuality_35 rfl
theorem dX10_findQuality_36 : decode cX10_findQuality 36 = .ok (.iadd, 1) := de_60 tX10_findQuality_36
def tX10_findQuality_37 := Bt_1 (q := 37) tX10_findQuality_36 rfl
theorem dX10_findQuality_37 : decode cX10_findQuality 37 = .ok (.iaload, 1) := de_2e tX10_findQuality_37
def tX10_findQuality_38 := Bt_1 (q := 38) tX10_findQuality_37 rfl
theorem dX10_findQuality_38 : decode cX10_findQuality 38 = .ok (.istore 6, 2) := de_36 tX10_findQuality_38 (by decide +kernel)
def tX10_findQuality_40 := Bt_2 (q := 40) tX10_findQuality_38 rfl
theorem dX10_findQuality_40 : decode cX10_findQuality 40 = .ok (.iload 6, 2) := de_15 tX10_findQuality_40 (by decide +kernel)
def tX10_findQuality_42 := Bt_2 (q := 42) tX10_findQuality_40 rfl
theorem dX10_findQuality_42 : decode cX10_findQuality 42 = .ok (.ifCond .lt 67, 3) := de_9b tX10_findQuality_42 (by decide +kernel)
def tX10_findQuality_45 := Bt_3 (q := 45) tX10_findQuality_42 rfl
theorem dX10_findQuality_45 : decode cX10_findQuality 45 = .ok (.aload_n 0, 1) := de_2a tX10_findQuality_45
def tX10_findQuality_46 := Bt_1 (q := 46) tX10_findQuality_45 rfl
theorem dX10_findQuality_46 : decode cX10_findQuality 46 = .ok (.iload 5, 2) := de_15 tX10_findQuality_46 (by decide +kernel)
def tX10_findQuality_48 := Bt_2 (q := 48) tX10_findQuality_46 rfl
theorem dX10_findQuality_48 : decode cX10_findQuality 48 = .ok (.iload_n 1, 1) := de_1b tX10_findQuality_48
def tX10_findQuality_49 := Bt_1 (q := 49) tX10_findQuality_48 rfl
theorem dX10_findQuality_49 : decode cX10_findQuality 49 = .ok (.bipush 8, 2) := de_10 tX10_findQuality_49 (by decide +kernel)
def tX10_findQuality_51 := Bt_2 (q := 51) tX10_findQuality_49 rfl
theorem dX10_findQuality_51 : decode cX10_findQuality 51 = .ok (.idiv, 1) := de_6c tX10_findQuality_51
def tX10_findQuality_52 := Bt_1 (q := 52) tX10_findQuality_51 rfl
theorem dX10_findQuality_52 : decode cX10_findQuality 52 = .ok (.iload_n 2, 1) := de_1c tX10_findQuality_52
def tX10_findQuality_53 := Bt_1 (q := 53) tX10_findQuality_52 rfl
theorem dX10_findQuality_53 : decode cX10_findQuality 53 = .ok (.invokevirtual 212, 3) := de_b6 tX10_findQuality_53 (by decide +kernel)
def tX10_findQuality_56 := Bt_3 (q := 56) tX10_findQuality_53 rfl
theorem dX10_findQuality_56 : decode cX10_findQuality 56 = .ok (.ifCond .ne 53, 3) := de_9a tX10_findQuality_56 (by decide +kernel)
def tX10_findQuality_59 := Bt_3 (q := 59) tX10_findQuality_56 rfl
theorem dX10_findQuality_59 : decode cX10_findQuality 59 = .ok (.aload_n 0, 1) := de_2a tX10_findQuality_59
def tX10_findQuality_60 := Bt_1 (q := 60) tX10_findQuality_59 rfl
theorem dX10_findQuality_60 : decode cX10_findQuality 60 = .ok (.dup, 1) := de_59 tX10_findQuality_60
def tX10_findQuality_61 := Bt_1 (q := 61) tX10_findQuality_60 rfl
theorem dX10_findQuality_61 : decode cX10_findQuality 61 = .ok (.getfield 206, 3) := de_b4 tX10_findQuality_61 (by decide +kernel)
def tX10_findQuality_64 := Bt_3 (q := 64) tX10_findQuality_61 rfl
theorem dX10_findQuality_64 : decode cX10_findQuality 64 = .ok (.iload 6, 2) := de_15 tX10_findQuality_64 (by decide +kernel)
def tX10_findQuality_66 := Bt_2 (q := 66) tX10_findQuality_64 rfl
theorem dX10_findQuality_66 : decode cX10_findQuality 66 = .ok (.iadd, 1) := de_60 tX10_findQuality_66
def tX10_findQuality_67 := Bt_1 (q := 67) tX10_findQuality_66 rfl
theorem dX10_findQuality_67 : decode cX10_findQuality 67 = .ok (.putfield 206, 3) := de_b5 tX10_findQuality_67 (by decide +kernel)
def tX10_findQuality_70 := Bt_3 (q := 70) tX10_findQuality_67 rfl
theorem dX10_findQuality_70 : decode cX10_findQuality 70 = .ok (.aload_n 0, 1) := de_2a tX10_findQuality_70
def tX10_findQuality_71 := Bt_1 (q := 71) tX10_findQuality_70 rfl
theorem dX10_findQuality_71 : decode cX10_findQuality 71 = .ok (.dup, 1) := de_59 tX10_findQuality_71
def tX10_findQuality_72 := Bt_1 (q := 72) tX10_findQuality_71 rfl
theorem dX10_findQuality_72 : decode cX10_findQuality 72 = .ok (.getfield 209, 3) := de_b4 tX10_findQuality_72 (by decide +kernel)
def tX10_findQuality_75 := Bt_3 (q := 75) tX10_findQuality_72 rfl
theorem dX10_findQuality_75 : decode cX10_findQuality 75 = .ok (.iconst 1, 1) := de_04 tX10_findQuality_75
def tX10_findQuality_76 := Bt_1 (q := 76) tX10_findQuality_75 rfl
theorem dX10_findQuality_76 : decode cX10_findQuality 76 = .ok (.iadd, 1) := de_60 tX10_findQuality_76
def tX10_findQuality_77 := Bt_1 (q := 77) tX10_findQuality_76 rfl
theorem dX10_findQuality_77 : decode cX10_findQuality 77 = .ok (.putfield 209, 3) := de_b5 tX10_findQuality_77 (by decide +kernel)
def tX10_findQuality_80 := Bt_3 (q := 80) tX10_findQuality_77 rfl
theorem dX10_findQuality_80 : decode cX10_findQuality 80 = .ok (.iload 6, 2) := de_15 tX10_findQuality_80 (by decide +kernel)
def tX10_findQuality_82 := Bt_2 (q := 82) tX10_findQuality_80 rfl
theorem dX10_findQuality_82 : decode cX10_findQuality 82 = .ok (.iload_n 3, 1) := de_1d tX10_findQuality_82
def tX10_findQuality_83 := Bt_1 (q := 83) tX10_findQuality_82 rfl
theorem dX10_findQuality_83 : decode cX10_findQuality 83 = .ok (.if_icmp .ge 8, 3) := de_a2 tX10_findQuality_83 (by decide +kernel)
def tX10_findQuality_86 := Bt_3 (q := 86) tX10_findQuality_83 rfl
theorem dX10_findQuality_86 : decode cX10_findQuality 86 = .ok (.iload 6, 2) := de_15 tX10_findQuality_86 (by decide +kernel)
def tX10_findQuality_88 := Bt_2 (q := 88) tX10_findQuality_86 rfl
theorem dX10_findQuality_88 : decode cX10_findQuality 88 = .ok (.goto 4, 3) := de_a7 tX10_findQuality_88 (by decide +kernel)
def tX10_findQuality_91 := Bt_3 (q := 91) tX10_findQuality_88 rfl
theorem dX10_findQuality_91 : decode cX10_findQuality 91 = .ok (.iload_n 3, 1) := de_1d tX10_findQuality_91
def tX10_findQuality_92 := Bt_1 (q := 92) tX10_findQuality_91 rfl
theorem dX10_findQuality_92 : decode cX10_findQuality 92 = .ok (.istore_n 3, 1) := de_3e tX10_findQuality_92
def tX10_findQuality_93 := Bt_1 (q := 93) tX10_findQuality_92 rfl
theorem dX10_findQuality_93 : decode cX10_findQuality 93 = .ok (.iload 6, 2) := de_15 tX10_findQuality_93 (by decide +kernel)
def tX10_findQuality_95 := Bt_2 (q := 95) tX10_findQuality_93 rfl
theorem dX10_findQuality_95 : decode cX10_findQuality 95 = .ok (.iload 4, 2) := de_15 tX10_findQuality_95 (by decide +kernel)
def tX10_findQuality_97 := Bt_2 (q := 97) tX10_findQuality_95 rfl
theorem dX10_findQuality_97 : decode cX10_findQuality 97 = .ok (.if_icmp .le 8, 3) := de_a4 tX10_findQuality_97 (by decide +kernel)
def tX10_findQuality_100 := Bt_3 (q := 100) tX10_findQuality_97 rfl
theorem dX10_findQuality_100 : decode cX10_findQuality 100 = .ok (.iload 6, 2) := de_15 tX10_findQuality_100 (by decide +kernel)
def tX10_findQuality_102 := Bt_2 (q := 102) tX10_findQuality_100 rfl
theorem dX10_findQuality_102 : decode cX10_findQuality 102 = .ok (.goto 5, 3) := de_a7 tX10_findQuality_102 (by decide +kernel)
def tX10_findQuality_105 := Bt_3 (q := 105) tX10_findQuality_102 rfl
theorem dX10_findQuality_105 : decode cX10_findQuality 105 = .ok (.iload 4, 2) := de_15 tX10_findQuality_105 (by decide +kernel)
def tX10_findQuality_107 := Bt_2 (q := 107) tX10_findQuality_105 rfl
theorem dX10_findQuality_107 : decode cX10_findQuality 107 = .ok (.istore 4, 2) := de_36 tX10_findQuality_107 (by decide +kernel)
def tX10_findQuality_109 := Bt_2 (q := 109) tX10_findQuality_107 rfl
theorem dX10_findQuality_109 : decode cX10_findQuality 109 = .ok (.iinc 5 1, 3) := de_84 tX10_findQuality_109 (by decide +kernel) (by decide +kernel)
def tX10_findQuality_112 := Bt_3 (q := 112) tX10_findQuality_109 rfl
theorem dX10_findQuality_112 : decode cX10_findQuality 112 = .ok (.goto (-93), 3) := de_a7 tX10_findQuality_112 (by decide +kernel)
def tX10_findQuality_115 := Bt_3 (q := 115) tX10_findQuality_112 rfl
theorem dX10_findQuality_115 : decode cX10_findQuality 115 = .ok (.aload_n 0, 1) := de_2a tX10_findQuality_115
def tX10_findQuality_116 := Bt_1 (q := 116) tX10_findQuality_115 rfl
theorem dX10_findQuality_116 : decode cX10_findQuality 116 = .ok (.getfield 209, 3) := de_b4 tX10_findQuality_116 (by decide +kernel)
def tX10_findQuality_119 := Bt_3 (q := 119) tX10_findQuality_116 rfl
theorem dX10_findQuality_119 : decode cX10_findQuality 119 = .ok (.iconst 4, 1) := de_07 tX10_findQuality_119
def tX10_findQuality_120 := Bt_1 (q := 120) tX10_findQuality_119 rfl
theorem dX10_findQuality_120 : decode cX10_findQuality 120 = .ok (.if_icmp .lt 26, 3) := de_a1 tX10_findQuality_120 (by decide +kernel)
def tX10_findQuality_123 := Bt_3 (q := 123) tX10_findQuality_120 rfl
theorem dX10_findQuality_123 : decode cX10_findQuality 123 = .ok (.aload_n 0, 1) := de_2a tX10_findQuality_123
def tX10_findQuality_124 := Bt_1 (q := 124) tX10_findQuality_123 rfl
theorem dX10_findQuality_124 : decode cX10_findQuality 124 = .ok (.dup, 1) := de_59 tX10_findQuality_124
def tX10_findQuality_125 := Bt_1 (q := 125) tX10_findQuality_124 rfl
theorem dX10_findQuality_125 : decode cX10_findQuality 125 = .ok (.getfield 206, 3) := de_b4 tX10_findQuality_125 (by decide +kernel)
def tX10_findQuality_128 := Bt_3 (q := 128) tX10_findQuality_125 rfl
theorem dX10_findQuality_128 : decode cX10_findQuality 128 = .ok (.iload_n 3, 1) := de_1d tX10_findQuality_128
def tX10_findQuality_129 := Bt_1 (q := 129) tX10_findQuality_128 rfl
theorem dX10_findQuality_129 : decode cX10_findQuality 129 = .ok (.iload 4, 2) := de_15 tX10_findQuality_129 (by decide +kernel)
def tX10_findQuality_131 := Bt_2 (q := 131) tX10_findQuality_129 rfl
theorem dX10_findQuality_131 : decode cX10_findQuality 131 = .ok (.iadd, 1) := de_60 tX10_findQuality_131
def tX10_findQuality_132 := Bt_1 (q := 132) tX10_findQuality_131 rfl
theorem dX10_findQuality_132 : decode cX10_findQuality 132 = .ok (.isub, 1) := de_64 tX10_findQuality_132
def tX10_findQuality_133 := Bt_1 (q := 133) tX10_findQuality_132 rfl
theorem dX10_findQuality_133 : decode cX10_findQuality 133 = .ok (.putfield 206, 3) := de_b5 tX10_findQuality_133 (by decide +kernel)
def tX10_findQuality_136 := Bt_3 (q := 136) tX10_findQuality_133 rfl
theorem dX10_findQuality_136 : decode cX10_findQuality 136 = .ok (.aload_n 0, 1) := de_2a tX10_findQuality_136
def tX10_findQuality_137 := Bt_1 (q := 137) tX10_findQuality_136 rfl
theorem dX10_findQuality_137 : decode cX10_findQuality 137 = .ok (.dup, 1) := de_59 tX10_findQuality_137
def tX10_findQuality_138 := Bt_1 (q := 138) tX10_findQuality_137 rfl
theorem dX10_findQuality_138 : decode cX10_findQuality 138 = .ok (.getfield 209, 3) := de_b4 tX10_findQuality_138 (by decide +kernel)
def tX10_findQuality_141 := Bt_3 (q := 141) tX10_findQuality_138 rfl
theorem dX10_findQuality_141 : decode cX10_findQuality 141 = .ok (.iconst 2, 1) := de_05 tX10_findQuality_141
def tX10_findQuality_142 := Bt_1 (q := 142) tX10_findQuality_141 rfl
theorem dX10_findQuality_142 : decode cX10_findQuality 142 = .ok (.isub, 1) := de_64 tX10_findQuality_142
def tX10_findQuality_143 := Bt_1 (q := 143) tX10_findQuality_142 rfl
theorem dX10_findQuality_143 : decode cX10_findQuality 143 = .ok (.putfield 209, 3) := de_b5 tX10_findQuality_143 (by decide +kernel)
def tX10_findQuality_146 := Bt_3 (q := 146) tX10_findQuality_143 rfl
theorem dX10_findQuality_146 : decode cX10_findQuality 146 = .ok (.aload_n 0, 1) := de_2a tX10_findQuality_146
def tX10_findQuality_147 := Bt_1 (q := 147) tX10_findQuality_146 rfl
theorem dX10_findQuality_147 : decode cX10_findQuality 147 = .ok (.aload_n 0, 1) := de_2a tX10_findQuality_147
def tX10_findQuality_148 := Bt_1 (q := 148) tX10_findQuality_147 rfl
theorem dX10_findQuality_148 : decode cX10_findQuality 148 = .ok (.getfield 209, 3) := de_b4 tX10_findQuality_148 (by decide +kernel)
def tX10_findQuality_151 := Bt_3 (q := 151) tX10_findQuality_148 rfl
theorem dX10_findQuality_151 : decode cX10_findQuality 151 = .ok (.ifCond .ne 7, 3) := de_9a tX10_findQuality_151 (by decide +kernel)
def tX10_findQuality_154 := Bt_3 (q := 154) tX10_findQuality_151 rfl
theorem dX10_findQuality_154 : decode cX10_findQuality 154 = .ok (.iconst 1, 1) := de_04 tX10_findQuality_154
def tX10_findQuality_155 := Bt_1 (q := 155) tX10_findQuality_154 rfl
theorem dX10_findQuality_155 : decode cX10_findQuality 155 = .ok (.goto 7, 3) := de_a7 tX10_findQuality_155 (by decide +kernel)
def tX10_findQuality_158 := Bt_3 (q := 158) tX10_findQuality_155 rfl
theorem dX10_findQuality_158 : decode cX10_findQuality 158 = .ok (.aload_n 0, 1) := de_2a tX10_findQuality_158
def tX10_findQuality_159 := Bt_1 (q := 159) tX10_findQuality_158 rfl
theorem dX10_findQuality_159 : decode cX10_findQuality 159 = .ok (.getfield 209, 3) := de_b4 tX10_findQuality_159 (by decide +kernel)
def tX10_findQuality_162 := Bt_3 (q := 162) tX10_findQuality_159 rfl
theorem dX10_findQuality_162 : decode cX10_findQuality 162 = .ok (.putfield 209, 3) := de_b5 tX10_findQuality_162 (by decide +kernel)
def tX10_findQuality_165 := Bt_3 (q := 165) tX10_findQuality_162 rfl
theorem dX10_findQuality_165 : decode cX10_findQuality 165 = .ok (.return_, 1) := de_b1 tX10_findQuality_165
def tX10_divisor_0 := Bt_0 cX10_divisor
theorem dX10_divisor_0 : decode cX10_divisor 0 = .ok (.lload_n 0, 1) := de_1e tX10_divisor_0
def tX10_divisor_1 := Bt_1 (q := 1) tX10_divisor_0 rfl
theorem dX10_divisor_1 : decode cX10_divisor 1 = .ok (.lconst 0, 1) := de_09 tX10_divisor_1
def tX10_divisor_2 := Bt_1 (q := 2) tX10_divisor_1 rfl
theorem dX10_divisor_2 : decode cX10_divisor 2 = .ok (.lcmp, 1) := de_94 tX10_divisor_2
def tX10_divisor_3 := Bt_1 (q := 3) tX10_divisor_2 rfl
theorem dX10_divisor_3 : decode cX10_divisor 3 = .ok (.ifCond .ge 8, 3) := de_9c tX10_divisor_3 (by decide +kernel)
def tX10_divisor_6 := Bt_3 (q := 6) tX10_divisor_3 rfl
theorem dX10_divisor_6 : decode cX10_divisor 6 = .ok (.lload_n 0, 1) := de_1e tX10_divisor_6
def tX10_divisor_7 := Bt_1 (q := 7) tX10_divisor_6 rfl
theorem dX10_divisor_7 : decode cX10_divisor 7 = .ok (.lneg, 1) := de_75 tX10_divisor_7
def tX10_divisor_8 := Bt_1 (q := 8) tX10_divisor_7 rfl
theorem dX10_divisor_8 : decode cX10_divisor 8 = .ok (.goto 4, 3) := de_a7 tX10_divisor_8 (by decide +kernel)
def tX10_divisor_11 := Bt_3 (q := 11) tX10_divisor_8 rfl
theorem dX10_divisor_11 : decode cX10_divisor 11 = .ok (.lload_n 0, 1) := de_1e tX10_divisor_11
def tX10_divisor_12 := Bt_1 (q := 12) tX10_divisor_11 rfl
theorem dX10_divisor_12 : decode cX10_divisor 12 = .ok (.lstore 4, 2) := de_37 tX10_divisor_12 (by decide +kernel)
def tX10_divisor_14 := Bt_2 (q := 14) tX10_divisor_12 rfl
theorem dX10_divisor_14 : decode cX10_divisor 14 = .ok (.lload_n 2, 1) := de_20 tX10_divisor_14
def tX10_divisor_15 := Bt_1 (q := 15) tX10_divisor_14 rfl
theorem dX10_divisor_15 : decode cX10_divisor 15 = .ok (.lstore 6, 2) := de_37 tX10_divisor_15 (by decide +kernel)
def tX10_divisor_17 := Bt_2 (q := 17) tX10_divisor_15 rfl
theorem dX10_divisor_17 : decode cX10_divisor 17 = .ok (.lload 6, 2) := de_16 tX10_divisor_17 (by decide +kernel)
def tX10_divisor_19 := Bt_2 (q := 19) tX10_divisor_17 rfl
theorem dX10_divisor_19 : decode cX10_divisor 19 = .ok (.lconst 0, 1) := de_09 tX10_divisor_19
def tX10_divisor_20 := Bt_1 (q := 20) tX10_divisor_19 rfl
theorem dX10_divisor_20 : decode cX10_divisor 20 = .ok (.lcmp, 1) := de_94 tX10_divisor_20
def tX10_divisor_21 := Bt_1 (q := 21) tX10_divisor_20 rfl
theorem dX10_divisor_21 : decode cX10_divisor 21 = .ok (.ifCond .eq 21, 3) := de_99 tX10_divisor_21 (by decide +kernel)
def tX10_divisor_24 := Bt_3 (q := 24) tX10_divisor_21 rfl
theorem dX10_divisor_24 : decode cX10_divisor 24 = .ok (.lload 4, 2) := de_16 tX10_divisor_24 (by decide +kernel)
def tX10_divisor_26 := Bt_2 (q := 26) tX10_divisor_24 rfl
theorem dX10_divisor_26 : decode cX10_divisor 26 = .ok (.lload 6, 2) := de_16 tX10_divisor_26 (by decide +kernel)
def tX10_divisor_28 := Bt_2 (q := 28) tX10_divisor_26 rfl
theorem dX10_divisor_28 : decode cX10_divisor 28 = .ok (.lrem, 1) := de_71 tX10_divisor_28
def tX10_divisor_29 := Bt_1 (q := 29) tX10_divisor_28 rfl
theorem dX10_divisor_29 : decode cX10_divisor 29 = .ok (.lstore 8, 2) := de_37 tX10_divisor_29 (by decide +kernel)
def tX10_divisor_31 := Bt_2 (q := 31) tX10_divisor_29 rfl
theorem dX10_divisor_31 : decode cX10_divisor 31 = .ok (.lload 6, 2) := de_16 tX10_divisor_31 (by decide +kernel)
def tX10_divisor_33 := Bt_2 (q := 33) tX10_divisor_31 rfl
theorem dX10_divisor_33 : decode cX10_divisor 33 = .ok (.lstore 4, 2) := de_37 tX10_divisor_33 (by decide +kernel)
def tX10_divisor_35 := Bt_2 (q := 35) tX10_divisor_33 rfl
theorem dX10_divisor_35 : decode cX10_divisor 35 = .ok (.lload 8, 2) := de_16 tX10_divisor_35 (by decide +kernel)
def tX10_divisor_37 := Bt_2 (q := 37) tX10_divisor_35 rfl
theorem dX10_divisor_37 : decode cX10_divisor 37 = .ok (.lstore 6, 2) := de_37 tX10_divisor_37 (by decide +kernel)
def tX10_divisor_39 := Bt_2 (q := 39) tX10_divisor_37 rfl
theorem dX10_divisor_39 : decode cX10_divisor 39 = .ok (.goto (-22), 3) := de_a7 tX10_divisor_39 (by decide +kernel)
def tX10_divisor_42 := Bt_3 (q := 42) tX10_divisor_39 rfl
theorem dX10_divisor_42 : decode cX10_divisor 42 = .ok (.lload 4, 2) := de_16 tX10_divisor_42 (by decide +kernel)
def tX10_divisor_44 := Bt_2 (q := 44) tX10_divisor_42 rfl
theorem dX10_divisor_44 : decode cX10_divisor 44 = .ok (.lreturn, 1) := de_ad tX10_divisor_44
def tX10_quality_0 := Bt_0 cX10_quality
theorem dX10_quality_0 : decode cX10_quality 0 = .ok (.iload_n 1, 1) := de_1b tX10_quality_0
def tX10_quality_1 := Bt_1 (q := 1) tX10_quality_0 rfl
theorem dX10_quality_1 : decode cX10_quality 1 = .ok (.invokestatic 166, 3) := de_b8 tX10_quality_1 (by decide +kernel)
def tX10_quality_4 := Bt_3 (q := 4) tX10_quality_1 rfl
theorem dX10_quality_4 : decode cX10_quality 4 = .ok (.ifCond .eq 11, 3) := de_99 tX10_quality_4 (by decide +kernel)
def tX10_quality_7 := Bt_3 (q := 7) tX10_quality_4 rfl
theorem dX10_quality_7 : decode cX10_quality 7 = .ok (.aload_n 0, 1) := de_2a tX10_quality_7
def tX10_quality_8 := Bt_1 (q := 8) tX10_quality_7 rfl
theorem dX10_quality_8 : decode cX10_quality 8 = .ok (.iload_n 2, 1) := de_1c tX10_quality_8
def tX10_quality_9 := Bt_1 (q := 9) tX10_quality_8 rfl
theorem dX10_quality_9 : decode cX10_quality 9 = .ok (.invokevirtual 170, 3) := de_b6 tX10_quality_9 (by decide +kernel)
def tX10_quality_12 := Bt_3 (q := 12) tX10_quality_9 rfl
theorem dX10_quality_12 : decode cX10_quality 12 = .ok (.ifCond .ne 9, 3) := de_9a tX10_quality_12 (by decide +kernel)
def tX10_quality_15 := Bt_3 (q := 15) tX10_quality_12 rfl
theorem dX10_quality_15 : decode cX10_quality 15 = .ok (.aload_n 0, 1) := de_2a tX10_quality_15
def tX10_quality_16 := Bt_1 (q := 16) tX10_quality_15 rfl
theorem dX10_quality_16 : decode cX10_quality 16 = .ok (.iconst (-1), 1) := de_02 tX10_quality_16
def tX10_quality_17 := Bt_1 (q := 17) tX10_quality_16 rfl
theorem dX10_quality_17 : decode cX10_quality 17 = .ok (.invokevirtual 151, 3) := de_b6 tX10_quality_17 (by decide +kernel)
def tX10_quality_20 := Bt_3 (q := 20) tX10_quality_17 rfl
theorem dX10_quality_20 : decode cX10_quality 20 = .ok (.ireturn, 1) := de_ac tX10_quality_20
def tX10_quality_21 := Bt_1 (q := 21) tX10_quality_20 rfl
theorem dX10_quality_21 : decode cX10_quality 21 = .ok (.iload_n 3, 1) := de_1d tX10_quality_21
def tX10_quality_22 := Bt_1 (q := 22) tX10_quality_21 rfl
theorem dX10_quality_22 : decode cX10_quality 22 = .ok (.iconst 0, 1) := de_03 tX10_quality_22
def tX10_quality_23 := Bt_1 (q := 23) tX10_quality_22 rfl
theorem dX10_quality_23 : decode cX10_quality 23 = .ok (.iconst 1, 1) := de_04 tX10_quality_23
def tX10_quality_24 := Bt_1 (q := 24) tX10_quality_23 rfl
theorem dX10_quality_24 : decode cX10_quality 24 = .ok (.invokestatic 144, 3) := de_b8 tX10_quality_24 (by decide +kernel)
def tX10_quality_27 := Bt_3 (q := 27) tX10_quality_24 rfl
theorem dX10_quality_27 : decode cX10_quality 27 = .ok (.ifCond .ne 10, 3) := de_9a tX10_quality_27 (by decide +kernel)
def tX10_quality_30 := Bt_3 (q := 30) tX10_quality_27 rfl
theorem dX10_quality_30 : decode cX10_quality 30 = .ok (.aload_n 0, 1) := de_2a tX10_quality_30
def tX10_quality_31 := Bt_1 (q := 31) tX10_quality_30 rfl
theorem dX10_quality_31 : decode cX10_quality 31 = .ok (.bipush (-2), 2) := de_10 tX10_quality_31 (by decide +kernel)
def tX10_quality_33 := Bt_2 (q := 33) tX10_quality_31 rfl
theorem dX10_quality_33 : decode cX10_quality 33 = .ok (.invokevirtual 151, 3) := de_b6 tX10_quality_33 (by decide +kernel)
def tX10_quality_36 := Bt_3 (q := 36) tX10_quality_33 rfl
theorem dX10_quality_36 : decode cX10_quality 36 = .ok (.ireturn, 1) := de_ac tX10_quality_36
def tX10_quality_37 := Bt_1 (q := 37) tX10_quality_36 rfl
theorem dX10_quality_37 : decode cX10_quality 37 = .ok (.aload_n 0, 1) := de_2a tX10_quality_37
def tX10_quality_38 := Bt_1 (q := 38) tX10_quality_37 rfl
theorem dX10_quality_38 : decode cX10_quality 38 = .ok (.getfield 20, 3) := de_b4 tX10_quality_38 (by decide +kernel)
def tX10_quality_41 := Bt_3 (q := 41) tX10_quality_38 rfl
theorem dX10_quality_41 : decode cX10_quality 41 = .ok (.bipush 8, 2) := de_10 tX10_quality_41 (by decide +kernel)
def tX10_quality_43 := Bt_2 (q := 43) tX10_quality_41 rfl
theorem dX10_quality_43 : decode cX10_quality 43 = .ok (.iload_n 2, 1) := de_1c tX10_quality_43
def tX10_quality_44 := Bt_1 (q := 44) tX10_quality_43 rfl
theorem dX10_quality_44 : decode cX10_quality 44 = .ok (.imul, 1) := de_68 tX10_quality_44
def tX10_quality_45 := Bt_1 (q := 45) tX10_quality_44 rfl
theorem dX10_quality_45 : decode cX10_quality 45 = .ok (.iload_n 1, 1) := de_1b tX10_quality_45
def tX10_quality_46 := Bt_1 (q := 46) tX10_quality_45 rfl
theorem dX10_quality_46 : decode cX10_quality 46 = .ok (.iadd, 1) := de_60 tX10_quality_46
def tX10_quality_47 := Bt_1 (q := 47) tX10_quality_46 rfl
theorem dX10_quality_47 : decode cX10_quality 47 = .ok (.baload, 1) := de_33 tX10_quality_47
def tX10_quality_48 := Bt_1 (q := 48) tX10_quality_47 rfl
theorem dX10_quality_48 : decode cX10_quality 48 = .ok (.ifCond .ne 10, 3) := de_9a tX10_quality_48 (by decide +kernel)
def tX10_quality_51 := Bt_3 (q := 51) tX10_quality_48 rfl
theorem dX10_quality_51 : decode cX10_quality 51 = .ok (.aload_n 0, 1) := de_2a tX10_quality_51
def tX10_quality_52 := Bt_1 (q := 52) tX10_quality_51 rfl
theorem dX10_quality_52 : decode cX10_quality 52 = .ok (.bipush (-5), 2) := de_10 tX10_quality_52 (by decide +kernel)
def tX10_quality_54 := Bt_2 (q := 54) tX10_quality_52 rfl
theorem dX10_quality_54 : decode cX10_quality 54 = .ok (.invokevirtual 151, 3) := de_b6 tX10_quality_54 (by decide +kernel)
def tX10_quality_57 := Bt_3 (q := 57) tX10_quality_54 rfl
theorem dX10_quality_57 : decode cX10_quality 57 = .ok (.ireturn, 1) := de_ac tX10_quality_57
def tX10_quality_58 := Bt_1 (q := 58) tX10_quality_57 rfl
theorem dX10_quality_58 : decode cX10_quality 58 = .ok (.aload_n 0, 1) := de_2a tX10_quality_58
def tX10_quality_59 := Bt_1 (q := 59) tX10_quality_58 rfl
theorem dX10_quality_59 : decode cX10_quality 59 = .ok (.bipush 8, 2) := de_10 tX10_quality_59 (by decide +kernel)
def tX10_quality_61 := Bt_2 (q := 61) tX10_quality_59 rfl
theorem dX10_quality_61 : decode cX10_quality 61 = .ok (.iload_n 2, 1) := de_1c tX10_quality_61
def tX10_quality_62 := Bt_1 (q := 62) tX10_quality_61 rfl
theorem dX10_quality_62 : decode cX10_quality 62 = .ok (.imul, 1) := de_68 tX10_quality_62
def tX10_quality_63 := Bt_1 (q := 63) tX10_quality_62 rfl
theorem dX10_quality_63 : decode cX10_quality 63 = .ok (.iload_n 1, 1) := de_1b tX10_quality_63
def tX10_quality_64 := Bt_1 (q := 64) tX10_quality_63 rfl
theorem dX10_quality_64 : decode cX10_quality 64 = .ok (.iadd, 1) := de_60 tX10_quality_64
def tX10_quality_65 := Bt_1 (q := 65) tX10_quality_64 rfl
theorem dX10_quality_65 : decode cX10_quality 65 = .ok (.iconst (-1), 1) := de_02 tX10_quality_65
def tX10_quality_66 := Bt_1 (q := 66) tX10_quality_65 rfl
theorem dX10_quality_66 : decode cX10_quality 66 = .ok (.invokevirtual 215, 3) := de_b6 tX10_quality_66 (by decide +kernel)
def tX10_quality_69 := Bt_3 (q := 69) tX10_quality_66 rfl
theorem dX10_quality_69 : decode cX10_quality 69 = .ok (.aload_n 0, 1) := de_2a tX10_quality_69
def tX10_quality_70 := Bt_1 (q := 70) tX10_quality_69 rfl
theorem dX10_quality_70 : decode cX10_quality 70 = .ok (.getfield 206, 3) := de_b4 tX10_quality_70 (by decide +kernel)
def tX10_quality_73 := Bt_3 (q := 73) tX10_quality_70 rfl
theorem dX10_quality_73 : decode cX10_quality 73 = .ok (.i2l, 1) := de_85 tX10_quality_73
def tX10_quality_74 := Bt_1 (q := 74) tX10_quality_73 rfl
theorem dX10_quality_74 : decode cX10_quality 74 = .ok (.aload_n 0, 1) := de_2a tX10_quality_74
def tX10_quality_75 := Bt_1 (q := 75) tX10_quality_74 rfl
theorem dX10_quality_75 : decode cX10_quality 75 = .ok (.getfield 209, 3) := de_b4 tX10_quality_75 (by decide +kernel)
def tX10_quality_78 := Bt_3 (q := 78) tX10_quality_75 rfl
theorem dX10_quality_78 : decode cX10_quality 78 = .ok (.i2l, 1) := de_85 tX10_quality_78
def tX10_quality_79 := Bt_1 (q := 79) tX10_quality_78 rfl
theorem dX10_quality_79 : decode cX10_quality 79 = .ok (.invokestatic 219, 3) := de_b8 tX10_quality_79 (by decide +kernel)
def tX10_quality_82 := Bt_3 (q := 82) tX10_quality_79 rfl
theorem dX10_quality_82 : decode cX10_quality 82 = .ok (.l2i, 1) := de_88 tX10_quality_82
def tX10_quality_83 := Bt_1 (q := 83) tX10_quality_82 rfl
theorem dX10_quality_83 : decode cX10_quality 83 = .ok (.istore 4, 2) := de_36 tX10_quality_83 (by decide +kernel)
def tX10_quality_85 := Bt_2 (q := 85) tX10_quality_83 rfl
theorem dX10_quality_85 : decode cX10_quality 85 = .ok (.iload_n 3, 1) := de_1d tX10_quality_85
def tX10_quality_86 := Bt_1 (q := 86) tX10_quality_85 rfl
theorem dX10_quality_86 : decode cX10_quality 86 = .ok (.ifCond .ne 13, 3) := de_9a tX10_quality_86 (by decide +kernel)
def tX10_quality_89 := Bt_3 (q := 89) tX10_quality_86 rfl
theorem dX10_quality_89 : decode cX10_quality 89 = .ok (.aload_n 0, 1) := de_2a tX10_quality_89
def tX10_quality_90 := Bt_1 (q := 90) tX10_quality_89 rfl
theorem dX10_quality_90 : decode cX10_quality 90 = .ok (.getfield 206, 3) := de_b4 tX10_quality_90 (by decide +kernel)
def tX10_quality_93 := Bt_3 (q := 93) tX10_quality_90 rfl
theorem dX10_quality_93 : decode cX10_quality 93 = .ok (.iload 4, 2) := de_15 tX10_quality_93 (by decide +kernel)
def tX10_quality_95 := Bt_2 (q := 95) tX10_quality_93 rfl
theorem dX10_quality_95 : decode cX10_quality 95 = .ok (.idiv, 1) := de_6c tX10_quality_95
def tX10_quality_96 := Bt_1 (q := 96) tX10_quality_95 rfl
theorem dX10_quality_96 : decode cX10_quality 96 = .ok (.goto 10, 3) := de_a7 tX10_quality_96 (by decide +kernel)
def tX10_quality_99 := Bt_3 (q := 99) tX10_quality_96 rfl
theorem dX10_quality_99 : decode cX10_quality 99 = .ok (.aload_n 0, 1) := de_2a tX10_quality_99
def tX10_quality_100 := Bt_1 (q := 100) tX10_quality_99 rfl
theorem dX10_quality_100 : decode cX10_quality 100 = .ok (.getfield 209, 3) := de_b4 tX10_quality_100 (by decide +kernel)
def tX10_quality_103 := Bt_3 (q := 103) tX10_quality_100 rfl
theorem dX10_quality_103 : decode cX10_quality 103 = .ok (.iload 4, 2) := de_15 tX10_quality_103 (by decide +kernel)
def tX10_quality_105 := Bt_2 (q := 105) tX10_quality_103 rfl
theorem dX10_quality_105 : decode cX10_quality 105 = .ok (.idiv, 1) := de_6c tX10_quality_105
def tX10_quality_106 := Bt_1 (q := 106) tX10_quality_105 rfl
theorem dX10_quality_106 : decode cX10_quality 106 = .ok (.ireturn, 1) := de_ac tX10_quality_106
def tX10_feed_0 := Bt_0 cX10_feed
theorem dX10_feed_0 : decode cX10_feed 0 = .ok (.iload_n 1, 1) := de_1b tX10_feed_0
def tX10_feed_1 := Bt_1 (q := 1) tX10_feed_0 rfl
theorem dX10_feed_1 : decode cX10_feed 1 = .ok (.iconst 1, 1) := de_04 tX10_feed_1
def tX10_feed_2 := Bt_1 (q := 2) tX10_feed_1 rfl
theorem dX10_feed_2 : decode cX10_feed 2 = .ok (.if_icmp .ge 10, 3) := de_a2 tX10_feed_2 (by decide +kernel)
def tX10_feed_5 := Bt_3 (q := 5) tX10_feed_2 rfl
theorem dX10_feed_5 : decode cX10_feed 5 = .ok (.aload_n 0, 1) := de_2a tX10_feed_5
def tX10_feed_6 := Bt_1 (q := 6) tX10_feed_5 rfl
theorem dX10_feed_6 : decode cX10_feed 6 = .ok (.bipush (-4), 2) := de_10 tX10_feed_6 (by decide +kernel)
def tX10_feed_8 := Bt_2 (q := 8) tX10_feed_6 rfl
theorem dX10_feed_8 : decode cX10_feed 8 = .ok (.invokevirtual 151, 3) := de_b6 tX10_feed_8 (by decide +kernel)
def tX10_feed_11 := Bt_3 (q := 11) tX10_feed_8 rfl
theorem dX10_feed_11 : decode cX10_feed 11 = .ok (.ireturn, 1) := de_ac tX10_feed_11
def tX10_feed_12 := Bt_1 (q := 12) tX10_feed_11 rfl
theorem dX10_feed_12 : decode cX10_feed 12 = .ok (.iload_n 1, 1) := de_1b tX10_feed_12
def tX10_feed_13 := Bt_1 (q := 13) tX10_feed_12 rfl
theorem dX10_feed_13 : decode cX10_feed 13 = .ok (.bipush 8, 2) := de_10 tX10_feed_13 (by decide +kernel)
def tX10_feed_15 := Bt_2 (q := 15) tX10_feed_13 rfl
theorem dX10_feed_15 : decode cX10_feed 15 = .ok (.if_icmp .gt 14, 3) := de_a3 tX10_feed_15 (by decide +kernel)
def tX10_feed_18 := Bt_3 (q := 18) tX10_feed_15 rfl
theorem dX10_feed_18 : decode cX10_feed 18 = .ok (.aload_n 0, 1) := de_2a tX10_feed_18
def tX10_feed_19 := Bt_1 (q := 19) tX10_feed_18 rfl
theorem dX10_feed_19 : decode cX10_feed 19 = .ok (.getfield 223, 3) := de_b4 tX10_feed_19 (by decide +kernel)
def tX10_feed_22 := Bt_3 (q := 22) tX10_feed_19 rfl
theorem dX10_feed_22 : decode cX10_feed 22 = .ok (.iload_n 1, 1) := de_1b tX10_feed_22
def tX10_feed_23 := Bt_1 (q := 23) tX10_feed_22 rfl
theorem dX10_feed_23 : decode cX10_feed 23 = .ok (.iadd, 1) := de_60 tX10_feed_23
def tX10_feed_24 := Bt_1 (q := 24) tX10_feed_23 rfl
theorem dX10_feed_24 : decode cX10_feed 24 = .ok (.bipush 80, 2) := de_10 tX10_feed_24 (by decide +kernel)
def tX10_feed_26 := Bt_2 (q := 26) tX10_feed_24 rfl
theorem dX10_feed_26 : decode cX10_feed 26 = .ok (.if_icmp .le 10, 3) := de_a4 tX10_feed_26 (by decide +kernel)
def tX10_feed_29 := Bt_3 (q := 29) tX10_feed_26 rfl
theorem dX10_feed_29 : decode cX10_feed 29 = .ok (.aload_n 0, 1) := de_2a tX10_feed_29
def tX10_feed_30 := Bt_1 (q := 30) tX10_feed_29 rfl
theorem dX10_feed_30 : decode cX10_feed 30 = .ok (.bipush (-6), 2) := de_10 tX10_feed_30 (by decide +kernel)
def tX10_feed_32 := Bt_2 (q := 32) tX10_feed_30 rfl
theorem dX10_feed_32 : decode cX10_feed 32 = .ok (.invokevirtual 151, 3) := de_b6 tX10_feed_32 (by decide +kernel)
def tX10_feed_35 := Bt_3 (q := 35) tX10_feed_32 rfl
theorem dX10_feed_35 : decode cX10_feed 35 = .ok (.ireturn, 1) := de_ac tX10_feed_35
def tX10_feed_36 := Bt_1 (q := 36) tX10_feed_35 rfl
theorem dX10_feed_36 : decode cX10_feed 36 = .ok (.iconst 0, 1) := de_03 tX10_feed_36
def tX10_feed_37 := Bt_1 (q := 37) tX10_feed_36 rfl
theorem dX10_feed_37 : decode cX10_feed 37 = .ok (.istore 4, 2) := de_36 tX10_feed_37 (by decide +kernel)
def tX10_feed_39 := Bt_2 (q := 39) tX10_feed_37 rfl
theorem dX10_feed_39 : decode cX10_feed 39 = .ok (.iload 4, 2) := de_15 tX10_feed_39 (by decide +kernel)
def tX10_feed_41 := Bt_2 (q := 41) tX10_feed_39 rfl
theorem dX10_feed_41 : decode cX10_feed 41 = .ok (.iload_n 1, 1) := de_1b tX10_feed_41
def tX10_feed_42 := Bt_1 (q := 42) tX10_feed_41 rfl
theorem dX10_feed_42 : decode cX10_feed 42 = .ok (.if_icmp .ge 40, 3) := de_a2 tX10_feed_42 (by decide +kernel)
def tX10_feed_45 := Bt_3 (q := 45) tX10_feed_42 rfl
theorem dX10_feed_45 : decode cX10_feed 45 = .ok (.aload_n 0, 1) := de_2a tX10_feed_45
def tX10_feed_46 := Bt_1 (q := 46) tX10_feed_45 rfl
theorem dX10_feed_46 : decode cX10_feed 46 = .ok (.getfield 54, 3) := de_b4 tX10_feed_46 (by decide +kernel)
def tX10_feed_49 := Bt_3 (q := 49) tX10_feed_46 rfl
theorem dX10_feed_49 : decode cX10_feed 49 = .ok (.aload_n 0, 1) := de_2a tX10_feed_49
def tX10_feed_50 := Bt_1 (q := 50) tX10_feed_49 rfl
theorem dX10_feed_50 : decode cX10_feed 50 = .ok (.getfield 223, 3) := de_b4 tX10_feed_50 (by decide +kernel)
def tX10_feed_53 := Bt_3 (q := 53) tX10_feed_50 rfl
theorem dX10_feed_53 : decode cX10_feed 53 = .ok (.lload_n 2, 1) := de_20 tX10_feed_53
def tX10_feed_54 := Bt_1 (q := 54) tX10_feed_53 rfl
theorem dX10_feed_54 : decode cX10_feed 54 = .ok (.bipush 8, 2) := de_10 tX10_feed_54 (by decide +kernel)
def tX10_feed_56 := Bt_2 (q := 56) tX10_feed_54 rfl
theorem dX10_feed_56 : decode cX10_feed 56 = .ok (.iload 4, 2) := de_15 tX10_feed_56 (by decide +kernel)
def tX10_feed_58 := Bt_2 (q := 58) tX10_feed_56 rfl
theorem dX10_feed_58 : decode cX10_feed 58 = .ok (.imul, 1) := de_68 tX10_feed_58
def tX10_feed_59 := Bt_1 (q := 59) tX10_feed_58 rfl
theorem dX10_feed_59 : decode cX10_feed 59 = .ok (.lshr, 1) := de_7b tX10_feed_59
def tX10_feed_60 := Bt_1 (q := 60) tX10_feed_59 rfl
theorem dX10_feed_60 : decode cX10_feed 60 = .ok (.ldc2_w 226, 3) := de_14 tX10_feed_60 (by decide +kernel)
def tX10_feed_63 := Bt_3 (q := 63) tX10_feed_60 rfl
theorem dX10_feed_63 : decode cX10_feed 63 = .ok (.land, 1) := de_7f tX10_feed_63
def tX10_feed_64 := Bt_1 (q := 64) tX10_feed_63 rfl
theorem dX10_feed_64 : decode cX10_feed 64 = .ok (.l2i, 1) := de_88 tX10_feed_64
def tX10_feed_65 := Bt_1 (q := 65) tX10_feed_64 rfl
theorem dX10_feed_65 : decode cX10_feed 65 = .ok (.iastore, 1) := de_4f tX10_feed_65
def tX10_feed_66 := Bt_1 (q := 66) tX10_feed_65 rfl
theorem dX10_feed_66 : decode cX10_feed 66 = .ok (.aload_n 0, 1) := de_2a tX10_feed_66
def tX10_feed_67 := Bt_1 (q := 67) tX10_feed_66 rfl
theorem dX10_feed_67 : decode cX10_feed 67 = .ok (.dup, 1) := de_59 tX10_feed_67
def tX10_feed_68 := Bt_1 (q := 68) tX10_feed_67 rfl
theorem dX10_feed_68 : decode cX10_feed 68 = .ok (.getfield 223, 3) := de_b4 tX10_feed_68 (by decide +kernel)
def tX10_feed_71 := Bt_3 (q := 71) tX10_feed_68 rfl
theorem dX10_feed_71 : decode cX10_feed 71 = .ok (.iconst 1, 1) := de_04 tX10_feed_71
def tX10_feed_72 := Bt_1 (q := 72) tX10_feed_71 rfl
theorem dX10_feed_72 : decode cX10_feed 72 = .ok (.iadd, 1) := de_60 tX10_feed_72
def tX10_feed_73 := Bt_1 (q := 73) tX10_feed_72 rfl
theorem dX10_feed_73 : decode cX10_feed 73 = .ok (.putfield 223, 3) := de_b5 tX10_feed_73 (by decide +kernel)
def tX10_feed_76 := Bt_3 (q := 76) tX10_feed_73 rfl
theorem dX10_feed_76 : decode cX10_feed 76 = .ok (.iinc 4 1, 3) := de_84 tX10_feed_76 (by decide +kernel) (by decide +kernel)
def tX10_feed_79 := Bt_3 (q := 79) tX10_feed_76 rfl
theorem dX10_feed_79 : decode cX10_feed 79 = .ok (.goto (-40), 3) := de_a7 tX10_feed_79 (by decide +kernel)
def tX10_feed_82 := Bt_3 (q := 82) tX10_feed_79 rfl
theorem dX10_feed_82 : decode cX10_feed 82 = .ok (.aload_n 0, 1) := de_2a tX10_feed_82
def tX10_feed_83 := Bt_1 (q := 83) tX10_feed_82 rfl
theorem dX10_feed_83 : decode cX10_feed 83 = .ok (.getfield 223, 3) := de_b4 tX10_feed_83 (by decide +kernel)
def tX10_feed_86 := Bt_3 (q := 86) tX10_feed_83 rfl
theorem dX10_feed_86 : decode cX10_feed 86 = .ok (.ireturn, 1) := de_ac tX10_feed_86
def tX10_nameOf_0 := Bt_0 cX10_nameOf
theorem dX10_nameOf_0 : decode cX10_nameOf 0 = .ok (.iload_n 0, 1) := de_1a tX10_nameOf_0
def tX10_nameOf_1 := Bt_1 (q := 1) tX10_nameOf_0 rfl
theorem dX10_nameOf_1 : decode cX10_nameOf 1 = .ok (.tableswitch 98 97 113 #[89, 93, 98, 98, 98, 98, 98, 87, 98, 98, 95, 85, 98, 98, 98, 83, 91], 83) := by decide +kernel
def tX10_nameOf_84 := Bt_n (q := 84) 83 tX10_nameOf_1 rfl rfl
theorem dX10_nameOf_84 : decode cX10_nameOf 84 = .ok (.iconst 0, 1) := de_03 tX10_nameOf_84
def tX10_nameOf_85 := Bt_1 (q := 85) tX10_nameOf_84 rfl
theorem dX10_nameOf_85 : decode cX10_nameOf 85 = .ok (.ireturn, 1) := de_ac tX10_nameOf_85
def tX10_nameOf_86 := Bt_1 (q := 86) tX10_nameOf_85 rfl
theorem dX10_nameOf_86 : decode cX10_nameOf 86 = .ok (.iconst 1, 1) := de_04 tX10_nameOf_86
def tX10_nameOf_87 := Bt_1 (q := 87) tX10_nameOf_86 rfl
theorem dX10_nameOf_87 : decode cX10_nameOf 87 = .ok (.ireturn, 1) := de_ac tX10_nameOf_87
def tX10_nameOf_88 := Bt_1 (q := 88) tX10_nameOf_87 rfl
theorem dX10_nameOf_88 : decode cX10_nameOf 88 = .ok (.iconst 2, 1) := de_05 tX10_nameOf_88
def tX10_nameOf_89 := Bt_1 (q := 89) tX10_nameOf_88 rfl
theorem dX10_nameOf_89 : decode cX10_nameOf 89 = .ok (.ireturn, 1) := de_ac tX10_nameOf_89
def tX10_nameOf_90 := Bt_1 (q := 90) tX10_nameOf_89 rfl
theorem dX10_nameOf_90 : decode cX10_nameOf 90 = .ok (.iconst 3, 1) := de_06 tX10_nameOf_90
def tX10_nameOf_91 := Bt_1 (q := 91) tX10_nameOf_90 rfl
theorem dX10_nameOf_91 : decode cX10_nameOf 91 = .ok (.ireturn, 1) := de_ac tX10_nameOf_91
def tX10_nameOf_92 := Bt_1 (q := 92) tX10_nameOf_91 rfl
theorem dX10_nameOf_92 : decode cX10_nameOf 92 = .ok (.iconst 4, 1) := de_07 tX10_nameOf_92
def tX10_nameOf_93 := Bt_1 (q := 93) tX10_nameOf_92 rfl
theorem dX10_nameOf_93 : decode cX10_nameOf 93 = .ok (.ireturn, 1) := de_ac tX10_nameOf_93
def tX10_nameOf_94 := Bt_1 (q := 94) tX10_nameOf_93 rfl
theorem dX10_nameOf_94 : decode cX10_nameOf 94 = .ok (.iconst 5, 1) := de_08 tX10_nameOf_94
def tX10_nameOf_95 := Bt_1 (q := 95) tX10_nameOf_94 rfl
theorem dX10_nameOf_95 : decode cX10_nameOf 95 = .ok (.ireturn, 1) := de_ac tX10_nameOf_95
def tX10_nameOf_96 := Bt_1 (q := 96) tX10_nameOf_95 rfl
theorem dX10_nameOf_96 : decode cX10_nameOf 96 = .ok (.bipush 6, 2) := de_10 tX10_nameOf_96 (by decide +kernel)
def tX10_nameOf_98 := Bt_2 (q := 98) tX10_nameOf_96 rfl
theorem dX10_nameOf_98 : decode cX10_nameOf 98 = .ok (.ireturn, 1) := de_ac tX10_nameOf_98
def tX10_nameOf_99 := Bt_1 (q := 99) tX10_nameOf_98 rfl
theorem dX10_nameOf_99 : decode cX10_nameOf 99 = .ok (.iconst (-1), 1) := de_02 tX10_nameOf_99
def tX10_nameOf_100 := Bt_1 (q := 100) tX10_nameOf_99 rfl
theorem dX10_nameOf_100 : decode cX10_nameOf 100 = .ok (.ireturn, 1) := de_ac tX10_nameOf_100
def tX10_work_0 := Bt_0 cX10_work
theorem dX10_work_0 : decode cX10_work 0 = .ok (.aload_n 0, 1) := de_2a tX10_work_0
def tX10_work_1 := Bt_1 (q := 1) tX10_work_0 rfl
theorem dX10_work_1 : decode cX10_work 1 = .ok (.getfield 67, 3) := de_b4 tX10_work_1 (by decide +kernel)
def tX10_work_4 := Bt_3 (q := 4) tX10_work_1 rfl
theorem dX10_work_4 : decode cX10_work 4 = .ok (.aload_n 0, 1) := de_2a tX10_work_4
def tX10_work_5 := Bt_1 (q := 5) tX10_work_4 rfl
theorem dX10_work_5 : decode cX10_work 5 = .ok (.getfield 228, 3) := de_b4 tX10_work_5 (by decide +kernel)
def tX10_work_8 := Bt_3 (q := 8) tX10_work_5 rfl
theorem dX10_work_8 : decode cX10_work 8 = .ok (.iconst 2, 1) := de_05 tX10_work_8
def tX10_work_9 := Bt_1 (q := 9) tX10_work_8 rfl
theorem dX10_work_9 : decode cX10_work 9 = .ok (.isub, 1) := de_64 tX10_work_9
def tX10_work_10 := Bt_1 (q := 10) tX10_work_9 rfl
theorem dX10_work_10 : decode cX10_work 10 = .ok (.laload, 1) := de_2f tX10_work_10
def tX10_work_11 := Bt_1 (q := 11) tX10_work_10 rfl
theorem dX10_work_11 : decode cX10_work 11 = .ok (.lstore_n 2, 1) := de_41 tX10_work_11
def tX10_work_12 := Bt_1 (q := 12) tX10_work_11 rfl
theorem dX10_work_12 : decode cX10_work 12 = .ok (.aload_n 0, 1) := de_2a tX10_work_12
def tX10_work_13 := Bt_1 (q := 13) tX10_work_12 rfl
theorem dX10_work_13 : decode cX10_work 13 = .ok (.getfield 70, 3) := de_b4 tX10_work_13 (by decide +kernel)
def tX10_work_16 := Bt_3 (q := 16) tX10_work_13 rfl
theorem dX10_work_16 : decode cX10_work 16 = .ok (.aload_n 0, 1) := de_2a tX10_work_16
def tX10_work_17 := Bt_1 (q := 17) tX10_work_16 rfl
theorem dX10_work_17 : decode cX10_work 17 = .ok (.getfield 228, 3) := de_b4 tX10_work_17 (by decide +kernel)
def tX10_work_20 := Bt_3 (q := 20) tX10_work_17 rfl
theorem dX10_work_20 : decode cX10_work 20 = .ok (.iconst 2, 1) := de_05 tX10_work_20
def tX10_work_21 := Bt_1 (q := 21) tX10_work_20 rfl
theorem dX10_work_21 : decode cX10_work 21 = .ok (.isub, 1) := de_64 tX10_work_21
def tX10_work_22 := Bt_1 (q := 22) tX10_work_21 rfl
theorem dX10_work_22 : decode cX10_work 22 = .ok (.laload, 1) := de_2f tX10_work_22
def tX10_work_23 := Bt_1 (q := 23) tX10_work_22 rfl
theorem dX10_work_23 : decode cX10_work 23 = .ok (.lstore 4, 2) := de_37 tX10_work_23 (by decide +kernel)
def tX10_work_25 := Bt_2 (q := 25) tX10_work_23 rfl
theorem dX10_work_25 : decode cX10_work 25 = .ok (.aload_n 0, 1) := de_2a tX10_work_25
def tX10_work_26 := Bt_1 (q := 26) tX10_work_25 rfl
theorem dX10_work_26 : decode cX10_work 26 = .ok (.getfield 67, 3) := de_b4 tX10_work_26 (by decide +kernel)
def tX10_work_29 := Bt_3 (q := 29) tX10_work_26 rfl
theorem dX10_work_29 : decode cX10_work 29 = .ok (.aload_n 0, 1) := de_2a tX10_work_29
def tX10_work_30 := Bt_1 (q := 30) tX10_work_29 rfl
theorem dX10_work_30 : decode cX10_work 30 = .ok (.getfield 228, 3) := de_b4 tX10_work_30 (by decide +kernel)
def tX10_work_33 := Bt_3 (q := 33) tX10_work_30 rfl
theorem dX10_work_33 : decode cX10_work 33 = .ok (.iconst 1, 1) := de_04 tX10_work_33
def tX10_work_34 := Bt_1 (q := 34) tX10_work_33 rfl
theorem dX10_work_34 : decode cX10_work 34 = .ok (.isub, 1) := de_64 tX10_work_34
def tX10_work_35 := Bt_1 (q := 35) tX10_work_34 rfl
theorem dX10_work_35 : decode cX10_work 35 = .ok (.laload, 1) := de_2f tX10_work_35
def tX10_work_36 := Bt_1 (q := 36) tX10_work_35 rfl
theorem dX10_work_36 : decode cX10_work 36 = .ok (.lstore 6, 2) := de_37 tX10_work_36 (by decide +kernel)
def tX10_work_38 := Bt_2 (q := 38) tX10_work_36 rfl
theorem dX10_work_38 : decode cX10_work 38 = .ok (.aload_n 0, 1) := de_2a tX10_work_38
def tX10_work_39 := Bt_1 (q := 39) tX10_work_38 rfl
theorem dX10_work_39 : decode cX10_work 39 = .ok (.getfield 70, 3) := de_b4 tX10_work_39 (by decide +kernel)
def tX10_work_42 := Bt_3 (q := 42) tX10_work_39 rfl
theorem dX10_work_42 : decode cX10_work 42 = .ok (.aload_n 0, 1) := de_2a tX10_work_42
def tX10_work_43 := Bt_1 (q := 43) tX10_work_42 rfl
theorem dX10_work_43 : decode cX10_work 43 = .ok (.getfield 228, 3) := de_b4 tX10_work_43 (by decide +kernel)
def tX10_work_46 := Bt_3 (q := 46) tX10_work_43 rfl
theorem dX10_work_46 : decode cX10_work 46 = .ok (.iconst 1, 1) := de_04 tX10_work_46
def tX10_work_47 := Bt_1 (q := 47) tX10_work_46 rfl
theorem dX10_work_47 : decode cX10_work 47 = .ok (.isub, 1) := de_64 tX10_work_47
def tX10_work_48 := Bt_1 (q := 48) tX10_work_47 rfl
theorem dX10_work_48 : decode cX10_work 48 = .ok (.laload, 1) := de_2f tX10_work_48
def tX10_work_49 := Bt_1 (q := 49) tX10_work_48 rfl
theorem dX10_work_49 : decode cX10_work 49 = .ok (.lstore 8, 2) := de_37 tX10_work_49 (by decide +kernel)
def tX10_work_51 := Bt_2 (q := 51) tX10_work_49 rfl
theorem dX10_work_51 : decode cX10_work 51 = .ok (.aload_n 0, 1) := de_2a tX10_work_51
def tX10_work_52 := Bt_1 (q := 52) tX10_work_51 rfl
theorem dX10_work_52 : decode cX10_work 52 = .ok (.dup, 1) := de_59 tX10_work_52
def tX10_work_53 := Bt_1 (q := 53) tX10_work_52 rfl
theorem dX10_work_53 : decode cX10_work 53 = .ok (.getfield 228, 3) := de_b4 tX10_work_53 (by decide +kernel)
def tX10_work_56 := Bt_3 (q := 56) tX10_work_53 rfl
theorem dX10_work_56 : decode cX10_work 56 = .ok (.iconst 1, 1) := de_04 tX10_work_56
def tX10_work_57 := Bt_1 (q := 57) tX10_work_56 rfl
theorem dX10_work_57 : decode cX10_work 57 = .ok (.isub, 1) := de_64 tX10_work_57
def tX10_work_58 := Bt_1 (q := 58) tX10_work_57 rfl
theorem dX10_work_58 : decode cX10_work 58 = .ok (.putfield 228, 3) := de_b5 tX10_work_58 (by decide +kernel)
def tX10_work_61 := Bt_3 (q := 61) tX10_work_58 rfl
theorem dX10_work_61 : decode cX10_work 61 = .ok (.lconst 0, 1) := de_09 tX10_work_61
def tX10_work_62 := Bt_1 (q := 62) tX10_work_61 rfl
theorem dX10_work_62 : decode cX10_work 62 = .ok (.lstore 10, 2) := de_37 tX10_work_62 (by decide +kernel)
def tX10_work_64 := Bt_2 (q := 64) tX10_work_62 rfl
theorem dX10_work_64 : decode cX10_work 64 = .ok (.lconst 1, 1) := de_0a tX10_work_64
def tX10_work_65 := Bt_1 (q := 65) tX10_work_64 rfl
theorem dX10_work_65 : decode cX10_work 65 = .ok (.lstore 12, 2) := de_37 tX10_work_65 (by decide +kernel)
def tX10_work_67 := Bt_2 (q := 67) tX10_work_65 rfl
theorem dX10_work_67 : decode cX10_work 67 = .ok (.iload_n 1, 1) := de_1b tX10_work_67
def tX10_work_68 := Bt_1 (q := 68) tX10_work_67 rfl
theorem dX10_work_68 : decode cX10_work 68 = .ok (.bipush 60, 2) := de_10 tX10_work_68 (by decide +kernel)
def tX10_work_70 := Bt_2 (q := 70) tX10_work_68 rfl
theorem dX10_work_70 : decode cX10_work 70 = .ok (.if_icmp .eq 9, 3) := de_9f tX10_work_70 (by decide +kernel)
def tX10_work_73 := Bt_3 (q := 73) tX10_work_70 rfl
theorem dX10_work_73 : decode cX10_work 73 = .ok (.iload_n 1, 1) := de_1b tX10_work_73
def tX10_work_74 := Bt_1 (q := 74) tX10_work_73 rfl
theorem dX10_work_74 : decode cX10_work 74 = .ok (.bipush 62, 2) := de_10 tX10_work_74 (by decide +kernel)
def tX10_work_76 := Bt_2 (q := 76) tX10_work_74 rfl
theorem dX10_work_76 : decode cX10_work 76 = .ok (.if_icmp .ne 80, 3) := de_a0 tX10_work_76 (by decide +kernel)
def tX10_work_79 := Bt_3 (q := 79) tX10_work_76 rfl
theorem dX10_work_79 : decode cX10_work 79 = .ok (.iload_n 1, 1) := de_1b tX10_work_79
def tX10_work_80 := Bt_1 (q := 80) tX10_work_79 rfl
theorem dX10_work_80 : decode cX10_work 80 = .ok (.bipush 60, 2) := de_10 tX10_work_80 (by decide +kernel)
def tX10_work_82 := Bt_2 (q := 82) tX10_work_80 rfl
theorem dX10_work_82 : decode cX10_work 82 = .ok (.if_icmp .ne 24, 3) := de_a0 tX10_work_82 (by decide +kernel)
def tX10_work_85 := Bt_3 (q := 85) tX10_work_82 rfl
theorem dX10_work_85 : decode cX10_work 85 = .ok (.lload_n 2, 1) := de_20 tX10_work_85
def tX10_work_86 := Bt_1 (q := 86) tX10_work_85 rfl
theorem dX10_work_86 : decode cX10_work 86 = .ok (.lload 8, 2) := de_16 tX10_work_86 (by decide +kernel)
def tX10_work_88 := Bt_2 (q := 88) tX10_work_86 rfl
theorem dX10_work_88 : decode cX10_work 88 = .ok (.lmul, 1) := de_69 tX10_work_88
def tX10_work_89 := Bt_1 (q := 89) tX10_work_88 rfl
theorem dX10_work_89 : decode cX10_work 89 = .ok (.lload 6, 2) := de_16 tX10_work_89 (by decide +kernel)
def tX10_work_91 := Bt_2 (q := 91) tX10_work_89 rfl
theorem dX10_work_91 : decode cX10_work 91 = .ok (.lload 4, 2) := de_16 tX10_work_91 (by decide +kernel)
def tX10_work_93 := Bt_2 (q := 93) tX10_work_91 rfl
theorem dX10_work_93 : decode cX10_work 93 = .ok (.lmul, 1) := de_69 tX10_work_93
def tX10_work_94 := Bt_1 (q := 94) tX10_work_93 rfl
theorem dX10_work_94 : decode cX10_work 94 = .ok (.lcmp, 1) := de_94 tX10_work_94
def tX10_work_95 := Bt_1 (q := 95) tX10_work_94 rfl
theorem dX10_work_95 : decode cX10_work 95 = .ok (.ifCond .gt 7, 3) := de_9d tX10_work_95 (by decide +kernel)
def tX10_work_98 := Bt_3 (q := 98) tX10_work_95 rfl
theorem dX10_work_98 : decode cX10_work 98 = .ok (.iconst 1, 1) := de_04 tX10_work_98
def tX10_work_99 := Bt_1 (q := 99) tX10_work_98 rfl
theorem dX10_work_99 : decode cX10_work 99 = .ok (.goto 25, 3) := de_a7 tX10_work_99 (by decide +kernel)
def tX10_work_102 := Bt_3 (q := 102) tX10_work_99 rfl
theorem dX10_work_102 : decode cX10_work 102 = .ok (.iconst 0, 1) := de_03 tX10_work_102
def tX10_work_103 := Bt_1 (q := 103) tX10_work_102 rfl
theorem dX10_work_103 : decode cX10_work 103 = .ok (.goto 21, 3) := de_a7 tX10_work_103 (by decide +kernel)
def tX10_work_106 := Bt_3 (q := 106) tX10_work_103 rfl
theorem dX10_work_106 : decode cX10_work 106 = .ok (.lload_n 2, 1) := de_20 tX10_work_106
def tX10_work_107 := Bt_1 (q := 107) tX10_work_106 rfl
theorem dX10_work_107 : decode cX10_work 107 = .ok (.lload 8, 2) := de_16 tX10_work_107 (by decide +kernel)
def tX10_work_109 := Bt_2 (q := 109) tX10_work_107 rfl
theorem dX10_work_109 : decode cX10_work 109 = .ok (.lmul, 1) := de_69 tX10_work_109
def tX10_work_110 := Bt_1 (q := 110) tX10_work_109 rfl
theorem dX10_work_110 : decode cX10_work 110 = .ok (.lload 6, 2) := de_16 tX10_work_110 (by decide +kernel)
def tX10_work_112 := Bt_2 (q := 112) tX10_work_110 rfl
theorem dX10_work_112 : decode cX10_work 112 = .ok (.lload 4, 2) := de_16 tX10_work_112 (by decide +kernel)
def tX10_work_114 := Bt_2 (q := 114) tX10_work_112 rfl
theorem dX10_work_114 : decode cX10_work 114 = .ok (.lmul, 1) := de_69 tX10_work_114
def tX10_work_115 := Bt_1 (q := 115) tX10_work_114 rfl
theorem dX10_work_115 : decode cX10_work 115 = .ok (.lcmp, 1) := de_94 tX10_work_115
def tX10_work_116 := Bt_1 (q := 116) tX10_work_115 rfl
theorem dX10_work_116 : decode cX10_work 116 = .ok (.ifCond .lt 7, 3) := de_9b tX10_work_116 (by decide +kernel)
def tX10_work_119 := Bt_3 (q := 119) tX10_work_116 rfl
theorem dX10_work_119 : decode cX10_work 119 = .ok (.iconst 1, 1) := de_04 tX10_work_119
def tX10_work_120 := Bt_1 (q := 120) tX10_work_119 rfl
theorem dX10_work_120 : decode cX10_work 120 = .ok (.goto 4, 3) := de_a7 tX10_work_120 (by decide +kernel)
def tX10_work_123 := Bt_3 (q := 123) tX10_work_120 rfl
theorem dX10_work_123 : decode cX10_work 123 = .ok (.iconst 0, 1) := de_03 tX10_work_123
def tX10_work_124 := Bt_1 (q := 124) tX10_work_123 rfl
theorem dX10_work_124 : decode cX10_work 124 = .ok (.istore 14, 2) := de_36 tX10_work_124 (by decide +kernel)
def tX10_work_126 := Bt_2 (q := 126) tX10_work_124 rfl
theorem dX10_work_126 : decode cX10_work 126 = .ok (.iload 14, 2) := de_15 tX10_work_126 (by decide +kernel)
def tX10_work_128 := Bt_2 (q := 128) tX10_work_126 rfl
theorem dX10_work_128 : decode cX10_work 128 = .ok (.ifCond .eq 7, 3) := de_99 tX10_work_128 (by decide +kernel)
def tX10_work_131 := Bt_3 (q := 131) tX10_work_128 rfl
theorem dX10_work_131 : decode cX10_work 131 = .ok (.lload_n 2, 1) := de_20 tX10_work_131
def tX10_work_132 := Bt_1 (q := 132) tX10_work_131 rfl
theorem dX10_work_132 : decode cX10_work 132 = .ok (.goto 5, 3) := de_a7 tX10_work_132 (by decide +kernel)
def tX10_work_135 := Bt_3 (q := 135) tX10_work_132 rfl
theorem dX10_work_135 : decode cX10_work 135 = .ok (.lload 6, 2) := de_16 tX10_work_135 (by decide +kernel)
def tX10_work_137 := Bt_2 (q := 137) tX10_work_135 rfl
theorem dX10_work_137 : decode cX10_work 137 = .ok (.lstore 10, 2) := de_37 tX10_work_137 (by decide +kernel)
def tX10_work_139 := Bt_2 (q := 139) tX10_work_137 rfl
theorem dX10_work_139 : decode cX10_work 139 = .ok (.iload 14, 2) := de_15 tX10_work_139 (by decide +kernel)
def tX10_work_141 := Bt_2 (q := 141) tX10_work_139 rfl
theorem dX10_work_141 : decode cX10_work 141 = .ok (.ifCond .eq 8, 3) := de_99 tX10_work_141 (by decide +kernel)
def tX10_work_144 := Bt_3 (q := 144) tX10_work_141 rfl
theorem dX10_work_144 : decode cX10_work 144 = .ok (.lload 4, 2) := de_16 tX10_work_144 (by decide +kernel)
def tX10_work_146 := Bt_2 (q := 146) tX10_work_144 rfl
theorem dX10_work_146 : decode cX10_work 146 = .ok (.goto 5, 3) := de_a7 tX10_work_146 (by decide +kernel)
def tX10_work_149 := Bt_3 (q := 149) tX10_work_146 rfl
theorem dX10_work_149 : decode cX10_work 149 = .ok (.lload 8, 2) := de_16 tX10_work_149 (by decide +kernel)
def tX10_work_151 := Bt_2 (q := 151) tX10_work_149 rfl
theorem dX10_work_151 : decode cX10_work 151 = .ok (.lstore 12, 2) := de_37 tX10_work_151 (by decide +kernel)
def tX10_work_153 := Bt_2 (q := 153) tX10_work_151 rfl
theorem dX10_work_153 : decode cX10_work 153 = .ok (.goto 150, 3) := de_a7 tX10_work_153 (by decide +kernel)
def tX10_work_156 := Bt_3 (q := 156) tX10_work_153 rfl
theorem dX10_work_156 : decode cX10_work 156 = .ok (.iload_n 1, 1) := de_1b tX10_work_156
def tX10_work_157 := Bt_1 (q := 157) tX10_work_156 rfl
theorem dX10_work_157 : decode cX10_work 157 = .ok (.bipush 42, 2) := de_10 tX10_work_157 (by decide +kernel)
def tX10_work_159 := Bt_2 (q := 159) tX10_work_157 rfl
theorem dX10_work_159 : decode cX10_work 159 = .ok (.if_icmp .ne 19, 3) := de_a0 tX10_work_159 (by decide +kernel)
def tX10_work_162 := Bt_3 (q := 162) tX10_work_159 rfl
theorem dX10_work_162 : decode cX10_work 162 = .ok (.lload_n 2, 1) := de_20 tX10_work_162
def tX10_work_163 := Bt_1 (q := 163) tX10_work_162 rfl
theorem dX10_work_163 : decode cX10_work 163 = .ok (.lload 6, 2) := de_16 tX10_work_163 (by decide +kernel)
def tX10_work_165 := Bt_2 (q := 165) tX10_work_163 rfl
theorem dX10_work_165 : decode cX10_work 165 = .ok (.lmul, 1) := de_69 tX10_work_165
def tX10_work_166 := Bt_1 (q := 166) tX10_work_165 rfl
theorem dX10_work_166 : decode cX10_work 166 = .ok (.lstore 10, 2) := de_37 tX10_work_166 (by decide +kernel)
def tX10_work_168 := Bt_2 (q := 168) tX10_work_166 rfl
theorem dX10_work_168 : decode cX10_work 168 = .ok (.lload 4, 2) := de_16 tX10_work_168 (by decide +kernel)
def tX10_work_170 := Bt_2 (q := 170) tX10_work_168 rfl
theorem dX10_work_170 : decode cX10_work 170 = .ok (.lload 8, 2) := de_16 tX10_work_170 (by decide +kernel)
def tX10_work_172 := Bt_2 (q := 172) tX10_work_170 rfl
theorem dX10_work_172 : decode cX10_work 172 = .ok (.lmul, 1) := de_69 tX10_work_172
def tX10_work_173 := Bt_1 (q := 173) tX10_work_172 rfl
theorem dX10_work_173 : decode cX10_work 173 = .ok (.lstore 12, 2) := de_37 tX10_work_173 (by decide +kernel)
def tX10_work_175 := Bt_2 (q := 175) tX10_work_173 rfl
theorem dX10_work_175 : decode cX10_work 175 = .ok (.goto 128, 3) := de_a7 tX10_work_175 (by decide +kernel)
def tX10_work_178 := Bt_3 (q := 178) tX10_work_175 rfl
theorem dX10_work_178 : decode cX10_work 178 = .ok (.iload_n 1, 1) := de_1b tX10_work_178
def tX10_work_179 := Bt_1 (q := 179) tX10_work_178 rfl
theorem dX10_work_179 : decode cX10_work 179 = .ok (.bipush 47, 2) := de_10 tX10_work_179 (by decide +kernel)
def tX10_work_181 := Bt_2 (q := 181) tX10_work_179 rfl
theorem dX10_work_181 : decode cX10_work 181 = .ok (.if_icmp .ne 84, 3) := de_a0 tX10_work_181 (by decide +kernel)
def tX10_work_184 := Bt_3 (q := 184) tX10_work_181 rfl
theorem dX10_work_184 : decode cX10_work 184 = .ok (.aload_n 0, 1) := de_2a tX10_work_184
def tX10_work_185 := Bt_1 (q := 185) tX10_work_184 rfl
theorem dX10_work_185 : decode cX10_work 185 = .ok (.aload_n 0, 1) := de_2a tX10_work_185
def tX10_work_186 := Bt_1 (q := 186) tX10_work_185 rfl
theorem dX10_work_186 : decode cX10_work 186 = .ok (.getfield 231, 3) := de_b4 tX10_work_186 (by decide +kernel)
def tX10_work_189 := Bt_3 (q := 189) tX10_work_186 rfl
theorem dX10_work_189 : decode cX10_work 189 = .ok (.ifCond .ne 10, 3) := de_9a tX10_work_189 (by decide +kernel)
def tX10_work_192 := Bt_3 (q := 192) tX10_work_189 rfl
theorem dX10_work_192 : decode cX10_work 192 = .ok (.lload 6, 2) := de_16 tX10_work_192 (by decide +kernel)
def tX10_work_194 := Bt_2 (q := 194) tX10_work_192 rfl
theorem dX10_work_194 : decode cX10_work 194 = .ok (.lconst 0, 1) := de_09 tX10_work_194
def tX10_work_195 := Bt_1 (q := 195) tX10_work_194 rfl
theorem dX10_work_195 : decode cX10_work 195 = .ok (.lcmp, 1) := de_94 tX10_work_195
def tX10_work_196 := Bt_1 (q := 196) tX10_work_195 rfl
theorem dX10_work_196 : decode cX10_work 196 = .ok (.ifCond .ne 7, 3) := de_9a tX10_work_196 (by decide +kernel)
def tX10_work_199 := Bt_3 (q := 199) tX10_work_196 rfl
theorem dX10_work_199 : decode cX10_work 199 = .ok (.iconst 1, 1) := de_04 tX10_work_199
def tX10_work_200 := Bt_1 (q := 200) tX10_work_199 rfl
theorem dX10_work_200 : decode cX10_work 200 = .ok (.goto 4, 3) := de_a7 tX10_work_200 (by decide +kernel)
def tX10_work_203 := Bt_3 (q := 203) tX10_work_200 rfl
theorem dX10_work_203 : decode cX10_work 203 = .ok (.iconst 0, 1) := de_03 tX10_work_203
def tX10_work_204 := Bt_1 (q := 204) tX10_work_203 rfl
theorem dX10_work_204 : decode cX10_work 204 = .ok (.putfield 231, 3) := de_b5 tX10_work_204 (by decide +kernel)
def tX10_work_207 := Bt_3 (q := 207) tX10_work_204 rfl
theorem dX10_work_207 : decode cX10_work 207 = .ok (.lload 6, 2) := de_16 tX10_work_207 (by decide +kernel)
def tX10_work_209 := Bt_2 (q := 209) tX10_work_207 rfl
theorem dX10_work_209 : decode cX10_work 209 = .ok (.lconst 0, 1) := de_09 tX10_work_209
def tX10_work_210 := Bt_1 (q := 210) tX10_work_209 rfl
theorem dX10_work_210 : decode cX10_work 210 = .ok (.lcmp, 1) := de_94 tX10_work_210
def tX10_work_211 := Bt_1 (q := 211) tX10_work_210 rfl
theorem dX10_work_211 : decode cX10_work 211 = .ok (.ifCond .ge 11, 3) := de_9c tX10_work_211 (by decide +kernel)
def tX10_work_214 := Bt_3 (q := 214) tX10_work_211 rfl
theorem dX10_work_214 : decode cX10_work 214 = .ok (.lload_n 2, 1) := de_20 tX10_work_214
def tX10_work_215 := Bt_1 (q := 215) tX10_work_214 rfl
theorem dX10_work_215 : decode cX10_work 215 = .ok (.lneg, 1) := de_75 tX10_work_215
def tX10_work_216 := Bt_1 (q := 216) tX10_work_215 rfl
theorem dX10_work_216 : decode cX10_work 216 = .ok (.lload 8, 2) := de_16 tX10_work_216 (by decide +kernel)
def tX10_work_218 := Bt_2 (q := 218) tX10_work_216 rfl
theorem dX10_work_218 : decode cX10_work 218 = .ok (.lmul, 1) := de_69 tX10_work_218
def tX10_work_219 := Bt_1 (q := 219) tX10_work_218 rfl
theorem dX10_work_219 : decode cX10_work 219 = .ok (.goto 7, 3) := de_a7 tX10_work_219 (by decide +kernel)
def tX10_work_222 := Bt_3 (q := 222) tX10_work_219 rfl
theorem dX10_work_222 : decode cX10_work 222 = .ok (.lload_n 2, 1) := de_20 tX10_work_222
def tX10_work_223 := Bt_1 (q := 223) tX10_work_222 rfl
theorem dX10_work_223 : decode cX10_work 223 = .ok (.lload 8, 2) := de_16 tX10_work_223 (by decide +kernel)
def tX10_work_225 := Bt_2 (q := 225) tX10_work_223 rfl
theorem dX10_work_225 : decode cX10_work 225 = .ok (.lmul, 1) := de_69 tX10_work_225
def tX10_work_226 := Bt_1 (q := 226) tX10_work_225 rfl
theorem dX10_work_226 : decode cX10_work 226 = .ok (.lstore 10, 2) := de_37 tX10_work_226 (by decide +kernel)
def tX10_work_228 := Bt_2 (q := 228) tX10_work_226 rfl
theorem dX10_work_228 : decode cX10_work 228 = .ok (.lload 6, 2) := de_16 tX10_work_228 (by decide +kernel)
def tX10_work_230 := Bt_2 (q := 230) tX10_work_228 rfl
theorem dX10_work_230 : decode cX10_work 230 = .ok (.lconst 0, 1) := de_09 tX10_work_230
def tX10_work_231 := Bt_1 (q := 231) tX10_work_230 rfl
theorem dX10_work_231 : decode cX10_work 231 = .ok (.lcmp, 1) := de_94 tX10_work_231
def tX10_work_232 := Bt_1 (q := 232) tX10_work_231 rfl
theorem dX10_work_232 : decode cX10_work 232 = .ok (.ifCond .ne 7, 3) := de_9a tX10_work_232 (by decide +kernel)
def tX10_work_235 := Bt_3 (q := 235) tX10_work_232 rfl
theorem dX10_work_235 : decode cX10_work 235 = .ok (.lconst 1, 1) := de_0a tX10_work_235
def tX10_work_236 := Bt_1 (q := 236) tX10_work_235 rfl
theorem dX10_work_236 : decode cX10_work 236 = .ok (.goto 24, 3) := de_a7 tX10_work_236 (by decide +kernel)
def tX10_work_239 := Bt_3 (q := 239) tX10_work_236 rfl
theorem dX10_work_239 : decode cX10_work 239 = .ok (.lload 6, 2) := de_16 tX10_work_239 (by decide +kernel)
def tX10_work_241 := Bt_2 (q := 241) tX10_work_239 rfl
theorem dX10_work_241 : decode cX10_work 241 = .ok (.lconst 0, 1) := de_09 tX10_work_241
def tX10_work_242 := Bt_1 (q := 242) tX10_work_241 rfl
theorem dX10_work_242 : decode cX10_work 242 = .ok (.lcmp, 1) := de_94 tX10_work_242
def tX10_work_243 := Bt_1 (q := 243) tX10_work_242 rfl
theorem dX10_work_243 : decode cX10_work 243 = .ok (.ifCond .ge 12, 3) := de_9c tX10_work_243 (by decide +kernel)
def tX10_work_246 := Bt_3 (q := 246) tX10_work_243 rfl
theorem dX10_work_246 : decode cX10_work 246 = .ok (.lload 4, 2) := de_16 tX10_work_246 (by decide +kernel)
def tX10_work_248 := Bt_2 (q := 248) tX10_work_246 rfl
theorem dX10_work_248 : decode cX10_work 248 = .ok (.lneg, 1) := de_75 tX10_work_248
def tX10_work_249 := Bt_1 (q := 249) tX10_work_248 rfl
theorem dX10_work_249 : decode cX10_work 249 = .ok (.lload 6, 2) := de_16 tX10_work_249 (by decide +kernel)
def tX10_work_251 := Bt_2 (q := 251) tX10_work_249 rfl
theorem dX10_work_251 : decode cX10_work 251 = .ok (.lmul, 1) := de_69 tX10_work_251
def tX10_work_252 := Bt_1 (q := 252) tX10_work_251 rfl
theorem dX10_work_252 : decode cX10_work 252 = .ok (.goto 8, 3) := de_a7 tX10_work_252 (by decide +kernel)
def tX10_work_255 := Bt_3 (q := 255) tX10_work_252 rfl
theorem dX10_work_255 : decode cX10_work 255 = .ok (.lload 4, 2) := de_16 tX10_work_255 (by decide +kernel)
def tX10_work_257 := Bt_2 (q := 257) tX10_work_255 rfl
theorem dX10_work_257 : decode cX10_work 257 = .ok (.lload 6, 2) := de_16 tX10_work_257 (by decide +kernel)
def tX10_work_259 := Bt_2 (q := 259) tX10_work_257 rfl
theorem dX10_work_259 : decode cX10_work 259 = .ok (.lmul, 1) := de_69 tX10_work_259
def tX10_work_260 := Bt_1 (q := 260) tX10_work_259 rfl
theorem dX10_work_260 : decode cX10_work 260 = .ok (.lstore 12, 2) := de_37 tX10_work_260 (by decide +kernel)
def tX10_work_262 := Bt_2 (q := 262) tX10_work_260 rfl
theorem dX10_work_262 : decode cX10_work 262 = .ok (.goto 41, 3) := de_a7 tX10_work_262 (by decide +kernel)
def tX10_work_265 := Bt_3 (q := 265) tX10_work_262 rfl
theorem dX10_work_265 : decode cX10_work 265 = .ok (.iload_n 1, 1) := de_1b tX10_work_265
def tX10_work_266 := Bt_1 (q := 266) tX10_work_265 rfl
theorem dX10_work_266 : decode cX10_work 266 = .ok (.bipush 43, 2) := de_10 tX10_work_266 (by decide +kernel)
def tX10_work_268 := Bt_2 (q := 268) tX10_work_266 rfl
theorem dX10_work_268 : decode cX10_work 268 = .ok (.if_icmp .ne 16, 3) := de_a0 tX10_work_268 (by decide +kernel)
def tX10_work_271 := Bt_3 (q := 271) tX10_work_268 rfl
theorem dX10_work_271 : decode cX10_work 271 = .ok (.lload_n 2, 1) := de_20 tX10_work_271
def tX10_work_272 := Bt_1 (q := 272) tX10_work_271 rfl
theorem dX10_work_272 : decode cX10_work 272 = .ok (.lload 8, 2) := de_16 tX10_work_272 (by decide +kernel)
def tX10_work_274 := Bt_2 (q := 274) tX10_work_272 rfl
theorem dX10_work_274 : decode cX10_work 274 = .ok (.lmul, 1) := de_69 tX10_work_274
def tX10_work_275 := Bt_1 (q := 275) tX10_work_274 rfl
theorem dX10_work_275 : decode cX10_work 275 = .ok (.lload 6, 2) := de_16 tX10_work_275 (by decide +kernel)
def tX10_work_277 := Bt_2 (q := 277) tX10_work_275 rfl
theorem dX10_work_277 : decode cX10_work 277 = .ok (.lload 4, 2) := de_16 tX10_work_277 (by decide +kernel)
def tX10_work_279 := Bt_2 (q := 279) tX10_work_277 rfl
theorem dX10_work_279 : decode cX10_work 279 = .ok (.lmul, 1) := de_69 tX10_work_279
def tX10_work_280 := Bt_1 (q := 280) tX10_work_279 rfl
theorem dX10_work_280 : decode cX10_work 280 = .ok (.ladd, 1) := de_61 tX10_work_280
def tX10_work_281 := Bt_1 (q := 281) tX10_work_280 rfl
theorem dX10_work_281 : decode cX10_work 281 = .ok (.goto 13, 3) := de_a7 tX10_work_281 (by decide +kernel)
def tX10_work_284 := Bt_3 (q := 284) tX10_work_281 rfl
theorem dX10_work_284 : decode cX10_work 284 = .ok (.lload_n 2, 1) := de_20 tX10_work_284
def tX10_work_285 := Bt_1 (q := 285) tX10_work_284 rfl
theorem dX10_work_285 : decode cX10_work 285 = .ok (.lload 8, 2) := de_16 tX10_work_285 (by decide +kernel)
def tX10_work_287 := Bt_2 (q := 287) tX10_work_285 rfl
theorem dX10_work_287 : decode cX10_work 287 = .ok (.lmul, 1) := de_69 tX10_work_287
def tX10_work_288 := Bt_1 (q := 288) tX10_work_287 rfl
theorem dX10_work_288 : decode cX10_work 288 = .ok (.lload 6, 2) := de_16 tX10_work_288 (by decide +kernel)
def tX10_work_290 := Bt_2 (q := 290) tX10_work_288 rfl
theorem dX10_work_290 : decode cX10_work 290 = .ok (.lload 4, 2) := de_16 tX10_work_290 (by decide +kernel)
def tX10_work_292 := Bt_2 (q := 292) tX10_work_290 rfl
theorem dX10_work_292 : decode cX10_work 292 = .ok (.lmul, 1) := de_69 tX10_work_292
def tX10_work_293 := Bt_1 (q := 293) tX10_work_292 rfl
theorem dX10_work_293 : decode cX10_work 293 = .ok (.lsub, 1) := de_65 tX10_work_293
def tX10_work_294 := Bt_1 (q := 294) tX10_work_293 rfl
theorem dX10_work_294 : decode cX10_work 294 = .ok (.lstore 10, 2) := de_37 tX10_work_294 (by decide +kernel)
def tX10_work_296 := Bt_2 (q := 296) tX10_work_294 rfl
theorem dX10_work_296 : decode cX10_work 296 = .ok (.lload 4, 2) := de_16 tX10_work_296 (by decide +kernel)
def tX10_work_298 := Bt_2 (q := 298) tX10_work_296 rfl
theorem dX10_work_298 : decode cX10_work 298 = .ok (.lload 8, 2) := de_16 tX10_work_298 (by decide +kernel)
def tX10_work_300 := Bt_2 (q := 300) tX10_work_298 rfl
theorem dX10_work_300 : decode cX10_work 300 = .ok (.lmul, 1) := de_69 tX10_work_300
def tX10_work_301 := Bt_1 (q := 301) tX10_work_300 rfl
theorem dX10_work_301 : decode cX10_work 301 = .ok (.lstore 12, 2) := de_37 tX10_work_301 (by decide +kernel)
def tX10_work_303 := Bt_2 (q := 303) tX10_work_301 rfl
theorem dX10_work_303 : decode cX10_work 303 = .ok (.lload 10, 2) := de_16 tX10_work_303 (by decide +kernel)
def tX10_work_305 := Bt_2 (q := 305) tX10_work_303 rfl
theorem dX10_work_305 : decode cX10_work 305 = .ok (.lload 12, 2) := de_16 tX10_work_305 (by decide +kernel)
def tX10_work_307 := Bt_2 (q := 307) tX10_work_305 rfl
theorem dX10_work_307 : decode cX10_work 307 = .ok (.invokestatic 219, 3) := de_b8 tX10_work_307 (by decide +kernel)
def tX10_work_310 := Bt_3 (q := 310) tX10_work_307 rfl
theorem dX10_work_310 : decode cX10_work 310 = .ok (.lstore 14, 2) := de_37 tX10_work_310 (by decide +kernel)
def tX10_work_312 := Bt_2 (q := 312) tX10_work_310 rfl
theorem dX10_work_312 : decode cX10_work 312 = .ok (.lload 10, 2) := de_16 tX10_work_312 (by decide +kernel)
def tX10_work_314 := Bt_2 (q := 314) tX10_work_312 rfl
theorem dX10_work_314 : decode cX10_work 314 = .ok (.lload 14, 2) := de_16 tX10_work_314 (by decide +kernel)
def tX10_work_316 := Bt_2 (q := 316) tX10_work_314 rfl
theorem dX10_work_316 : decode cX10_work 316 = .ok (.ldiv, 1) := de_6d tX10_work_316
def tX10_work_317 := Bt_1 (q := 317) tX10_work_316 rfl
theorem dX10_work_317 : decode cX10_work 317 = .ok (.lstore 10, 2) := de_37 tX10_work_317 (by decide +kernel)
def tX10_work_319 := Bt_2 (q := 319) tX10_work_317 rfl
theorem dX10_work_319 : decode cX10_work 319 = .ok (.lload 12, 2) := de_16 tX10_work_319 (by decide +kernel)
def tX10_work_321 := Bt_2 (q := 321) tX10_work_319 rfl
theorem dX10_work_321 : decode cX10_work 321 = .ok (.lload 14, 2) := de_16 tX10_work_321 (by decide +kernel)
def tX10_work_323 := Bt_2 (q := 323) tX10_work_321 rfl
theorem dX10_work_323 : decode cX10_work 323 = .ok (.ldiv, 1) := de_6d tX10_work_323
def tX10_work_324 := Bt_1 (q := 324) tX10_work_323 rfl
theorem dX10_work_324 : decode cX10_work 324 = .ok (.lstore 12, 2) := de_37 tX10_work_324 (by decide +kernel)
def tX10_work_326 := Bt_2 (q := 326) tX10_work_324 rfl
theorem dX10_work_326 : decode cX10_work 326 = .ok (.aload_n 0, 1) := de_2a tX10_work_326
def tX10_work_327 := Bt_1 (q := 327) tX10_work_326 rfl
theorem dX10_work_327 : decode cX10_work 327 = .ok (.aload_n 0, 1) := de_2a tX10_work_327
def tX10_work_328 := Bt_1 (q := 328) tX10_work_327 rfl
theorem dX10_work_328 : decode cX10_work 328 = .ok (.getfield 231, 3) := de_b4 tX10_work_328 (by decide +kernel)
def tX10_work_331 := Bt_3 (q := 331) tX10_work_328 rfl
theorem dX10_work_331 : decode cX10_work 331 = .ok (.ifCond .ne 30, 3) := de_9a tX10_work_331 (by decide +kernel)
def tX10_work_334 := Bt_3 (q := 334) tX10_work_331 rfl
theorem dX10_work_334 : decode cX10_work 334 = .ok (.lload 10, 2) := de_16 tX10_work_334 (by decide +kernel)
def tX10_work_336 := Bt_2 (q := 336) tX10_work_334 rfl
theorem dX10_work_336 : decode cX10_work 336 = .ok (.ldc2_w 234, 3) := de_14 tX10_work_336 (by decide +kernel)
def tX10_work_339 := Bt_3 (q := 339) tX10_work_336 rfl
theorem dX10_work_339 : decode cX10_work 339 = .ok (.lcmp, 1) := de_94 tX10_work_339
def tX10_work_340 := Bt_1 (q := 340) tX10_work_339 rfl
theorem dX10_work_340 : decode cX10_work 340 = .ok (.ifCond .gt 21, 3) := de_9d tX10_work_340 (by decide +kernel)
def tX10_work_343 := Bt_3 (q := 343) tX10_work_340 rfl
theorem dX10_work_343 : decode cX10_work 343 = .ok (.lload 10, 2) := de_16 tX10_work_343 (by decide +kernel)
def tX10_work_345 := Bt_2 (q := 345) tX10_work_343 rfl
theorem dX10_work_345 : decode cX10_work 345 = .ok (.ldc2_w 236, 3) := de_14 tX10_work_345 (by decide +kernel)
def tX10_work_348 := Bt_3 (q := 348) tX10_work_345 rfl
theorem dX10_work_348 : decode cX10_work 348 = .ok (.lcmp, 1) := de_94 tX10_work_348
def tX10_work_349 := Bt_1 (q := 349) tX10_work_348 rfl
theorem dX10_work_349 : decode cX10_work 349 = .ok (.ifCond .lt 12, 3) := de_9b tX10_work_349 (by decide +kernel)
def tX10_work_352 := Bt_3 (q := 352) tX10_work_349 rfl
theorem dX10_work_352 : decode cX10_work 352 = .ok (.lload 12, 2) := de_16 tX10_work_352 (by decide +kernel)
def tX10_work_354 := Bt_2 (q := 354) tX10_work_352 rfl
theorem dX10_work_354 : decode cX10_work 354 = .ok (.ldc2_w 234, 3) := de_14 tX10_work_354 (by decide +kernel)
def tX10_work_357 := Bt_3 (q := 357) tX10_work_354 rfl
theorem dX10_work_357 : decode cX10_work 357 = .ok (.lcmp, 1) := de_94 tX10_work_357
def tX10_work_358 := Bt_1 (q := 358) tX10_work_357 rfl
theorem dX10_work_358 : decode cX10_work 358 = .ok (.ifCond .le 7, 3) := de_9e tX10_work_358 (by decide +kernel)
def tX10_work_361 := Bt_3 (q := 361) tX10_work_358 rfl
theorem dX10_work_361 : decode cX10_work 361 = .ok (.iconst 1, 1) := de_04 tX10_work_361
def tX10_work_362 := Bt_1 (q := 362) tX10_work_361 rfl
theorem dX10_work_362 : decode cX10_work 362 = .ok (.goto 4, 3) := de_a7 tX10_work_362 (by decide +kernel)
def tX10_work_365 := Bt_3 (q := 365) tX10_work_362 rfl
theorem dX10_work_365 : decode cX10_work 365 = .ok (.iconst 0, 1) := de_03 tX10_work_365
def tX10_work_366 := Bt_1 (q := 366) tX10_work_365 rfl
theorem dX10_work_366 : decode cX10_work 366 = .ok (.putfield 231, 3) := de_b5 tX10_work_366 (by decide +kernel)
def tX10_work_369 := Bt_3 (q := 369) tX10_work_366 rfl
theorem dX10_work_369 : decode cX10_work 369 = .ok (.aload_n 0, 1) := de_2a tX10_work_369
def tX10_work_370 := Bt_1 (q := 370) tX10_work_369 rfl
theorem dX10_work_370 : decode cX10_work 370 = .ok (.getfield 67, 3) := de_b4 tX10_work_370 (by decide +kernel)
def tX10_work_373 := Bt_3 (q := 373) tX10_work_370 rfl
theorem dX10_work_373 : decode cX10_work 373 = .ok (.aload_n 0, 1) := de_2a tX10_work_373
def tX10_work_374 := Bt_1 (q := 374) tX10_work_373 rfl
theorem dX10_work_374 : decode cX10_work 374 = .ok (.getfield 228, 3) := de_b4 tX10_work_374 (by decide +kernel)
def tX10_work_377 := Bt_3 (q := 377) tX10_work_374 rfl
theorem dX10_work_377 : decode cX10_work 377 = .ok (.iconst 1, 1) := de_04 tX10_work_377
def tX10_work_378 := Bt_1 (q := 378) tX10_work_377 rfl
theorem dX10_work_378 : decode cX10_work 378 = .ok (.isub, 1) := de_64 tX10_work_378
def tX10_work_379 := Bt_1 (q := 379) tX10_work_378 rfl
theorem dX10_work_379 : decode cX10_work 379 = .ok (.aload_n 0, 1) := de_2a tX10_work_379
def tX10_work_380 := Bt_1 (q := 380) tX10_work_379 rfl
theorem dX10_work_380 : decode cX10_work 380 = .ok (.getfield 231, 3) := de_b4 tX10_work_380 (by decide +kernel)
def tX10_work_383 := Bt_3 (q := 383) tX10_work_380 rfl
theorem dX10_work_383 : decode cX10_work 383 = .ok (.ifCond .eq 7, 3) := de_99 tX10_work_383 (by decide +kernel)
def tX10_work_386 := Bt_3 (q := 386) tX10_work_383 rfl
theorem dX10_work_386 : decode cX10_work 386 = .ok (.lconst 0, 1) := de_09 tX10_work_386
def tX10_work_387 := Bt_1 (q := 387) tX10_work_386 rfl
theorem dX10_work_387 : decode cX10_work 387 = .ok (.goto 5, 3) := de_a7 tX10_work_387 (by decide +kernel)
def tX10_work_390 := Bt_3 (q := 390) tX10_work_387 rfl
theorem dX10_work_390 : decode cX10_work 390 = .ok (.lload 10, 2) := de_16 tX10_work_390 (by decide +kernel)
def tX10_work_392 := Bt_2 (q := 392) tX10_work_390 rfl
theorem dX10_work_392 : decode cX10_work 392 = .ok (.lastore, 1) := de_50 tX10_work_392
def tX10_work_393 := Bt_1 (q := 393) tX10_work_392 rfl
theorem dX10_work_393 : decode cX10_work 393 = .ok (.aload_n 0, 1) := de_2a tX10_work_393
def tX10_work_394 := Bt_1 (q := 394) tX10_work_393 rfl
theorem dX10_work_394 : decode cX10_work 394 = .ok (.getfield 70, 3) := de_b4 tX10_work_394 (by decide +kernel)
def tX10_work_397 := Bt_3 (q := 397) tX10_work_394 rfl
theorem dX10_work_397 : decode cX10_work 397 = .ok (.aload_n 0, 1) := de_2a tX10_work_397
def tX10_work_398 := Bt_1 (q := 398) tX10_work_397 rfl
theorem dX10_work_398 : decode cX10_work 398 = .ok (.getfield 228, 3) := de_b4 tX10_work_398 (by decide +kernel)
def tX10_work_401 := Bt_3 (q := 401) tX10_work_398 rfl
theorem dX10_work_401 : decode cX10_work 401 = .ok (.iconst 1, 1) := de_04 tX10_work_401
def tX10_work_402 := Bt_1 (q := 402) tX10_work_401 rfl
theorem dX10_work_402 : decode cX10_work 402 = .ok (.isub, 1) := de_64 tX10_work_402
def tX10_work_403 := Bt_1 (q := 403) tX10_work_402 rfl
theorem dX10_work_403 : decode cX10_work 403 = .ok (.aload_n 0, 1) := de_2a tX10_work_403
def tX10_work_404 := Bt_1 (q := 404) tX10_work_403 rfl
theorem dX10_work_404 : decode cX10_work 404 = .ok (.getfield 231, 3) := de_b4 tX10_work_404 (by decide +kernel)
def tX10_work_407 := Bt_3 (q := 407) tX10_work_404 rfl
theorem dX10_work_407 : decode cX10_work 407 = .ok (.ifCond .eq 7, 3) := de_99 tX10_work_407 (by decide +kernel)
def tX10_work_410 := Bt_3 (q := 410) tX10_work_407 rfl
theorem dX10_work_410 : decode cX10_work 410 = .ok (.lconst 1, 1) := de_0a tX10_work_410
def tX10_work_411 := Bt_1 (q := 411) tX10_work_410 rfl
theorem dX10_work_411 : decode cX10_work 411 = .ok (.goto 5, 3) := de_a7 tX10_work_411 (by decide +kernel)
def tX10_work_414 := Bt_3 (q := 414) tX10_work_411 rfl
theorem dX10_work_414 : decode cX10_work 414 = .ok (.lload 12, 2) := de_16 tX10_work_414 (by decide +kernel)
def tX10_work_416 := Bt_2 (q := 416) tX10_work_414 rfl
theorem dX10_work_416 : decode cX10_work 416 = .ok (.lastore, 1) := de_50 tX10_work_416
def tX10_work_417 := Bt_1 (q := 417) tX10_work_416 rfl
theorem dX10_work_417 : decode cX10_work 417 = .ok (.return_, 1) := de_b1 tX10_work_417
def tX10_topSign_0 := Bt_0 cX10_topSign
theorem dX10_topSign_0 : decode cX10_topSign 0 = .ok (.aload_n 0, 1) := de_2a tX10_topSign_0
def tX10_topSign_1 := Bt_1 (q := 1) tX10_topSign_0 rfl
theorem dX10_topSign_1 : decode cX10_topSign 1 = .ok (.getfield 238, 3) := de_b4 tX10_topSign_1 (by decide +kernel)
def tX10_topSign_4 := Bt_3 (q := 4) tX10_topSign_1 rfl
theorem dX10_topSign_4 : decode cX10_topSign 4 = .ok (.ifCond .ne 7, 3) := de_9a tX10_topSign_4 (by decide +kernel)
def tX10_topSign_7 := Bt_3 (q := 7) tX10_topSign_4 rfl
theorem dX10_topSign_7 : decode cX10_topSign 7 = .ok (.iconst 0, 1) := de_03 tX10_topSign_7
def tX10_topSign_8 := Bt_1 (q := 8) tX10_topSign_7 rfl
theorem dX10_topSign_8 : decode cX10_topSign 8 = .ok (.goto 14, 3) := de_a7 tX10_topSign_8 (by decide +kernel)
def tX10_topSign_11 := Bt_3 (q := 11) tX10_topSign_8 rfl
theorem dX10_topSign_11 : decode cX10_topSign 11 = .ok (.aload_n 0, 1) := de_2a tX10_topSign_11
def tX10_topSign_12 := Bt_1 (q := 12) tX10_topSign_11 rfl
theorem dX10_topSign_12 : decode cX10_topSign 12 = .ok (.getfield 73, 3) := de_b4 tX10_topSign_12 (by decide +kernel)
def tX10_topSign_15 := Bt_3 (q := 15) tX10_topSign_12 rfl
theorem dX10_topSign_15 : decode cX10_topSign 15 = .ok (.aload_n 0, 1) := de_2a tX10_topSign_15
def tX10_topSign_16 := Bt_1 (q := 16) tX10_topSign_15 rfl
theorem dX10_topSign_16 : decode cX10_topSign 16 = .ok (.getfield 238, 3) := de_b4 tX10_topSign_16 (by decide +kernel)
def tX10_topSign_19 := Bt_3 (q := 19) tX10_topSign_16 rfl
theorem dX10_topSign_19 : decode cX10_topSign 19 = .ok (.iconst 1, 1) := de_04 tX10_topSign_19
def tX10_topSign_20 := Bt_1 (q := 20) tX10_topSign_19 rfl
theorem dX10_topSign_20 : decode cX10_topSign 20 = .ok (.isub, 1) := de_64 tX10_topSign_20
def tX10_topSign_21 := Bt_1 (q := 21) tX10_topSign_20 rfl
theorem dX10_topSign_21 : decode cX10_topSign 21 = .ok (.iaload, 1) := de_2e tX10_topSign_21
def tX10_topSign_22 := Bt_1 (q := 22) tX10_topSign_21 rfl
theorem dX10_topSign_22 : decode cX10_topSign 22 = .ok (.ireturn, 1) := de_ac tX10_topSign_22
def tX10_settle_0 := Bt_0 cX10_settle
theorem dX10_settle_0 : decode cX10_settle 0 = .ok (.aload_n 0, 1) := de_2a tX10_settle_0
def tX10_settle_1 := Bt_1 (q := 1) tX10_settle_0 rfl
theorem dX10_settle_1 : decode cX10_settle 1 = .ok (.invokevirtual 241, 3) := de_b6 tX10_settle_1 (by decide +kernel)
def tX10_settle_4 := Bt_3 (q := 4) tX10_settle_1 rfl
theorem dX10_settle_4 : decode cX10_settle 4 = .ok (.bipush 42, 2) := de_10 tX10_settle_4 (by decide +kernel)
def tX10_settle_6 := Bt_2 (q := 6) tX10_settle_4 rfl
theorem dX10_settle_6 : decode cX10_settle 6 = .ok (.if_icmp .eq 34, 3) := de_9f tX10_settle_6 (by decide +kernel)
def tX10_settle_9 := Bt_3 (q := 9) tX10_settle_6 rfl
theorem dX10_settle_9 : decode cX10_settle 9 = .ok (.aload_n 0, 1) := de_2a tX10_settle_9
def tX10_settle_10 := Bt_1 (q := 10) tX10_settle_9 rfl
theorem dX10_settle_10 : decode cX10_settle 10 = .ok (.invokevirtual 241, 3) := de_b6 tX10_settle_10 (by decide +kernel)
def tX10_settle_13 := Bt_3 (q := 13) tX10_settle_10 rfl
theorem dX10_settle_13 : decode cX10_settle 13 = .ok (.bipush 47, 2) := de_10 tX10_settle_13 (by decide +kernel)
def tX10_settle_15 := Bt_2 (q := 15) tX10_settle_13 rfl
theorem dX10_settle_15 : decode cX10_settle 15 = .ok (.if_icmp .eq 25, 3) := de_9f tX10_settle_15 (by decide +kernel)
def tX10_settle_18 := Bt_3 (q := 18) tX10_settle_15 rfl
theorem dX10_settle_18 : decode cX10_settle 18 = .ok (.iload_n 1, 1) := de_1b tX10_settle_18
def tX10_settle_19 := Bt_1 (q := 19) tX10_settle_18 rfl
theorem dX10_settle_19 : decode cX10_settle 19 = .ok (.ifCond .eq 42, 3) := de_99 tX10_settle_19 (by decide +kernel)
def tX10_settle_22 := Bt_3 (q := 22) tX10_settle_19 rfl
theorem dX10_settle_22 : decode cX10_settle 22 = .ok (.aload_n 0, 1) := de_2a tX10_settle_22
def tX10_settle_23 := Bt_1 (q := 23) tX10_settle_22 rfl
theorem dX10_settle_23 : decode cX10_settle 23 = .ok (.invokevirtual 241, 3) := de_b6 tX10_settle_23 (by decide +kernel)
def tX10_settle_26 := Bt_3 (q := 26) tX10_settle_23 rfl
theorem dX10_settle_26 : decode cX10_settle 26 = .ok (.bipush 43, 2) := de_10 tX10_settle_26 (by decide +kernel)
def tX10_settle_28 := Bt_2 (q := 28) tX10_settle_26 rfl
theorem dX10_settle_28 : decode cX10_settle 28 = .ok (.if_icmp .eq 12, 3) := de_9f tX10_settle_28 (by decide +kernel)
def tX10_settle_31 := Bt_3 (q := 31) tX10_settle_28 rfl
theorem dX10_settle_31 : decode cX10_settle 31 = .ok (.aload_n 0, 1) := de_2a tX10_settle_31
def tX10_settle_32 := Bt_1 (q := 32) tX10_settle_31 rfl
theorem dX10_settle_32 : decode cX10_settle 32 = .ok (.invokevirtual 241, 3) := de_b6 tX10_settle_32 (by decide +kernel)
def tX10_settle_35 := Bt_3 (q := 35) tX10_settle_32 rfl
theorem dX10_settle_35 : decode cX10_settle 35 = .ok (.bipush 45, 2) := de_10 tX10_settle_35 (by decide +kernel)
def tX10_settle_37 := Bt_2 (q := 37) tX10_settle_35 rfl
theorem dX10_settle_37 : decode cX10_settle 37 = .ok (.if_icmp .ne 24, 3) := de_a0 tX10_settle_37 (by decide +kernel)
def tX10_settle_40 := Bt_3 (q := 40) tX10_settle_37 rfl
theorem dX10_settle_40 : decode cX10_settle 40 = .ok (.aload_n 0, 1) := de_2a tX10_settle_40
def tX10_settle_41 := Bt_1 (q := 41) tX10_settle_40 rfl
theorem dX10_settle_41 : decode cX10_settle 41 = .ok (.aload_n 0, 1) := de_2a tX10_settle_41
def tX10_settle_42 := Bt_1 (q := 42) tX10_settle_41 rfl
theorem dX10_settle_42 : decode cX10_settle 42 = .ok (.invokevirtual 241, 3) := de_b6 tX10_settle_42 (by decide +kernel)
def tX10_settle_45 := Bt_3 (q := 45) tX10_settle_42 rfl
theorem dX10_settle_45 : decode cX10_settle 45 = .ok (.invokevirtual 245, 3) := de_b6 tX10_settle_45 (by decide +kernel)
def tX10_settle_48 := Bt_3 (q := 48) tX10_settle_45 rfl
theorem dX10_settle_48 : decode cX10_settle 48 = .ok (.aload_n 0, 1) := de_2a tX10_settle_48
def tX10_settle_49 := Bt_1 (q := 49) tX10_settle_48 rfl
theorem dX10_settle_49 : decode cX10_settle 49 = .ok (.dup, 1) := de_59 tX10_settle_49
def tX10_settle_50 := Bt_1 (q := 50) tX10_settle_49 rfl
theorem dX10_settle_50 : decode cX10_settle 50 = .ok (.getfield 238, 3) := de_b4 tX10_settle_50 (by decide +kernel)
def tX10_settle_53 := Bt_3 (q := 53) tX10_settle_50 rfl
theorem dX10_settle_53 : decode cX10_settle 53 = .ok (.iconst 1, 1) := de_04 tX10_settle_53
def tX10_settle_54 := Bt_1 (q := 54) tX10_settle_53 rfl
theorem dX10_settle_54 : decode cX10_settle 54 = .ok (.isub, 1) := de_64 tX10_settle_54
def tX10_settle_55 := Bt_1 (q := 55) tX10_settle_54 rfl
theorem dX10_settle_55 : decode cX10_settle 55 = .ok (.putfield 238, 3) := de_b5 tX10_settle_55 (by decide +kernel)
def tX10_settle_58 := Bt_3 (q := 58) tX10_settle_55 rfl
theorem dX10_settle_58 : decode cX10_settle 58 = .ok (.goto (-58), 3) := de_a7 tX10_settle_58 (by decide +kernel)
def tX10_settle_61 := Bt_3 (q := 61) tX10_settle_58 rfl
theorem dX10_settle_61 : decode cX10_settle 61 = .ok (.return_, 1) := de_b1 tX10_settle_61
def tX10_byteAt_0 := Bt_0 cX10_byteAt
theorem dX10_byteAt_0 : decode cX10_byteAt 0 = .ok (.iload_n 2, 1) := de_1c tX10_byteAt_0
def tX10_byteAt_1 := Bt_1 (q := 1) tX10_byteAt_0 rfl
theorem dX10_byteAt_1 : decode cX10_byteAt 1 = .ok (.iload_n 1, 1) := de_1b tX10_byteAt_1
def tX10_byteAt_2 := Bt_1 (q := 2) tX10_byteAt_1 rfl
theorem dX10_byteAt_2 : decode cX10_byteAt 2 = .ok (.if_icmp .ge 9, 3) := de_a2 tX10_byteAt_2 (by decide +kernel)
def tX10_byteAt_5 := Bt_3 (q := 5) tX10_byteAt_2 rfl
theorem dX10_byteAt_5 : decode cX10_byteAt 5 = .ok (.aload_n 0, 1) := de_2a tX10_byteAt_5
def tX10_byteAt_6 := Bt_1 (q := 6) tX10_byteAt_5 rfl
theorem dX10_byteAt_6 : decode cX10_byteAt 6 = .ok (.iload_n 2, 1) := de_1c tX10_byteAt_6
def tX10_byteAt_7 := Bt_1 (q := 7) tX10_byteAt_6 rfl
theorem dX10_byteAt_7 : decode cX10_byteAt 7 = .ok (.iaload, 1) := de_2e tX10_byteAt_7
def tX10_byteAt_8 := Bt_1 (q := 8) tX10_byteAt_7 rfl
theorem dX10_byteAt_8 : decode cX10_byteAt 8 = .ok (.goto 4, 3) := de_a7 tX10_byteAt_8 (by decide +kernel)
def tX10_byteAt_11 := Bt_3 (q := 11) tX10_byteAt_8 rfl
theorem dX10_byteAt_11 : decode cX10_byteAt 11 = .ok (.iconst (-1), 1) := de_02 tX10_byteAt_11
def tX10_byteAt_12 := Bt_1 (q := 12) tX10_byteAt_11 rfl
theorem dX10_byteAt_12 : decode cX10_byteAt 12 = .ok (.ireturn, 1) := de_ac tX10_byteAt_12
def tX10_push_0 := Bt_0 cX10_push
theorem dX10_push_0 : decode cX10_push 0 = .ok (.aload_n 0, 1) := de_2a tX10_push_0
def tX10_push_1 := Bt_1 (q := 1) tX10_push_0 rfl
theorem dX10_push_1 : decode cX10_push 1 = .ok (.getfield 67, 3) := de_b4 tX10_push_1 (by decide +kernel)
def tX10_push_4 := Bt_3 (q := 4) tX10_push_1 rfl
theorem dX10_push_4 : decode cX10_push 4 = .ok (.aload_n 0, 1) := de_2a tX10_push_4
def tX10_push_5 := Bt_1 (q := 5) tX10_push_4 rfl
theorem dX10_push_5 : decode cX10_push 5 = .ok (.getfield 228, 3) := de_b4 tX10_push_5 (by decide +kernel)
def tX10_push_8 := Bt_3 (q := 8) tX10_push_5 rfl
theorem dX10_push_8 : decode cX10_push 8 = .ok (.lload_n 1, 1) := de_1f tX10_push_8
def tX10_push_9 := Bt_1 (q := 9) tX10_push_8 rfl
theorem dX10_push_9 : decode cX10_push 9 = .ok (.lastore, 1) := de_50 tX10_push_9
def tX10_push_10 := Bt_1 (q := 10) tX10_push_9 rfl
theorem dX10_push_10 : decode cX10_push 10 = .ok (.aload_n 0, 1) := de_2a tX10_push_10
def tX10_push_11 := Bt_1 (q := 11) tX10_push_10 rfl
theorem dX10_push_11 : decode cX10_push 11 = .ok (.getfield 70, 3) := de_b4 tX10_push_11 (by decide +kernel)
def tX10_push_14 := Bt_3 (q := 14) tX10_push_11 rfl
theorem dX10_push_14 : decode cX10_push 14 = .ok (.aload_n 0, 1) := de_2a tX10_push_14
def tX10_push_15 := Bt_1 (q := 15) tX10_push_14 rfl
theorem dX10_push_15 : decode cX10_push 15 = .ok (.getfield 228, 3) := de_b4 tX10_push_15 (by decide +kernel)
def tX10_push_18 := Bt_3 (q := 18) tX10_push_15 rfl
theorem dX10_push_18 : decode cX10_push 18 = .ok (.lload_n 3, 1) := de_21 tX10_push_18
def tX10_push_19 := Bt_1 (q := 19) tX10_push_18 rfl
theorem dX10_push_19 : decode cX10_push 19 = .ok (.lastore, 1) := de_50 tX10_push_19
def tX10_push_20 := Bt_1 (q := 20) tX10_push_19 rfl
theorem dX10_push_20 : decode cX10_push 20 = .ok (.aload_n 0, 1) := de_2a tX10_push_20
def tX10_push_21 := Bt_1 (q := 21) tX10_push_20 rfl
theorem dX10_push_21 : decode cX10_push 21 = .ok (.dup, 1) := de_59 tX10_push_21
def tX10_push_22 := Bt_1 (q := 22) tX10_push_21 rfl
theorem dX10_push_22 : decode cX10_push 22 = .ok (.getfield 228, 3) := de_b4 tX10_push_22 (by decide +kernel)
def tX10_push_25 := Bt_3 (q := 25) tX10_push_22 rfl
theorem dX10_push_25 : decode cX10_push 25 = .ok (.iconst 1, 1) := de_04 tX10_push_25
def tX10_push_26 := Bt_1 (q := 26) tX10_push_25 rfl
theorem dX10_push_26 : decode cX10_push 26 = .ok (.iadd, 1) := de_60 tX10_push_26
def tX10_push_27 := Bt_1 (q := 27) tX10_push_26 rfl
theorem dX10_push_27 : decode cX10_push 27 = .ok (.putfield 228, 3) := de_b5 tX10_push_27 (by decide +kernel)
def tX10_push_30 := Bt_3 (q := 30) tX10_push_27 rfl
theorem dX10_push_30 : decode cX10_push 30 = .ok (.aload_n 0, 1) := de_2a tX10_push_30
def tX10_push_31 := Bt_1 (q := 31) tX10_push_30 rfl
theorem dX10_push_31 : decode cX10_push 31 = .ok (.dup, 1) := de_59 tX10_push_31
def tX10_push_32 := Bt_1 (q := 32) tX10_push_31 rfl
theorem dX10_push_32 : decode cX10_push 32 = .ok (.getfield 249, 3) := de_b4 tX10_push_32 (by decide +kernel)
def tX10_push_35 := Bt_3 (q := 35) tX10_push_32 rfl
theorem dX10_push_35 : decode cX10_push 35 = .ok (.iconst 1, 1) := de_04 tX10_push_35
def tX10_push_36 := Bt_1 (q := 36) tX10_push_35 rfl
theorem dX10_push_36 : decode cX10_push 36 = .ok (.iadd, 1) := de_60 tX10_push_36
def tX10_push_37 := Bt_1 (q := 37) tX10_push_36 rfl
theorem dX10_push_37 : decode cX10_push 37 = .ok (.putfield 249, 3) := de_b5 tX10_push_37 (by decide +kernel)
def tX10_push_40 := Bt_3 (q := 40) tX10_push_37 rfl
theorem dX10_push_40 : decode cX10_push 40 = .ok (.return_, 1) := de_b1 tX10_push_40
def tX10_open_0 := Bt_0 cX10_open
theorem dX10_open_0 : decode cX10_open 0 = .ok (.aload_n 0, 1) := de_2a tX10_open_0
def tX10_open_1 := Bt_1 (q := 1) tX10_open_0 rfl
theorem dX10_open_1 : decode cX10_open 1 = .ok (.getfield 252, 3) := de_b4 tX10_open_1 (by decide +kernel)
def tX10_open_4 := Bt_3 (q := 4) tX10_open_1 rfl
theorem dX10_open_4 : decode cX10_open 4 = .ok (.bipush 6, 2) := de_10 tX10_open_4 (by decide +kernel)
def tX10_open_6 := Bt_2 (q := 6) tX10_open_4 rfl
theorem dX10_open_6 : decode cX10_open 6 = .ok (.if_icmp .ne 9, 3) := de_a0 tX10_open_6 (by decide +kernel)
def tX10_open_9 := Bt_3 (q := 9) tX10_open_6 rfl
theorem dX10_open_9 : decode cX10_open 9 = .ok (.aload_n 0, 1) := de_2a tX10_open_9
def tX10_open_10 := Bt_1 (q := 10) tX10_open_9 rfl
theorem dX10_open_10 : decode cX10_open 10 = .ok (.iconst 1, 1) := de_04 tX10_open_10
def tX10_open_11 := Bt_1 (q := 11) tX10_open_10 rfl
theorem dX10_open_11 : decode cX10_open 11 = .ok (.putfield 255, 3) := de_b5 tX10_open_11 (by decide +kernel)
def tX10_open_14 := Bt_3 (q := 14) tX10_open_11 rfl
theorem dX10_open_14 : decode cX10_open 14 = .ok (.return_, 1) := de_b1 tX10_open_14
def tX10_open_15 := Bt_1 (q := 15) tX10_open_14 rfl
theorem dX10_open_15 : decode cX10_open 15 = .ok (.aload_n 0, 1) := de_2a tX10_open_15
def tX10_open_16 := Bt_1 (q := 16) tX10_open_15 rfl
theorem dX10_open_16 : decode cX10_open 16 = .ok (.dup, 1) := de_59 tX10_open_16
def tX10_open_17 := Bt_1 (q := 17) tX10_open_16 rfl
theorem dX10_open_17 : decode cX10_open 17 = .ok (.getfield 252, 3) := de_b4 tX10_open_17 (by decide +kernel)
def tX10_open_20 := Bt_3 (q := 20) tX10_open_17 rfl
theorem dX10_open_20 : decode cX10_open 20 = .ok (.iconst 1, 1) := de_04 tX10_open_20
def tX10_open_21 := Bt_1 (q := 21) tX10_open_20 rfl
theorem dX10_open_21 : decode cX10_open 21 = .ok (.iadd, 1) := de_60 tX10_open_21
def tX10_open_22 := Bt_1 (q := 22) tX10_open_21 rfl
theorem dX10_open_22 : decode cX10_open 22 = .ok (.putfield 252, 3) := de_b5 tX10_open_22 (by decide +kernel)
def tX10_open_25 := Bt_3 (q := 25) tX10_open_22 rfl
theorem dX10_open_25 : decode cX10_open 25 = .ok (.aload_n 0, 1) := de_2a tX10_open_25
def tX10_open_26 := Bt_1 (q := 26) tX10_open_25 rfl
theorem dX10_open_26 : decode cX10_open 26 = .ok (.getfield 73, 3) := de_b4 tX10_open_26 (by decide +kernel)
def tX10_open_29 := Bt_3 (q := 29) tX10_open_26 rfl
theorem dX10_open_29 : decode cX10_open 29 = .ok (.aload_n 0, 1) := de_2a tX10_open_29
def tX10_open_30 := Bt_1 (q := 30) tX10_open_29 rfl
theorem dX10_open_30 : decode cX10_open 30 = .ok (.getfield 238, 3) := de_b4 tX10_open_30 (by decide +kernel)
def tX10_open_33 := Bt_3 (q := 33) tX10_open_30 rfl
theorem dX10_open_33 : decode cX10_open 33 = .ok (.iload_n 1, 1) := de_1b tX10_open_33
def tX10_open_34 := Bt_1 (q := 34) tX10_open_33 rfl
theorem dX10_open_34 : decode cX10_open 34 = .ok (.iastore, 1) := de_4f tX10_open_34
def tX10_open_35 := Bt_1 (q := 35) tX10_open_34 rfl
theorem dX10_open_35 : decode cX10_open 35 = .ok (.aload_n 0, 1) := de_2a tX10_open_35
def tX10_open_36 := Bt_1 (q := 36) tX10_open_35 rfl
theorem dX10_open_36 : decode cX10_open 36 = .ok (.dup, 1) := de_59 tX10_open_36
def tX10_open_37 := Bt_1 (q := 37) tX10_open_36 rfl
theorem dX10_open_37 : decode cX10_open 37 = .ok (.getfield 238, 3) := de_b4 tX10_open_37 (by decide +kernel)
def tX10_open_40 := Bt_3 (q := 40) tX10_open_37 rfl
theorem dX10_open_40 : decode cX10_open 40 = .ok (.iconst 1, 1) := de_04 tX10_open_40
def tX10_open_41 := Bt_1 (q := 41) tX10_open_40 rfl
theorem dX10_open_41 : decode cX10_open 41 = .ok (.iadd, 1) := de_60 tX10_open_41
def tX10_open_42 := Bt_1 (q := 42) tX10_open_41 rfl
theorem dX10_open_42 : decode cX10_open 42 = .ok (.putfield 238, 3) := de_b5 tX10_open_42 (by decide +kernel)
def tX10_open_45 := Bt_3 (q := 45) tX10_open_42 rfl
theorem dX10_open_45 : decode cX10_open 45 = .ok (.aload_n 0, 1) := de_2a tX10_open_45
def tX10_open_46 := Bt_1 (q := 46) tX10_open_45 rfl
theorem dX10_open_46 : decode cX10_open 46 = .ok (.dup, 1) := de_59 tX10_open_46
def tX10_open_47 := Bt_1 (q := 47) tX10_open_46 rfl
theorem dX10_open_47 : decode cX10_open 47 = .ok (.getfield 258, 3) := de_b4 tX10_open_47 (by decide +kernel)
def tX10_open_50 := Bt_3 (q := 50) tX10_open_47 rfl
theorem dX10_open_50 : decode cX10_open 50 = .ok (.iconst 1, 1) := de_04 tX10_open_50
def tX10_open_51 := Bt_1 (q := 51) tX10_open_50 rfl
theorem dX10_open_51 : decode cX10_open 51 = .ok (.iadd, 1) := de_60 tX10_open_51
def tX10_open_52 := Bt_1 (q := 52) tX10_open_51 rfl
theorem dX10_open_52 : decode cX10_open 52 = .ok (.putfield 258, 3) := de_b5 tX10_open_52 (by decide +kernel)
def tX10_open_55 := Bt_3 (q := 55) tX10_open_52 rfl
theorem dX10_open_55 : decode cX10_open 55 = .ok (.return_, 1) := de_b1 tX10_open_55
def tX10_isDigit_0 := Bt_0 cX10_isDigit
theorem dX10_isDigit_0 : decode cX10_isDigit 0 = .ok (.iload_n 0, 1) := de_1a tX10_isDigit_0
def tX10_isDigit_1 := Bt_1 (q := 1) tX10_isDigit_0 rfl
theorem dX10_isDigit_1 : decode cX10_isDigit 1 = .ok (.bipush 48, 2) := de_10 tX10_isDigit_1 (by decide +kernel)
def tX10_isDigit_3 := Bt_2 (q := 3) tX10_isDigit_1 rfl
theorem dX10_isDigit_3 : decode cX10_isDigit 3 = .ok (.bipush 57, 2) := de_10 tX10_isDigit_3 (by decide +kernel)
def tX10_isDigit_5 := Bt_2 (q := 5) tX10_isDigit_3 rfl
theorem dX10_isDigit_5 : decode cX10_isDigit 5 = .ok (.invokestatic 144, 3) := de_b8 tX10_isDigit_5 (by decide +kernel)
def tX10_isDigit_8 := Bt_3 (q := 8) tX10_isDigit_5 rfl
theorem dX10_isDigit_8 : decode cX10_isDigit 8 = .ok (.ireturn, 1) := de_ac tX10_isDigit_8
def tX10_readUnit_0 := Bt_0 cX10_readUnit
theorem dX10_readUnit_0 : decode cX10_readUnit 0 = .ok (.aload_n 1, 1) := de_2b tX10_readUnit_0
def tX10_readUnit_1 := Bt_1 (q := 1) tX10_readUnit_0 rfl
theorem dX10_readUnit_1 : decode cX10_readUnit 1 = .ok (.iload_n 2, 1) := de_1c tX10_readUnit_1
def tX10_readUnit_2 := Bt_1 (q := 2) tX10_readUnit_1 rfl
theorem dX10_readUnit_2 : decode cX10_readUnit 2 = .ok (.aload_n 0, 1) := de_2a tX10_readUnit_2
def tX10_readUnit_3 := Bt_1 (q := 3) tX10_readUnit_2 rfl
theorem dX10_readUnit_3 : decode cX10_readUnit 3 = .ok (.getfield 258, 3) := de_b4 tX10_readUnit_3 (by decide +kernel)
def tX10_readUnit_6 := Bt_3 (q := 6) tX10_readUnit_3 rfl
theorem dX10_readUnit_6 : decode cX10_readUnit 6 = .ok (.invokestatic 261, 3) := de_b8 tX10_readUnit_6 (by decide +kernel)
def tX10_readUnit_9 := Bt_3 (q := 9) tX10_readUnit_6 rfl
theorem dX10_readUnit_9 : decode cX10_readUnit 9 = .ok (.istore_n 3, 1) := de_3e tX10_readUnit_9
def tX10_readUnit_10 := Bt_1 (q := 10) tX10_readUnit_9 rfl
theorem dX10_readUnit_10 : decode cX10_readUnit 10 = .ok (.iload_n 3, 1) := de_1d tX10_readUnit_10
def tX10_readUnit_11 := Bt_1 (q := 11) tX10_readUnit_10 rfl
theorem dX10_readUnit_11 : decode cX10_readUnit 11 = .ok (.bipush 60, 2) := de_10 tX10_readUnit_11 (by decide +kernel)
def tX10_readUnit_13 := Bt_2 (q := 13) tX10_readUnit_11 rfl
theorem dX10_readUnit_13 : decode cX10_readUnit 13 = .ok (.if_icmp .eq 9, 3) := de_9f tX10_readUnit_13 (by decide +kernel)
def tX10_readUnit_16 := Bt_3 (q := 16) tX10_readUnit_13 rfl
theorem dX10_readUnit_16 : decode cX10_readUnit 16 = .ok (.iload_n 3, 1) := de_1d tX10_readUnit_16
def tX10_readUnit_17 := Bt_1 (q := 17) tX10_readUnit_16 rfl
theorem dX10_readUnit_17 : decode cX10_readUnit 17 = .ok (.bipush 62, 2) := de_10 tX10_readUnit_17 (by decide +kernel)
def tX10_readUnit_19 := Bt_2 (q := 19) tX10_readUnit_17 rfl
theorem dX10_readUnit_19 : decode cX10_readUnit 19 = .ok (.if_icmp .ne 42, 3) := de_a0 tX10_readUnit_19 (by decide +kernel)
def tX10_readUnit_22 := Bt_3 (q := 22) tX10_readUnit_19 rfl
theorem dX10_readUnit_22 : decode cX10_readUnit 22 = .ok (.aload_n 0, 1) := de_2a tX10_readUnit_22
def tX10_readUnit_23 := Bt_1 (q := 23) tX10_readUnit_22 rfl
theorem dX10_readUnit_23 : decode cX10_readUnit 23 = .ok (.dup, 1) := de_59 tX10_readUnit_23
def tX10_readUnit_24 := Bt_1 (q := 24) tX10_readUnit_23 rfl
theorem dX10_readUnit_24 : decode cX10_readUnit 24 = .ok (.getfield 258, 3) := de_b4 tX10_readUnit_24 (by decide +kernel)
def tX10_readUnit_27 := Bt_3 (q := 27) tX10_readUnit_24 rfl
theorem dX10_readUnit_27 : decode cX10_readUnit 27 = .ok (.iconst 1, 1) := de_04 tX10_readUnit_27
def tX10_readUnit_28 := Bt_1 (q := 28) tX10_readUnit_27 rfl
theorem dX10_readUnit_28 : decode cX10_readUnit 28 = .ok (.iadd, 1) := de_60 tX10_readUnit_28
def tX10_readUnit_29 := Bt_1 (q := 29) tX10_readUnit_28 rfl
theorem dX10_readUnit_29 : decode cX10_readUnit 29 = .ok (.putfield 258, 3) := de_b5 tX10_readUnit_29 (by decide +kernel)
def tX10_readUnit_32 := Bt_3 (q := 32) tX10_readUnit_29 rfl
theorem dX10_readUnit_32 : decode cX10_readUnit 32 = .ok (.aload_n 1, 1) := de_2b tX10_readUnit_32
def tX10_readUnit_33 := Bt_1 (q := 33) tX10_readUnit_32 rfl
theorem dX10_readUnit_33 : decode cX10_readUnit 33 = .ok (.iload_n 2, 1) := de_1c tX10_readUnit_33
def tX10_readUnit_34 := Bt_1 (q := 34) tX10_readUnit_33 rfl
theorem dX10_readUnit_34 : decode cX10_readUnit 34 = .ok (.aload_n 0, 1) := de_2a tX10_readUnit_34
def tX10_readUnit_35 := Bt_1 (q := 35) tX10_readUnit_34 rfl
theorem dX10_readUnit_35 : decode cX10_readUnit 35 = .ok (.getfield 258, 3) := de_b4 tX10_readUnit_35 (by decide +kernel)
def tX10_readUnit_38 := Bt_3 (q := 38) tX10_readUnit_35 rfl
theorem dX10_readUnit_38 : decode cX10_readUnit 38 = .ok (.invokestatic 261, 3) := de_b8 tX10_readUnit_38 (by decide +kernel)
def tX10_readUnit_41 := Bt_3 (q := 41) tX10_readUnit_38 rfl
theorem dX10_readUnit_41 : decode cX10_readUnit 41 = .ok (.bipush 40, 2) := de_10 tX10_readUnit_41 (by decide +kernel)
def tX10_readUnit_43 := Bt_2 (q := 43) tX10_readUnit_41 rfl
theorem dX10_readUnit_43 : decode cX10_readUnit 43 = .ok (.if_icmp .ne 11, 3) := de_a0 tX10_readUnit_43 (by decide +kernel)
def tX10_readUnit_46 := Bt_3 (q := 46) tX10_readUnit_43 rfl
theorem dX10_readUnit_46 : decode cX10_readUnit 46 = .ok (.aload_n 0, 1) := de_2a tX10_readUnit_46
def tX10_readUnit_47 := Bt_1 (q := 47) tX10_readUnit_46 rfl
theorem dX10_readUnit_47 : decode cX10_readUnit 47 = .ok (.iload_n 3, 1) := de_1d tX10_readUnit_47
def tX10_readUnit_48 := Bt_1 (q := 48) tX10_readUnit_47 rfl
theorem dX10_readUnit_48 : decode cX10_readUnit 48 = .ok (.invokevirtual 265, 3) := de_b6 tX10_readUnit_48 (by decide +kernel)
def tX10_readUnit_51 := Bt_3 (q := 51) tX10_readUnit_48 rfl
theorem dX10_readUnit_51 : decode cX10_readUnit 51 = .ok (.goto 8, 3) := de_a7 tX10_readUnit_51 (by decide +kernel)
def tX10_readUnit_54 := Bt_3 (q := 54) tX10_readUnit_51 rfl
theorem dX10_readUnit_54 : decode cX10_readUnit 54 = .ok (.aload_n 0, 1) := de_2a tX10_readUnit_54
def tX10_readUnit_55 := Bt_1 (q := 55) tX10_readUnit_54 rfl
theorem dX10_readUnit_55 : decode cX10_readUnit 55 = .ok (.iconst 1, 1) := de_04 tX10_readUnit_55
def tX10_readUnit_56 := Bt_1 (q := 56) tX10_readUnit_55 rfl
theorem dX10_readUnit_56 : decode cX10_readUnit 56 = .ok (.putfield 255, 3) := de_b5 tX10_readUnit_56 (by decide +kernel)
def tX10_readUnit_59 := Bt_3 (q := 59) tX10_readUnit_56 rfl
theorem dX10_readUnit_59 : decode cX10_readUnit 59 = .ok (.iconst 1, 1) := de_04 tX10_readUnit_59
def tX10_readUnit_60 := Bt_1 (q := 60) tX10_readUnit_59 rfl
theorem dX10_readUnit_60 : decode cX10_readUnit 60 = .ok (.ireturn, 1) := de_ac tX10_readUnit_60
def tX10_readUnit_61 := Bt_1 (q := 61) tX10_readUnit_60 rfl
theorem dX10_readUnit_61 : decode cX10_readUnit 61 = .ok (.iload_n 3, 1) := de_1d tX10_readUnit_61
def tX10_readUnit_62 := Bt_1 (q := 62) tX10_readUnit_61 rfl
theorem dX10_readUnit_62 : decode cX10_readUnit 62 = .ok (.bipush 40, 2) := de_10 tX10_readUnit_62 (by decide +kernel)
def tX10_readUnit_64 := Bt_2 (q := 64) tX10_readUnit_62 rfl
theorem dX10_readUnit_64 : decode cX10_readUnit 64 = .ok (.if_icmp .ne 11, 3) := de_a0 tX10_readUnit_64 (by decide +kernel)
def tX10_readUnit_67 := Bt_3 (q := 67) tX10_readUnit_64 rfl
theorem dX10_readUnit_67 : decode cX10_readUnit 67 = .ok (.aload_n 0, 1) := de_2a tX10_readUnit_67
def tX10_readUnit_68 := Bt_1 (q := 68) tX10_readUnit_67 rfl
theorem dX10_readUnit_68 : decode cX10_readUnit 68 = .ok (.bipush 40, 2) := de_10 tX10_readUnit_68 (by decide +kernel)
def tX10_readUnit_70 := Bt_2 (q := 70) tX10_readUnit_68 rfl
theorem dX10_readUnit_70 : decode cX10_readUnit 70 = .ok (.invokevirtual 265, 3) := de_b6 tX10_readUnit_70 (by decide +kernel)
def tX10_readUnit_73 := Bt_3 (q := 73) tX10_readUnit_70 rfl
theorem dX10_readUnit_73 : decode cX10_readUnit 73 = .ok (.iconst 1, 1) := de_04 tX10_readUnit_73
def tX10_readUnit_74 := Bt_1 (q := 74) tX10_readUnit_73 rfl
theorem dX10_readUnit_74 : decode cX10_readUnit 74 = .ok (.ireturn, 1) := de_ac tX10_readUnit_74
def tX10_readUnit_75 := Bt_1 (q := 75) tX10_readUnit_74 rfl
theorem dX10_readUnit_75 : decode cX10_readUnit 75 = .ok (.iload_n 3, 1) := de_1d tX10_readUnit_75
def tX10_readUnit_76 := Bt_1 (q := 76) tX10_readUnit_75 rfl
theorem dX10_readUnit_76 : decode cX10_readUnit 76 = .ok (.invokestatic 268, 3) := de_b8 tX10_readUnit_76 (by decide +kernel)
def tX10_readUnit_79 := Bt_3 (q := 79) tX10_readUnit_76 rfl
theorem dX10_readUnit_79 : decode cX10_readUnit 79 = .ok (.ifCond .lt 37, 3) := de_9b tX10_readUnit_79 (by decide +kernel)
def tX10_readUnit_82 := Bt_3 (q := 82) tX10_readUnit_79 rfl
theorem dX10_readUnit_82 : decode cX10_readUnit 82 = .ok (.aload_n 0, 1) := de_2a tX10_readUnit_82
def tX10_readUnit_83 := Bt_1 (q := 83) tX10_readUnit_82 rfl
theorem dX10_readUnit_83 : decode cX10_readUnit 83 = .ok (.aload_n 0, 1) := de_2a tX10_readUnit_83
def tX10_readUnit_84 := Bt_1 (q := 84) tX10_readUnit_83 rfl
theorem dX10_readUnit_84 : decode cX10_readUnit 84 = .ok (.getfield 60, 3) := de_b4 tX10_readUnit_84 (by decide +kernel)
def tX10_readUnit_87 := Bt_3 (q := 87) tX10_readUnit_84 rfl
theorem dX10_readUnit_87 : decode cX10_readUnit 87 = .ok (.iload_n 3, 1) := de_1d tX10_readUnit_87
def tX10_readUnit_88 := Bt_1 (q := 88) tX10_readUnit_87 rfl
theorem dX10_readUnit_88 : decode cX10_readUnit 88 = .ok (.invokestatic 268, 3) := de_b8 tX10_readUnit_88 (by decide +kernel)
def tX10_readUnit_91 := Bt_3 (q := 91) tX10_readUnit_88 rfl
theorem dX10_readUnit_91 : decode cX10_readUnit 91 = .ok (.laload, 1) := de_2f tX10_readUnit_91
def tX10_readUnit_92 := Bt_1 (q := 92) tX10_readUnit_91 rfl
theorem dX10_readUnit_92 : decode cX10_readUnit 92 = .ok (.aload_n 0, 1) := de_2a tX10_readUnit_92
def tX10_readUnit_93 := Bt_1 (q := 93) tX10_readUnit_92 rfl
theorem dX10_readUnit_93 : decode cX10_readUnit 93 = .ok (.getfield 64, 3) := de_b4 tX10_readUnit_93 (by decide +kernel)
def tX10_readUnit_96 := Bt_3 (q := 96) tX10_readUnit_93 rfl
theorem dX10_readUnit_96 : decode cX10_readUnit 96 = .ok (.iload_n 3, 1) := de_1d tX10_readUnit_96
def tX10_readUnit_97 := Bt_1 (q := 97) tX10_readUnit_96 rfl
theorem dX10_readUnit_97 : decode cX10_readUnit 97 = .ok (.invokestatic 268, 3) := de_b8 tX10_readUnit_97 (by decide +kernel)
def tX10_readUnit_100 := Bt_3 (q := 100) tX10_readUnit_97 rfl
theorem dX10_readUnit_100 : decode cX10_readUnit 100 = .ok (.laload, 1) := de_2f tX10_readUnit_100
def tX10_readUnit_101 := Bt_1 (q := 101) tX10_readUnit_100 rfl
theorem dX10_readUnit_101 : decode cX10_readUnit 101 = .ok (.invokevirtual 271, 3) := de_b6 tX10_readUnit_101 (by decide +kernel)
def tX10_readUnit_104 := Bt_3 (q := 104) tX10_readUnit_101 rfl
theorem dX10_readUnit_104 : decode cX10_readUnit 104 = .ok (.aload_n 0, 1) := de_2a tX10_readUnit_104
def tX10_readUnit_105 := Bt_1 (q := 105) tX10_readUnit_104 rfl
theorem dX10_readUnit_105 : decode cX10_readUnit 105 = .ok (.dup, 1) := de_59 tX10_readUnit_105
def tX10_readUnit_106 := Bt_1 (q := 106) tX10_readUnit_105 rfl
theorem dX10_readUnit_106 : decode cX10_readUnit 106 = .ok (.getfield 258, 3) := de_b4 tX10_readUnit_106 (by decide +kernel)
def tX10_readUnit_109 := Bt_3 (q := 109) tX10_readUnit_106 rfl
theorem dX10_readUnit_109 : decode cX10_readUnit 109 = .ok (.iconst 1, 1) := de_04 tX10_readUnit_109
def tX10_readUnit_110 := Bt_1 (q := 110) tX10_readUnit_109 rfl
theorem dX10_readUnit_110 : decode cX10_readUnit 110 = .ok (.iadd, 1) := de_60 tX10_readUnit_110
def tX10_readUnit_111 := Bt_1 (q := 111) tX10_readUnit_110 rfl
theorem dX10_readUnit_111 : decode cX10_readUnit 111 = .ok (.putfield 258, 3) := de_b5 tX10_readUnit_111 (by decide +kernel)
def tX10_readUnit_114 := Bt_3 (q := 114) tX10_readUnit_111 rfl
theorem dX10_readUnit_114 : decode cX10_readUnit 114 = .ok (.iconst 0, 1) := de_03 tX10_readUnit_114
def tX10_readUnit_115 := Bt_1 (q := 115) tX10_readUnit_114 rfl
theorem dX10_readUnit_115 : decode cX10_readUnit 115 = .ok (.ireturn, 1) := de_ac tX10_readUnit_115
def tX10_readUnit_116 := Bt_1 (q := 116) tX10_readUnit_115 rfl
theorem dX10_readUnit_116 : decode cX10_readUnit 116 = .ok (.iload_n 3, 1) := de_1d tX10_readUnit_116
def tX10_readUnit_117 := Bt_1 (q := 117) tX10_readUnit_116 rfl
theorem dX10_readUnit_117 : decode cX10_readUnit 117 = .ok (.invokestatic 275, 3) := de_b8 tX10_readUnit_117 (by decide +kernel)
def tX10_readUnit_120 := Bt_3 (q := 120) tX10_readUnit_117 rfl
theorem dX10_readUnit_120 : decode cX10_readUnit 120 = .ok (.ifCond .ne 10, 3) := de_9a tX10_readUnit_120 (by decide +kernel)
def tX10_readUnit_123 := Bt_3 (q := 123) tX10_readUnit_120 rfl
theorem dX10_readUnit_123 : decode cX10_readUnit 123 = .ok (.aload_n 0, 1) := de_2a tX10_readUnit_123
def tX10_readUnit_124 := Bt_1 (q := 124) tX10_readUnit_123 rfl
theorem dX10_readUnit_124 : decode cX10_readUnit 124 = .ok (.iconst 1, 1) := de_04 tX10_readUnit_124
def tX10_readUnit_125 := Bt_1 (q := 125) tX10_readUnit_124 rfl
theorem dX10_readUnit_125 : decode cX10_readUnit 125 = .ok (.putfield 255, 3) := de_b5 tX10_readUnit_125 (by decide +kernel)
def tX10_readUnit_128 := Bt_3 (q := 128) tX10_readUnit_125 rfl
theorem dX10_readUnit_128 : decode cX10_readUnit 128 = .ok (.iconst 1, 1) := de_04 tX10_readUnit_128
def tX10_readUnit_129 := Bt_1 (q := 129) tX10_readUnit_128 rfl
theorem dX10_readUnit_129 : decode cX10_readUnit 129 = .ok (.ireturn, 1) := de_ac tX10_readUnit_129
def tX10_readUnit_130 := Bt_1 (q := 130) tX10_readUnit_129 rfl
theorem dX10_readUnit_130 : decode cX10_readUnit 130 = .ok (.lconst 0, 1) := de_09 tX10_readUnit_130
def tX10_readUnit_131 := Bt_1 (q := 131) tX10_readUnit_130 rfl
theorem dX10_readUnit_131 : decode cX10_readUnit 131 = .ok (.lstore 4, 2) := de_37 tX10_readUnit_131 (by decide +kernel)
def tX10_readUnit_133 := Bt_2 (q := 133) tX10_readUnit_131 rfl
theorem dX10_readUnit_133 : decode cX10_readUnit 133 = .ok (.iconst 0, 1) := de_03 tX10_readUnit_133
def tX10_readUnit_134 := Bt_1 (q := 134) tX10_readUnit_133 rfl
theorem dX10_readUnit_134 : decode cX10_readUnit 134 = .ok (.istore 6, 2) := de_36 tX10_readUnit_134 (by decide +kernel)
def tX10_readUnit_136 := Bt_2 (q := 136) tX10_readUnit_134 rfl
theorem dX10_readUnit_136 : decode cX10_readUnit 136 = .ok (.iload 6, 2) := de_15 tX10_readUnit_136 (by decide +kernel)
def tX10_readUnit_138 := Bt_2 (q := 138) tX10_readUnit_136 rfl
theorem dX10_readUnit_138 : decode cX10_readUnit 138 = .ok (.bipush 6, 2) := de_10 tX10_readUnit_138 (by decide +kernel)
def tX10_readUnit_140 := Bt_2 (q := 140) tX10_readUnit_138 rfl
theorem dX10_readUnit_140 : decode cX10_readUnit 140 = .ok (.if_icmp .ge 57, 3) := de_a2 tX10_readUnit_140 (by decide +kernel)
def tX10_readUnit_143 := Bt_3 (q := 143) tX10_readUnit_140 rfl
theorem dX10_readUnit_143 : decode cX10_readUnit 143 = .ok (.aload_n 1, 1) := de_2b tX10_readUnit_143
def tX10_readUnit_144 := Bt_1 (q := 144) tX10_readUnit_143 rfl
theorem dX10_readUnit_144 : decode cX10_readUnit 144 = .ok (.iload_n 2, 1) := de_1c tX10_readUnit_144
def tX10_readUnit_145 := Bt_1 (q := 145) tX10_readUnit_144 rfl
theorem dX10_readUnit_145 : decode cX10_readUnit 145 = .ok (.aload_n 0, 1) := de_2a tX10_readUnit_145
def tX10_readUnit_146 := Bt_1 (q := 146) tX10_readUnit_145 rfl
theorem dX10_readUnit_146 : decode cX10_readUnit 146 = .ok (.getfield 258, 3) := de_b4 tX10_readUnit_146 (by decide +kernel)
def tX10_readUnit_149 := Bt_3 (q := 149) tX10_readUnit_146 rfl
theorem dX10_readUnit_149 : decode cX10_readUnit 149 = .ok (.invokestatic 261, 3) := de_b8 tX10_readUnit_149 (by decide +kernel)
def tX10_readUnit_152 := Bt_3 (q := 152) tX10_readUnit_149 rfl
theorem dX10_readUnit_152 : decode cX10_readUnit 152 = .ok (.invokestatic 275, 3) := de_b8 tX10_readUnit_152 (by decide +kernel)
def tX10_readUnit_155 := Bt_3 (q := 155) tX10_readUnit_152 rfl
theorem dX10_readUnit_155 : decode cX10_readUnit 155 = .ok (.ifCond .eq 42, 3) := de_99 tX10_readUnit_155 (by decide +kernel)
def tX10_readUnit_158 := Bt_3 (q := 158) tX10_readUnit_155 rfl
theorem dX10_readUnit_158 : decode cX10_readUnit 158 = .ok (.ldc2_w 278, 3) := de_14 tX10_readUnit_158 (by decide +kernel)
def tX10_readUnit_161 := Bt_3 (q := 161) tX10_readUnit_158 rfl
theorem dX10_readUnit_161 : decode cX10_readUnit 161 = .ok (.lload 4, 2) := de_16 tX10_readUnit_161 (by decide +kernel)
def tX10_readUnit_163 := Bt_2 (q := 163) tX10_readUnit_161 rfl
theorem dX10_readUnit_163 : decode cX10_readUnit 163 = .ok (.lmul, 1) := de_69 tX10_readUnit_163
def tX10_readUnit_164 := Bt_1 (q := 164) tX10_readUnit_163 rfl
theorem dX10_readUnit_164 : decode cX10_readUnit 164 = .ok (.aload_n 1, 1) := de_2b tX10_readUnit_164
def tX10_readUnit_165 := Bt_1 (q := 165) tX10_readUnit_164 rfl
theorem dX10_readUnit_165 : decode cX10_readUnit 165 = .ok (.iload_n 2, 1) := de_1c tX10_readUnit_165
def tX10_readUnit_166 := Bt_1 (q := 166) tX10_readUnit_165 rfl
theorem dX10_readUnit_166 : decode cX10_readUnit 166 = .ok (.aload_n 0, 1) := de_2a tX10_readUnit_166
def tX10_readUnit_167 := Bt_1 (q := 167) tX10_readUnit_166 rfl
theorem dX10_readUnit_167 : decode cX10_readUnit 167 = .ok (.getfield 258, 3) := de_b4 tX10_readUnit_167 (by decide +kernel)
def tX10_readUnit_170 := Bt_3 (q := 170) tX10_readUnit_167 rfl
theorem dX10_readUnit_170 : decode cX10_readUnit 170 = .ok (.invokestatic 261, 3) := de_b8 tX10_readUnit_170 (by decide +kernel)
def tX10_readUnit_173 := Bt_3 (q := 173) tX10_readUnit_170 rfl
theorem dX10_readUnit_173 : decode cX10_readUnit 173 = .ok (.i2l, 1) := de_85 tX10_readUnit_173
def tX10_readUnit_174 := Bt_1 (q := 174) tX10_readUnit_173 rfl
theorem dX10_readUnit_174 : decode cX10_readUnit 174 = .ok (.ladd, 1) := de_61 tX10_readUnit_174
def tX10_readUnit_175 := Bt_1 (q := 175) tX10_readUnit_174 rfl
theorem dX10_readUnit_175 : decode cX10_readUnit 175 = .ok (.ldc2_w 280, 3) := de_14 tX10_readUnit_175 (by decide +kernel)
def tX10_readUnit_178 := Bt_3 (q := 178) tX10_readUnit_175 rfl
theorem dX10_readUnit_178 : decode cX10_readUnit 178 = .ok (.lsub, 1) := de_65 tX10_readUnit_178
def tX10_readUnit_179 := Bt_1 (q := 179) tX10_readUnit_178 rfl
theorem dX10_readUnit_179 : decode cX10_readUnit 179 = .ok (.lstore 4, 2) := de_37 tX10_readUnit_179 (by decide +kernel)
def tX10_readUnit_181 := Bt_2 (q := 181) tX10_readUnit_179 rfl
theorem dX10_readUnit_181 : decode cX10_readUnit 181 = .ok (.aload_n 0, 1) := de_2a tX10_readUnit_181
def tX10_readUnit_182 := Bt_1 (q := 182) tX10_readUnit_181 rfl
theorem dX10_readUnit_182 : decode cX10_readUnit 182 = .ok (.dup, 1) := de_59 tX10_readUnit_182
def tX10_readUnit_183 := Bt_1 (q := 183) tX10_readUnit_182 rfl
theorem dX10_readUnit_183 : decode cX10_readUnit 183 = .ok (.getfield 258, 3) := de_b4 tX10_readUnit_183 (by decide +kernel)
def tX10_readUnit_186 := Bt_3 (q := 186) tX10_readUnit_183 rfl
theorem dX10_readUnit_186 : decode cX10_readUnit 186 = .ok (.iconst 1, 1) := de_04 tX10_readUnit_186
def tX10_readUnit_187 := Bt_1 (q := 187) tX10_readUnit_186 rfl
theorem dX10_readUnit_187 : decode cX10_readUnit 187 = .ok (.iadd, 1) := de_60 tX10_readUnit_187
def tX10_readUnit_188 := Bt_1 (q := 188) tX10_readUnit_187 rfl
theorem dX10_readUnit_188 : decode cX10_readUnit 188 = .ok (.putfield 258, 3) := de_b5 tX10_readUnit_188 (by decide +kernel)
def tX10_readUnit_191 := Bt_3 (q := 191) tX10_readUnit_188 rfl
theorem dX10_readUnit_191 : decode cX10_readUnit 191 = .ok (.iinc 6 1, 3) := de_84 tX10_readUnit_191 (by decide +kernel) (by decide +kernel)
def tX10_readUnit_194 := Bt_3 (q := 194) tX10_readUnit_191 rfl
theorem dX10_readUnit_194 : decode cX10_readUnit 194 = .ok (.goto (-58), 3) := de_a7 tX10_readUnit_194 (by decide +kernel)
def tX10_readUnit_197 := Bt_3 (q := 197) tX10_readUnit_194 rfl
theorem dX10_readUnit_197 : decode cX10_readUnit 197 = .ok (.aload_n 0, 1) := de_2a tX10_readUnit_197
def tX10_readUnit_198 := Bt_1 (q := 198) tX10_readUnit_197 rfl
theorem dX10_readUnit_198 : decode cX10_readUnit 198 = .ok (.lload 4, 2) := de_16 tX10_readUnit_198 (by decide +kernel)
def tX10_readUnit_200 := Bt_2 (q := 200) tX10_readUnit_198 rfl
theorem dX10_readUnit_200 : decode cX10_readUnit 200 = .ok (.lconst 1, 1) := de_0a tX10_readUnit_200
def tX10_readUnit_201 := Bt_1 (q := 201) tX10_readUnit_200 rfl
theorem dX10_readUnit_201 : decode cX10_readUnit 201 = .ok (.invokevirtual 271, 3) := de_b6 tX10_readUnit_201 (by decide +kernel)
def tX10_readUnit_204 := Bt_3 (q := 204) tX10_readUnit_201 rfl
theorem dX10_readUnit_204 : decode cX10_readUnit 204 = .ok (.iconst 0, 1) := de_03 tX10_readUnit_204
def tX10_readUnit_205 := Bt_1 (q := 205) tX10_readUnit_204 rfl
theorem dX10_readUnit_205 : decode cX10_readUnit 205 = .ok (.ireturn, 1) := de_ac tX10_readUnit_205
def tX10_readSign_0 := Bt_0 cX10_readSign
theorem dX10_readSign_0 : decode cX10_readSign 0 = .ok (.iload_n 1, 1) := de_1b tX10_readSign_0
def tX10_readSign_1 := Bt_1 (q := 1) tX10_readSign_0 rfl
theorem dX10_readSign_1 : decode cX10_readSign 1 = .ok (.bipush 42, 2) := de_10 tX10_readSign_1 (by decide +kernel)
def tX10_readSign_3 := Bt_2 (q := 3) tX10_readSign_1 rfl
theorem dX10_readSign_3 : decode cX10_readSign 3 = .ok (.if_icmp .eq 21, 3) := de_9f tX10_readSign_3 (by decide +kernel)
def tX10_readSign_6 := Bt_3 (q := 6) tX10_readSign_3 rfl
theorem dX10_readSign_6 : decode cX10_readSign 6 = .ok (.iload_n 1, 1) := de_1b tX10_readSign_6
def tX10_readSign_7 := Bt_1 (q := 7) tX10_readSign_6 rfl
theorem dX10_readSign_7 : decode cX10_readSign 7 = .ok (.bipush 47, 2) := de_10 tX10_readSign_7 (by decide +kernel)
def tX10_readSign_9 := Bt_2 (q := 9) tX10_readSign_7 rfl
theorem dX10_readSign_9 : decode cX10_readSign 9 = .ok (.if_icmp .eq 15, 3) := de_9f tX10_readSign_9 (by decide +kernel)
def tX10_readSign_12 := Bt_3 (q := 12) tX10_readSign_9 rfl
theorem dX10_readSign_12 : decode cX10_readSign 12 = .ok (.iload_n 1, 1) := de_1b tX10_readSign_12
def tX10_readSign_13 := Bt_1 (q := 13) tX10_readSign_12 rfl
theorem dX10_readSign_13 : decode cX10_readSign 13 = .ok (.bipush 43, 2) := de_10 tX10_readSign_13 (by decide +kernel)
def tX10_readSign_15 := Bt_2 (q := 15) tX10_readSign_13 rfl
theorem dX10_readSign_15 : decode cX10_readSign 15 = .ok (.if_icmp .eq 9, 3) := de_9f tX10_readSign_15 (by decide +kernel)
def tX10_readSign_18 := Bt_3 (q := 18) tX10_readSign_15 rfl
theorem dX10_readSign_18 : decode cX10_readSign 18 = .ok (.iload_n 1, 1) := de_1b tX10_readSign_18
def tX10_readSign_19 := Bt_1 (q := 19) tX10_readSign_18 rfl
theorem dX10_readSign_19 : decode cX10_readSign 19 = .ok (.bipush 45, 2) := de_10 tX10_readSign_19 (by decide +kernel)
def tX10_readSign_21 := Bt_2 (q := 21) tX10_readSign_19 rfl
theorem dX10_readSign_21 : decode cX10_readSign 21 = .ok (.if_icmp .ne 56, 3) := de_a0 tX10_readSign_21 (by decide +kernel)
def tX10_readSign_24 := Bt_3 (q := 24) tX10_readSign_21 rfl
theorem dX10_readSign_24 : decode cX10_readSign 24 = .ok (.aload_n 0, 1) := de_2a tX10_readSign_24
def tX10_readSign_25 := Bt_1 (q := 25) tX10_readSign_24 rfl
theorem dX10_readSign_25 : decode cX10_readSign 25 = .ok (.iload_n 1, 1) := de_1b tX10_readSign_25
def tX10_readSign_26 := Bt_1 (q := 26) tX10_readSign_25 rfl
theorem dX10_readSign_26 : decode cX10_readSign 26 = .ok (.bipush 43, 2) := de_10 tX10_readSign_26 (by decide +kernel)
def tX10_readSign_28 := Bt_2 (q := 28) tX10_readSign_26 rfl
theorem dX10_readSign_28 : decode cX10_readSign 28 = .ok (.if_icmp .eq 9, 3) := de_9f tX10_readSign_28 (by decide +kernel)
def tX10_readSign_31 := Bt_3 (q := 31) tX10_readSign_28 rfl
theorem dX10_readSign_31 : decode cX10_readSign 31 = .ok (.iload_n 1, 1) := de_1b tX10_readSign_31
def tX10_readSign_32 := Bt_1 (q := 32) tX10_readSign_31 rfl
theorem dX10_readSign_32 : decode cX10_readSign 32 = .ok (.bipush 45, 2) := de_10 tX10_readSign_32 (by decide +kernel)
def tX10_readSign_34 := Bt_2 (q := 34) tX10_readSign_32 rfl
theorem dX10_readSign_34 : decode cX10_readSign 34 = .ok (.if_icmp .ne 7, 3) := de_a0 tX10_readSign_34 (by decide +kernel)
def tX10_readSign_37 := Bt_3 (q := 37) tX10_readSign_34 rfl
theorem dX10_readSign_37 : decode cX10_readSign 37 = .ok (.iconst 1, 1) := de_04 tX10_readSign_37
def tX10_readSign_38 := Bt_1 (q := 38) tX10_readSign_37 rfl
theorem dX10_readSign_38 : decode cX10_readSign 38 = .ok (.goto 4, 3) := de_a7 tX10_readSign_38 (by decide +kernel)
def tX10_readSign_41 := Bt_3 (q := 41) tX10_readSign_38 rfl
theorem dX10_readSign_41 : decode cX10_readSign 41 = .ok (.iconst 0, 1) := de_03 tX10_readSign_41
def tX10_readSign_42 := Bt_1 (q := 42) tX10_readSign_41 rfl
theorem dX10_readSign_42 : decode cX10_readSign 42 = .ok (.invokevirtual 282, 3) := de_b6 tX10_readSign_42 (by decide +kernel)
def tX10_readSign_45 := Bt_3 (q := 45) tX10_readSign_42 rfl
theorem dX10_readSign_45 : decode cX10_readSign 45 = .ok (.aload_n 0, 1) := de_2a tX10_readSign_45
def tX10_readSign_46 := Bt_1 (q := 46) tX10_readSign_45 rfl
theorem dX10_readSign_46 : decode cX10_readSign 46 = .ok (.getfield 73, 3) := de_b4 tX10_readSign_46 (by decide +kernel)
def tX10_readSign_49 := Bt_3 (q := 49) tX10_readSign_46 rfl
theorem dX10_readSign_49 : decode cX10_readSign 49 = .ok (.aload_n 0, 1) := de_2a tX10_readSign_49
def tX10_readSign_50 := Bt_1 (q := 50) tX10_readSign_49 rfl
theorem dX10_readSign_50 : decode cX10_readSign 50 = .ok (.getfield 238, 3) := de_b4 tX10_readSign_50 (by decide +kernel)
def tX10_readSign_53 := Bt_3 (q := 53) tX10_readSign_50 rfl
theorem dX10_readSign_53 : decode cX10_readSign 53 = .ok (.iload_n 1, 1) := de_1b tX10_readSign_53
def tX10_readSign_54 := Bt_1 (q := 54) tX10_readSign_53 rfl
theorem dX10_readSign_54 : decode cX10_readSign 54 = .ok (.iastore, 1) := de_4f tX10_readSign_54
def tX10_readSign_55 := Bt_1 (q := 55) tX10_readSign_54 rfl
theorem dX10_readSign_55 : decode cX10_readSign 55 = .ok (.aload_n 0, 1) := de_2a tX10_readSign_55
def tX10_readSign_56 := Bt_1 (q := 56) tX10_readSign_55 rfl
theorem dX10_readSign_56 : decode cX10_readSign 56 = .ok (.dup, 1) := de_59 tX10_readSign_56
def tX10_readSign_57 := Bt_1 (q := 57) tX10_readSign_56 rfl
theorem dX10_readSign_57 : decode cX10_readSign 57 = .ok (.getfield 238, 3) := de_b4 tX10_readSign_57 (by decide +kernel)
def tX10_readSign_60 := Bt_3 (q := 60) tX10_readSign_57 rfl
theorem dX10_readSign_60 : decode cX10_readSign 60 = .ok (.iconst 1, 1) := de_04 tX10_readSign_60
def tX10_readSign_61 := Bt_1 (q := 61) tX10_readSign_60 rfl
theorem dX10_readSign_61 : decode cX10_readSign 61 = .ok (.iadd, 1) := de_60 tX10_readSign_61
def tX10_readSign_62 := Bt_1 (q := 62) tX10_readSign_61 rfl
theorem dX10_readSign_62 : decode cX10_readSign 62 = .ok (.putfield 238, 3) := de_b5 tX10_readSign_62 (by decide +kernel)
def tX10_readSign_65 := Bt_3 (q := 65) tX10_readSign_62 rfl
theorem dX10_readSign_65 : decode cX10_readSign 65 = .ok (.aload_n 0, 1) := de_2a tX10_readSign_65
def tX10_readSign_66 := Bt_1 (q := 66) tX10_readSign_65 rfl
theorem dX10_readSign_66 : decode cX10_readSign 66 = .ok (.dup, 1) := de_59 tX10_readSign_66
def tX10_readSign_67 := Bt_1 (q := 67) tX10_readSign_66 rfl
theorem dX10_readSign_67 : decode cX10_readSign 67 = .ok (.getfield 258, 3) := de_b4 tX10_readSign_67 (by decide +kernel)
def tX10_readSign_70 := Bt_3 (q := 70) tX10_readSign_67 rfl
theorem dX10_readSign_70 : decode cX10_readSign 70 = .ok (.iconst 1, 1) := de_04 tX10_readSign_70
def tX10_readSign_71 := Bt_1 (q := 71) tX10_readSign_70 rfl
theorem dX10_readSign_71 : decode cX10_readSign 71 = .ok (.iadd, 1) := de_60 tX10_readSign_71
def tX10_readSign_72 := Bt_1 (q := 72) tX10_readSign_71 rfl
theorem dX10_readSign_72 : decode cX10_readSign 72 = .ok (.putfield 258, 3) := de_b5 tX10_readSign_72 (by decide +kernel)
def tX10_readSign_75 := Bt_3 (q := 75) tX10_readSign_72 rfl
theorem dX10_readSign_75 : decode cX10_readSign 75 = .ok (.iconst 1, 1) := de_04 tX10_readSign_75
def tX10_readSign_76 := Bt_1 (q := 76) tX10_readSign_75 rfl
theorem dX10_readSign_76 : decode cX10_readSign 76 = .ok (.ireturn, 1) := de_ac tX10_readSign_76
def tX10_readSign_77 := Bt_1 (q := 77) tX10_readSign_76 rfl
theorem dX10_readSign_77 : decode cX10_readSign 77 = .ok (.iload_n 1, 1) := de_1b tX10_readSign_77
def tX10_readSign_78 := Bt_1 (q := 78) tX10_readSign_77 rfl
theorem dX10_readSign_78 : decode cX10_readSign 78 = .ok (.bipush 44, 2) := de_10 tX10_readSign_78 (by decide +kernel)
def tX10_readSign_80 := Bt_2 (q := 80) tX10_readSign_78 rfl
theorem dX10_readSign_80 : decode cX10_readSign 80 = .ok (.if_icmp .ne 79, 3) := de_a0 tX10_readSign_80 (by decide +kernel)
def tX10_readSign_83 := Bt_3 (q := 83) tX10_readSign_80 rfl
theorem dX10_readSign_83 : decode cX10_readSign 83 = .ok (.aload_n 0, 1) := de_2a tX10_readSign_83
def tX10_readSign_84 := Bt_1 (q := 84) tX10_readSign_83 rfl
theorem dX10_readSign_84 : decode cX10_readSign 84 = .ok (.iconst 1, 1) := de_04 tX10_readSign_84
def tX10_readSign_85 := Bt_1 (q := 85) tX10_readSign_84 rfl
theorem dX10_readSign_85 : decode cX10_readSign 85 = .ok (.invokevirtual 282, 3) := de_b6 tX10_readSign_85 (by decide +kernel)
def tX10_readSign_88 := Bt_3 (q := 88) tX10_readSign_85 rfl
theorem dX10_readSign_88 : decode cX10_readSign 88 = .ok (.aload_n 0, 1) := de_2a tX10_readSign_88
def tX10_readSign_89 := Bt_1 (q := 89) tX10_readSign_88 rfl
theorem dX10_readSign_89 : decode cX10_readSign 89 = .ok (.aload_n 0, 1) := de_2a tX10_readSign_89
def tX10_readSign_90 := Bt_1 (q := 90) tX10_readSign_89 rfl
theorem dX10_readSign_90 : decode cX10_readSign 90 = .ok (.invokevirtual 241, 3) := de_b6 tX10_readSign_90 (by decide +kernel)
def tX10_readSign_93 := Bt_3 (q := 93) tX10_readSign_90 rfl
theorem dX10_readSign_93 : decode cX10_readSign 93 = .ok (.bipush 60, 2) := de_10 tX10_readSign_93 (by decide +kernel)
def tX10_readSign_95 := Bt_2 (q := 95) tX10_readSign_93 rfl
theorem dX10_readSign_95 : decode cX10_readSign 95 = .ok (.if_icmp .eq 16, 3) := de_9f tX10_readSign_95 (by decide +kernel)
def tX10_readSign_98 := Bt_3 (q := 98) tX10_readSign_95 rfl
theorem dX10_readSign_98 : decode cX10_readSign 98 = .ok (.aload_n 0, 1) := de_2a tX10_readSign_98
def tX10_readSign_99 := Bt_1 (q := 99) tX10_readSign_98 rfl
theorem dX10_readSign_99 : decode cX10_readSign 99 = .ok (.invokevirtual 241, 3) := de_b6 tX10_readSign_99 (by decide +kernel)
def tX10_readSign_102 := Bt_3 (q := 102) tX10_readSign_99 rfl
theorem dX10_readSign_102 : decode cX10_readSign 102 = .ok (.bipush 62, 2) := de_10 tX10_readSign_102 (by decide +kernel)
def tX10_readSign_104 := Bt_2 (q := 104) tX10_readSign_102 rfl
theorem dX10_readSign_104 : decode cX10_readSign 104 = .ok (.if_icmp .eq 7, 3) := de_9f tX10_readSign_104 (by decide +kernel)
def tX10_readSign_107 := Bt_3 (q := 107) tX10_readSign_104 rfl
theorem dX10_readSign_107 : decode cX10_readSign 107 = .ok (.iconst 1, 1) := de_04 tX10_readSign_107
def tX10_readSign_108 := Bt_1 (q := 108) tX10_readSign_107 rfl
theorem dX10_readSign_108 : decode cX10_readSign 108 = .ok (.goto 4, 3) := de_a7 tX10_readSign_108 (by decide +kernel)
def tX10_readSign_111 := Bt_3 (q := 111) tX10_readSign_108 rfl
theorem dX10_readSign_111 : decode cX10_readSign 111 = .ok (.iconst 0, 1) := de_03 tX10_readSign_111
def tX10_readSign_112 := Bt_1 (q := 112) tX10_readSign_111 rfl
theorem dX10_readSign_112 : decode cX10_readSign 112 = .ok (.putfield 255, 3) := de_b5 tX10_readSign_112 (by decide +kernel)
def tX10_readSign_115 := Bt_3 (q := 115) tX10_readSign_112 rfl
theorem dX10_readSign_115 : decode cX10_readSign 115 = .ok (.aload_n 0, 1) := de_2a tX10_readSign_115
def tX10_readSign_116 := Bt_1 (q := 116) tX10_readSign_115 rfl
theorem dX10_readSign_116 : decode cX10_readSign 116 = .ok (.getfield 255, 3) := de_b4 tX10_readSign_116 (by decide +kernel)
def tX10_readSign_119 := Bt_3 (q := 119) tX10_readSign_116 rfl
theorem dX10_readSign_119 : decode cX10_readSign 119 = .ok (.ifCond .ne 38, 3) := de_9a tX10_readSign_119 (by decide +kernel)
def tX10_readSign_122 := Bt_3 (q := 122) tX10_readSign_119 rfl
theorem dX10_readSign_122 : decode cX10_readSign 122 = .ok (.aload_n 0, 1) := de_2a tX10_readSign_122
def tX10_readSign_123 := Bt_1 (q := 123) tX10_readSign_122 rfl
theorem dX10_readSign_123 : decode cX10_readSign 123 = .ok (.getfield 73, 3) := de_b4 tX10_readSign_123 (by decide +kernel)
def tX10_readSign_126 := Bt_3 (q := 126) tX10_readSign_123 rfl
theorem dX10_readSign_126 : decode cX10_readSign 126 = .ok (.aload_n 0, 1) := de_2a tX10_readSign_126
def tX10_readSign_127 := Bt_1 (q := 127) tX10_readSign_126 rfl
theorem dX10_readSign_127 : decode cX10_readSign 127 = .ok (.getfield 238, 3) := de_b4 tX10_readSign_127 (by decide +kernel)
def tX10_readSign_130 := Bt_3 (q := 130) tX10_readSign_127 rfl
theorem dX10_readSign_130 : decode cX10_readSign 130 = .ok (.iconst 1, 1) := de_04 tX10_readSign_130
def tX10_readSign_131 := Bt_1 (q := 131) tX10_readSign_130 rfl
theorem dX10_readSign_131 : decode cX10_readSign 131 = .ok (.isub, 1) := de_64 tX10_readSign_131
def tX10_readSign_132 := Bt_1 (q := 132) tX10_readSign_131 rfl
theorem dX10_readSign_132 : decode cX10_readSign 132 = .ok (.aload_n 0, 1) := de_2a tX10_readSign_132
def tX10_readSign_133 := Bt_1 (q := 133) tX10_readSign_132 rfl
theorem dX10_readSign_133 : decode cX10_readSign 133 = .ok (.invokevirtual 241, 3) := de_b6 tX10_readSign_133 (by decide +kernel)
def tX10_readSign_136 := Bt_3 (q := 136) tX10_readSign_133 rfl
theorem dX10_readSign_136 : decode cX10_readSign 136 = .ok (.bipush 60, 2) := de_10 tX10_readSign_136 (by decide +kernel)
def tX10_readSign_138 := Bt_2 (q := 138) tX10_readSign_136 rfl
theorem dX10_readSign_138 : decode cX10_readSign 138 = .ok (.if_icmp .ne 7, 3) := de_a0 tX10_readSign_138 (by decide +kernel)
def tX10_readSign_141 := Bt_3 (q := 141) tX10_readSign_138 rfl
theorem dX10_readSign_141 : decode cX10_readSign 141 = .ok (.iconst 1, 1) := de_04 tX10_readSign_141
def tX10_readSign_142 := Bt_1 (q := 142) tX10_readSign_141 rfl
theorem dX10_readSign_142 : decode cX10_readSign 142 = .ok (.goto 4, 3) := de_a7 tX10_readSign_142 (by decide +kernel)
def tX10_readSign_145 := Bt_3 (q := 145) tX10_readSign_142 rfl
theorem dX10_readSign_145 : decode cX10_readSign 145 = .ok (.iconst 2, 1) := de_05 tX10_readSign_145
def tX10_readSign_146 := Bt_1 (q := 146) tX10_readSign_145 rfl
theorem dX10_readSign_146 : decode cX10_readSign 146 = .ok (.iastore, 1) := de_4f tX10_readSign_146
def tX10_readSign_147 := Bt_1 (q := 147) tX10_readSign_146 rfl
theorem dX10_readSign_147 : decode cX10_readSign 147 = .ok (.aload_n 0, 1) := de_2a tX10_readSign_147
def tX10_readSign_148 := Bt_1 (q := 148) tX10_readSign_147 rfl
theorem dX10_readSign_148 : decode cX10_readSign 148 = .ok (.dup, 1) := de_59 tX10_readSign_148
def tX10_readSign_149 := Bt_1 (q := 149) tX10_readSign_148 rfl
theorem dX10_readSign_149 : decode cX10_readSign 149 = .ok (.getfield 258, 3) := de_b4 tX10_readSign_149 (by decide +kernel)
def tX10_readSign_152 := Bt_3 (q := 152) tX10_readSign_149 rfl
theorem dX10_readSign_152 : decode cX10_readSign 152 = .ok (.iconst 1, 1) := de_04 tX10_readSign_152
def tX10_readSign_153 := Bt_1 (q := 153) tX10_readSign_152 rfl
theorem dX10_readSign_153 : decode cX10_readSign 153 = .ok (.iadd, 1) := de_60 tX10_readSign_153
def tX10_readSign_154 := Bt_1 (q := 154) tX10_readSign_153 rfl
theorem dX10_readSign_154 : decode cX10_readSign 154 = .ok (.putfield 258, 3) := de_b5 tX10_readSign_154 (by decide +kernel)
def tX10_readSign_157 := Bt_3 (q := 157) tX10_readSign_154 rfl
theorem dX10_readSign_157 : decode cX10_readSign 157 = .ok (.iconst 1, 1) := de_04 tX10_readSign_157
def tX10_readSign_158 := Bt_1 (q := 158) tX10_readSign_157 rfl
theorem dX10_readSign_158 : decode cX10_readSign 158 = .ok (.ireturn, 1) := de_ac tX10_readSign_158
def tX10_readSign_159 := Bt_1 (q := 159) tX10_readSign_158 rfl
theorem dX10_readSign_159 : decode cX10_readSign 159 = .ok (.iload_n 1, 1) := de_1b tX10_readSign_159
def tX10_readSign_160 := Bt_1 (q := 160) tX10_readSign_159 rfl
theorem dX10_readSign_160 : decode cX10_readSign 160 = .ok (.bipush 41, 2) := de_10 tX10_readSign_160 (by decide +kernel)
def tX10_readSign_162 := Bt_2 (q := 162) tX10_readSign_160 rfl
theorem dX10_readSign_162 : decode cX10_readSign 162 = .ok (.if_icmp .ne 99, 3) := de_a0 tX10_readSign_162 (by decide +kernel)
def tX10_readSign_165 := Bt_3 (q := 165) tX10_readSign_162 rfl
theorem dX10_readSign_165 : decode cX10_readSign 165 = .ok (.aload_n 0, 1) := de_2a tX10_readSign_165
def tX10_readSign_166 := Bt_1 (q := 166) tX10_readSign_165 rfl
theorem dX10_readSign_166 : decode cX10_readSign 166 = .ok (.iconst 1, 1) := de_04 tX10_readSign_166
def tX10_readSign_167 := Bt_1 (q := 167) tX10_readSign_166 rfl
theorem dX10_readSign_167 : decode cX10_readSign 167 = .ok (.invokevirtual 282, 3) := de_b6 tX10_readSign_167 (by decide +kernel)
def tX10_readSign_170 := Bt_3 (q := 170) tX10_readSign_167 rfl
theorem dX10_readSign_170 : decode cX10_readSign 170 = .ok (.aload_n 0, 1) := de_2a tX10_readSign_170
def tX10_readSign_171 := Bt_1 (q := 171) tX10_readSign_170 rfl
theorem dX10_readSign_171 : decode cX10_readSign 171 = .ok (.invokevirtual 241, 3) := de_b6 tX10_readSign_171 (by decide +kernel)
def tX10_readSign_174 := Bt_3 (q := 174) tX10_readSign_171 rfl
theorem dX10_readSign_174 : decode cX10_readSign 174 = .ok (.istore_n 2, 1) := de_3d tX10_readSign_174
def tX10_readSign_175 := Bt_1 (q := 175) tX10_readSign_174 rfl
theorem dX10_readSign_175 : decode cX10_readSign 175 = .ok (.aload_n 0, 1) := de_2a tX10_readSign_175
def tX10_readSign_176 := Bt_1 (q := 176) tX10_readSign_175 rfl
theorem dX10_readSign_176 : decode cX10_readSign 176 = .ok (.iload_n 2, 1) := de_1c tX10_readSign_176
def tX10_readSign_177 := Bt_1 (q := 177) tX10_readSign_176 rfl
theorem dX10_readSign_177 : decode cX10_readSign 177 = .ok (.bipush 40, 2) := de_10 tX10_readSign_177 (by decide +kernel)
def tX10_readSign_179 := Bt_2 (q := 179) tX10_readSign_177 rfl
theorem dX10_readSign_179 : decode cX10_readSign 179 = .ok (.if_icmp .eq 17, 3) := de_9f tX10_readSign_179 (by decide +kernel)
def tX10_readSign_182 := Bt_3 (q := 182) tX10_readSign_179 rfl
theorem dX10_readSign_182 : decode cX10_readSign 182 = .ok (.iload_n 2, 1) := de_1c tX10_readSign_182
def tX10_readSign_183 := Bt_1 (q := 183) tX10_readSign_182 rfl
theorem dX10_readSign_183 : decode cX10_readSign 183 = .ok (.iconst 1, 1) := de_04 tX10_readSign_183
def tX10_readSign_184 := Bt_1 (q := 184) tX10_readSign_183 rfl
theorem dX10_readSign_184 : decode cX10_readSign 184 = .ok (.if_icmp .eq 12, 3) := de_9f tX10_readSign_184 (by decide +kernel)
def tX10_readSign_187 := Bt_3 (q := 187) tX10_readSign_184 rfl
theorem dX10_readSign_187 : decode cX10_readSign 187 = .ok (.iload_n 2, 1) := de_1c tX10_readSign_187
def tX10_readSign_188 := Bt_1 (q := 188) tX10_readSign_187 rfl
theorem dX10_readSign_188 : decode cX10_readSign 188 = .ok (.iconst 2, 1) := de_05 tX10_readSign_188
def tX10_readSign_189 := Bt_1 (q := 189) tX10_readSign_188 rfl
theorem dX10_readSign_189 : decode cX10_readSign 189 = .ok (.if_icmp .eq 7, 3) := de_9f tX10_readSign_189 (by decide +kernel)
def tX10_readSign_192 := Bt_3 (q := 192) tX10_readSign_189 rfl
theorem dX10_readSign_192 : decode cX10_readSign 192 = .ok (.iconst 1, 1) := de_04 tX10_readSign_192
def tX10_readSign_193 := Bt_1 (q := 193) tX10_readSign_192 rfl
theorem dX10_readSign_193 : decode cX10_readSign 193 = .ok (.goto 4, 3) := de_a7 tX10_readSign_193 (by decide +kernel)
def tX10_readSign_196 := Bt_3 (q := 196) tX10_readSign_193 rfl
theorem dX10_readSign_196 : decode cX10_readSign 196 = .ok (.iconst 0, 1) := de_03 tX10_readSign_196
def tX10_readSign_197 := Bt_1 (q := 197) tX10_readSign_196 rfl
theorem dX10_readSign_197 : decode cX10_readSign 197 = .ok (.putfield 255, 3) := de_b5 tX10_readSign_197 (by decide +kernel)
def tX10_readSign_200 := Bt_3 (q := 200) tX10_readSign_197 rfl
theorem dX10_readSign_200 : decode cX10_readSign 200 = .ok (.aload_n 0, 1) := de_2a tX10_readSign_200
def tX10_readSign_201 := Bt_1 (q := 201) tX10_readSign_200 rfl
theorem dX10_readSign_201 : decode cX10_readSign 201 = .ok (.getfield 255, 3) := de_b4 tX10_readSign_201 (by decide +kernel)
def tX10_readSign_204 := Bt_3 (q := 204) tX10_readSign_201 rfl
theorem dX10_readSign_204 : decode cX10_readSign 204 = .ok (.ifCond .ne 55, 3) := de_9a tX10_readSign_204 (by decide +kernel)
def tX10_readSign_207 := Bt_3 (q := 207) tX10_readSign_204 rfl
theorem dX10_readSign_207 : decode cX10_readSign 207 = .ok (.aload_n 0, 1) := de_2a tX10_readSign_207
def tX10_readSign_208 := Bt_1 (q := 208) tX10_readSign_207 rfl
theorem dX10_readSign_208 : decode cX10_readSign 208 = .ok (.dup, 1) := de_59 tX10_readSign_208
def tX10_readSign_209 := Bt_1 (q := 209) tX10_readSign_208 rfl
theorem dX10_readSign_209 : decode cX10_readSign 209 = .ok (.getfield 238, 3) := de_b4 tX10_readSign_209 (by decide +kernel)
def tX10_readSign_212 := Bt_3 (q := 212) tX10_readSign_209 rfl
theorem dX10_readSign_212 : decode cX10_readSign 212 = .ok (.iconst 1, 1) := de_04 tX10_readSign_212
def tX10_readSign_213 := Bt_1 (q := 213) tX10_readSign_212 rfl
theorem dX10_readSign_213 : decode cX10_readSign 213 = .ok (.isub, 1) := de_64 tX10_readSign_213
def tX10_readSign_214 := Bt_1 (q := 214) tX10_readSign_213 rfl
theorem dX10_readSign_214 : decode cX10_readSign 214 = .ok (.putfield 238, 3) := de_b5 tX10_readSign_214 (by decide +kernel)
def tX10_readSign_217 := Bt_3 (q := 217) tX10_readSign_214 rfl
theorem dX10_readSign_217 : decode cX10_readSign 217 = .ok (.aload_n 0, 1) := de_2a tX10_readSign_217
def tX10_readSign_218 := Bt_1 (q := 218) tX10_readSign_217 rfl
theorem dX10_readSign_218 : decode cX10_readSign 218 = .ok (.dup, 1) := de_59 tX10_readSign_218
def tX10_readSign_219 := Bt_1 (q := 219) tX10_readSign_218 rfl
theorem dX10_readSign_219 : decode cX10_readSign 219 = .ok (.getfield 252, 3) := de_b4 tX10_readSign_219 (by decide +kernel)
def tX10_readSign_222 := Bt_3 (q := 222) tX10_readSign_219 rfl
theorem dX10_readSign_222 : decode cX10_readSign 222 = .ok (.iconst 1, 1) := de_04 tX10_readSign_222
def tX10_readSign_223 := Bt_1 (q := 223) tX10_readSign_222 rfl
theorem dX10_readSign_223 : decode cX10_readSign 223 = .ok (.isub, 1) := de_64 tX10_readSign_223
def tX10_readSign_224 := Bt_1 (q := 224) tX10_readSign_223 rfl
theorem dX10_readSign_224 : decode cX10_readSign 224 = .ok (.putfield 252, 3) := de_b5 tX10_readSign_224 (by decide +kernel)
def tX10_readSign_227 := Bt_3 (q := 227) tX10_readSign_224 rfl
theorem dX10_readSign_227 : decode cX10_readSign 227 = .ok (.aload_n 0, 1) := de_2a tX10_readSign_227
def tX10_readSign_228 := Bt_1 (q := 228) tX10_readSign_227 rfl
theorem dX10_readSign_228 : decode cX10_readSign 228 = .ok (.dup, 1) := de_59 tX10_readSign_228
def tX10_readSign_229 := Bt_1 (q := 229) tX10_readSign_228 rfl
theorem dX10_readSign_229 : decode cX10_readSign 229 = .ok (.getfield 258, 3) := de_b4 tX10_readSign_229 (by decide +kernel)
def tX10_readSign_232 := Bt_3 (q := 232) tX10_readSign_229 rfl
theorem dX10_readSign_232 : decode cX10_readSign 232 = .ok (.iconst 1, 1) := de_04 tX10_readSign_232
def tX10_readSign_233 := Bt_1 (q := 233) tX10_readSign_232 rfl
theorem dX10_readSign_233 : decode cX10_readSign 233 = .ok (.iadd, 1) := de_60 tX10_readSign_233
def tX10_readSign_234 := Bt_1 (q := 234) tX10_readSign_233 rfl
theorem dX10_readSign_234 : decode cX10_readSign 234 = .ok (.putfield 258, 3) := de_b5 tX10_readSign_234 (by decide +kernel)
def tX10_readSign_237 := Bt_3 (q := 237) tX10_readSign_234 rfl
theorem dX10_readSign_237 : decode cX10_readSign 237 = .ok (.iload_n 2, 1) := de_1c tX10_readSign_237
def tX10_readSign_238 := Bt_1 (q := 238) tX10_readSign_237 rfl
theorem dX10_readSign_238 : decode cX10_readSign 238 = .ok (.bipush 40, 2) := de_10 tX10_readSign_238 (by decide +kernel)
def tX10_readSign_240 := Bt_2 (q := 240) tX10_readSign_238 rfl
theorem dX10_readSign_240 : decode cX10_readSign 240 = .ok (.if_icmp .eq 19, 3) := de_9f tX10_readSign_240 (by decide +kernel)
def tX10_readSign_243 := Bt_3 (q := 243) tX10_readSign_240 rfl
theorem dX10_readSign_243 : decode cX10_readSign 243 = .ok (.aload_n 0, 1) := de_2a tX10_readSign_243
def tX10_readSign_244 := Bt_1 (q := 244) tX10_readSign_243 rfl
theorem dX10_readSign_244 : decode cX10_readSign 244 = .ok (.iload_n 2, 1) := de_1c tX10_readSign_244
def tX10_readSign_245 := Bt_1 (q := 245) tX10_readSign_244 rfl
theorem dX10_readSign_245 : decode cX10_readSign 245 = .ok (.iconst 1, 1) := de_04 tX10_readSign_245
def tX10_readSign_246 := Bt_1 (q := 246) tX10_readSign_245 rfl
theorem dX10_readSign_246 : decode cX10_readSign 246 = .ok (.if_icmp .ne 8, 3) := de_a0 tX10_readSign_246 (by decide +kernel)
def tX10_readSign_249 := Bt_3 (q := 249) tX10_readSign_246 rfl
theorem dX10_readSign_249 : decode cX10_readSign 249 = .ok (.bipush 60, 2) := de_10 tX10_readSign_249 (by decide +kernel)
def tX10_readSign_251 := Bt_2 (q := 251) tX10_readSign_249 rfl
theorem dX10_readSign_251 : decode cX10_readSign 251 = .ok (.goto 5, 3) := de_a7 tX10_readSign_251 (by decide +kernel)
def tX10_readSign_254 := Bt_3 (q := 254) tX10_readSign_251 rfl
theorem dX10_readSign_254 : decode cX10_readSign 254 = .ok (.bipush 62, 2) := de_10 tX10_readSign_254 (by decide +kernel)
def tX10_readSign_256 := Bt_2 (q := 256) tX10_readSign_254 rfl
theorem dX10_readSign_256 : decode cX10_readSign 256 = .ok (.invokevirtual 245, 3) := de_b6 tX10_readSign_256 (by decide +kernel)
def tX10_readSign_259 := Bt_3 (q := 259) tX10_readSign_256 rfl
theorem dX10_readSign_259 : decode cX10_readSign 259 = .ok (.iconst 0, 1) := de_03 tX10_readSign_259
def tX10_readSign_260 := Bt_1 (q := 260) tX10_readSign_259 rfl
theorem dX10_readSign_260 : decode cX10_readSign 260 = .ok (.ireturn, 1) := de_ac tX10_readSign_260
def tX10_readSign_261 := Bt_1 (q := 261) tX10_readSign_260 rfl
theorem dX10_readSign_261 : decode cX10_readSign 261 = .ok (.aload_n 0, 1) := de_2a tX10_readSign_261
def tX10_readSign_262 := Bt_1 (q := 262) tX10_readSign_261 rfl
theorem dX10_readSign_262 : decode cX10_readSign 262 = .ok (.iconst 1, 1) := de_04 tX10_readSign_262
def tX10_readSign_263 := Bt_1 (q := 263) tX10_readSign_262 rfl
theorem dX10_readSign_263 : decode cX10_readSign 263 = .ok (.putfield 255, 3) := de_b5 tX10_readSign_263 (by decide +kernel)
def tX10_readSign_266 := Bt_3 (q := 266) tX10_readSign_263 rfl
theorem dX10_readSign_266 : decode cX10_readSign 266 = .ok (.iconst 0, 1) := de_03 tX10_readSign_266
def tX10_readSign_267 := Bt_1 (q := 267) tX10_readSign_266 rfl
theorem dX10_readSign_267 : decode cX10_readSign 267 = .ok (.ireturn, 1) := de_ac tX10_readSign_267
def tX10_workText_0 := Bt_0 cX10_workText
theorem dX10_workText_0 : decode cX10_workText 0 = .ok (.aload_n 0, 1) := de_2a tX10_workText_0
def tX10_workText_1 := Bt_1 (q := 1) tX10_workText_0 rfl
theorem dX10_workText_1 : decode cX10_workText 1 = .ok (.iconst 0, 1) := de_03 tX10_workText_1
def tX10_workText_2 := Bt_1 (q := 2) tX10_workText_1 rfl
theorem dX10_workText_2 : decode cX10_workText 2 = .ok (.putfield 228, 3) := de_b5 tX10_workText_2 (by decide +kernel)
def tX10_workText_5 := Bt_3 (q := 5) tX10_workText_2 rfl
theorem dX10_workText_5 : decode cX10_workText 5 = .ok (.aload_n 0, 1) := de_2a tX10_workText_5
def tX10_workText_6 := Bt_1 (q := 6) tX10_workText_5 rfl
theorem dX10_workText_6 : decode cX10_workText 6 = .ok (.iconst 0, 1) := de_03 tX10_workText_6
def tX10_workText_7 := Bt_1 (q := 7) tX10_workText_6 rfl
theorem dX10_workText_7 : decode cX10_workText 7 = .ok (.putfield 238, 3) := de_b5 tX10_workText_7 (by decide +kernel)
def tX10_workText_10 := Bt_3 (q := 10) tX10_workText_7 rfl
theorem dX10_workText_10 : decode cX10_workText 10 = .ok (.aload_n 0, 1) := de_2a tX10_workText_10
def tX10_workText_11 := Bt_1 (q := 11) tX10_workText_10 rfl
theorem dX10_workText_11 : decode cX10_workText 11 = .ok (.iconst 0, 1) := de_03 tX10_workText_11
def tX10_workText_12 := Bt_1 (q := 12) tX10_workText_11 rfl
theorem dX10_workText_12 : decode cX10_workText 12 = .ok (.putfield 252, 3) := de_b5 tX10_workText_12 (by decide +kernel)
def tX10_workText_15 := Bt_3 (q := 15) tX10_workText_12 rfl
theorem dX10_workText_15 : decode cX10_workText 15 = .ok (.aload_n 0, 1) := de_2a tX10_workText_15
def tX10_workText_16 := Bt_1 (q := 16) tX10_workText_15 rfl
theorem dX10_workText_16 : decode cX10_workText 16 = .ok (.iconst 0, 1) := de_03 tX10_workText_16
def tX10_workText_17 := Bt_1 (q := 17) tX10_workText_16 rfl
theorem dX10_workText_17 : decode cX10_workText 17 = .ok (.putfield 258, 3) := de_b5 tX10_workText_17 (by decide +kernel)
def tX10_workText_20 := Bt_3 (q := 20) tX10_workText_17 rfl
theorem dX10_workText_20 : decode cX10_workText 20 = .ok (.aload_n 0, 1) := de_2a tX10_workText_20
def tX10_workText_21 := Bt_1 (q := 21) tX10_workText_20 rfl
theorem dX10_workText_21 : decode cX10_workText 21 = .ok (.iconst 0, 1) := de_03 tX10_workText_21
def tX10_workText_22 := Bt_1 (q := 22) tX10_workText_21 rfl
theorem dX10_workText_22 : decode cX10_workText 22 = .ok (.putfield 249, 3) := de_b5 tX10_workText_22 (by decide +kernel)
def tX10_workText_25 := Bt_3 (q := 25) tX10_workText_22 rfl
theorem dX10_workText_25 : decode cX10_workText 25 = .ok (.aload_n 0, 1) := de_2a tX10_workText_25
def tX10_workText_26 := Bt_1 (q := 26) tX10_workText_25 rfl
theorem dX10_workText_26 : decode cX10_workText 26 = .ok (.iconst 0, 1) := de_03 tX10_workText_26
def tX10_workText_27 := Bt_1 (q := 27) tX10_workText_26 rfl
theorem dX10_workText_27 : decode cX10_workText 27 = .ok (.putfield 255, 3) := de_b5 tX10_workText_27 (by decide +kernel)
def tX10_workText_30 := Bt_3 (q := 30) tX10_workText_27 rfl
theorem dX10_workText_30 : decode cX10_workText 30 = .ok (.aload_n 0, 1) := de_2a tX10_workText_30
def tX10_workText_31 := Bt_1 (q := 31) tX10_workText_30 rfl
theorem dX10_workText_31 : decode cX10_workText 31 = .ok (.iconst 0, 1) := de_03 tX10_workText_31
def tX10_workText_32 := Bt_1 (q := 32) tX10_workText_31 rfl
theorem dX10_workText_32 : decode cX10_workText 32 = .ok (.putfield 231, 3) := de_b5 tX10_workText_32 (by decide +kernel)
def tX10_workText_35 := Bt_3 (q := 35) tX10_workText_32 rfl
theorem dX10_workText_35 : decode cX10_workText 35 = .ok (.iconst 1, 1) := de_04 tX10_workText_35
def tX10_workText_36 := Bt_1 (q := 36) tX10_workText_35 rfl
theorem dX10_workText_36 : decode cX10_workText 36 = .ok (.istore_n 3, 1) := de_3e tX10_workText_36
def tX10_workText_37 := Bt_1 (q := 37) tX10_workText_36 rfl
theorem dX10_workText_37 : decode cX10_workText 37 = .ok (.aload_n 0, 1) := de_2a tX10_workText_37
def tX10_workText_38 := Bt_1 (q := 38) tX10_workText_37 rfl
theorem dX10_workText_38 : decode cX10_workText 38 = .ok (.getfield 255, 3) := de_b4 tX10_workText_38 (by decide +kernel)
def tX10_workText_41 := Bt_3 (q := 41) tX10_workText_38 rfl
theorem dX10_workText_41 : decode cX10_workText 41 = .ok (.ifCond .ne 42, 3) := de_9a tX10_workText_41 (by decide +kernel)
def tX10_workText_44 := Bt_3 (q := 44) tX10_workText_41 rfl
theorem dX10_workText_44 : decode cX10_workText 44 = .ok (.iload_n 3, 1) := de_1d tX10_workText_44
def tX10_workText_45 := Bt_1 (q := 45) tX10_workText_44 rfl
theorem dX10_workText_45 : decode cX10_workText 45 = .ok (.ifCond .ne 11, 3) := de_9a tX10_workText_45 (by decide +kernel)
def tX10_workText_48 := Bt_3 (q := 48) tX10_workText_45 rfl
theorem dX10_workText_48 : decode cX10_workText 48 = .ok (.aload_n 0, 1) := de_2a tX10_workText_48
def tX10_workText_49 := Bt_1 (q := 49) tX10_workText_48 rfl
theorem dX10_workText_49 : decode cX10_workText 49 = .ok (.getfield 258, 3) := de_b4 tX10_workText_49 (by decide +kernel)
def tX10_workText_52 := Bt_3 (q := 52) tX10_workText_49 rfl
theorem dX10_workText_52 : decode cX10_workText 52 = .ok (.iload_n 2, 1) := de_1c tX10_workText_52
def tX10_workText_53 := Bt_1 (q := 53) tX10_workText_52 rfl
theorem dX10_workText_53 : decode cX10_workText 53 = .ok (.if_icmp .ge 30, 3) := de_a2 tX10_workText_53 (by decide +kernel)
def tX10_workText_56 := Bt_3 (q := 56) tX10_workText_53 rfl
theorem dX10_workText_56 : decode cX10_workText 56 = .ok (.iload_n 3, 1) := de_1d tX10_workText_56
def tX10_workText_57 := Bt_1 (q := 57) tX10_workText_56 rfl
theorem dX10_workText_57 : decode cX10_workText 57 = .ok (.ifCond .eq 12, 3) := de_99 tX10_workText_57 (by decide +kernel)
def tX10_workText_60 := Bt_3 (q := 60) tX10_workText_57 rfl
theorem dX10_workText_60 : decode cX10_workText 60 = .ok (.aload_n 0, 1) := de_2a tX10_workText_60
def tX10_workText_61 := Bt_1 (q := 61) tX10_workText_60 rfl
theorem dX10_workText_61 : decode cX10_workText 61 = .ok (.aload_n 1, 1) := de_2b tX10_workText_61
def tX10_workText_62 := Bt_1 (q := 62) tX10_workText_61 rfl
theorem dX10_workText_62 : decode cX10_workText 62 = .ok (.iload_n 2, 1) := de_1c tX10_workText_62
def tX10_workText_63 := Bt_1 (q := 63) tX10_workText_62 rfl
theorem dX10_workText_63 : decode cX10_workText 63 = .ok (.invokevirtual 286, 3) := de_b6 tX10_workText_63 (by decide +kernel)
def tX10_workText_66 := Bt_3 (q := 66) tX10_workText_63 rfl
theorem dX10_workText_66 : decode cX10_workText 66 = .ok (.goto 13, 3) := de_a7 tX10_workText_66 (by decide +kernel)
def tX10_workText_69 := Bt_3 (q := 69) tX10_workText_66 rfl
theorem dX10_workText_69 : decode cX10_workText 69 = .ok (.aload_n 0, 1) := de_2a tX10_workText_69
def tX10_workText_70 := Bt_1 (q := 70) tX10_workText_69 rfl
theorem dX10_workText_70 : decode cX10_workText 70 = .ok (.aload_n 1, 1) := de_2b tX10_workText_70
def tX10_workText_71 := Bt_1 (q := 71) tX10_workText_70 rfl
theorem dX10_workText_71 : decode cX10_workText 71 = .ok (.aload_n 0, 1) := de_2a tX10_workText_71
def tX10_workText_72 := Bt_1 (q := 72) tX10_workText_71 rfl
theorem dX10_workText_72 : decode cX10_workText 72 = .ok (.getfield 258, 3) := de_b4 tX10_workText_72 (by decide +kernel)
def tX10_workText_75 := Bt_3 (q := 75) tX10_workText_72 rfl
theorem dX10_workText_75 : decode cX10_workText 75 = .ok (.iaload, 1) := de_2e tX10_workText_75
def tX10_workText_76 := Bt_1 (q := 76) tX10_workText_75 rfl
theorem dX10_workText_76 : decode cX10_workText 76 = .ok (.invokevirtual 290, 3) := de_b6 tX10_workText_76 (by decide +kernel)
def tX10_workText_79 := Bt_3 (q := 79) tX10_workText_76 rfl
theorem dX10_workText_79 : decode cX10_workText 79 = .ok (.istore_n 3, 1) := de_3e tX10_workText_79
def tX10_workText_80 := Bt_1 (q := 80) tX10_workText_79 rfl
theorem dX10_workText_80 : decode cX10_workText 80 = .ok (.goto (-43), 3) := de_a7 tX10_workText_80 (by decide +kernel)
def tX10_workText_83 := Bt_3 (q := 83) tX10_workText_80 rfl
theorem dX10_workText_83 : decode cX10_workText 83 = .ok (.aload_n 0, 1) := de_2a tX10_workText_83
def tX10_workText_84 := Bt_1 (q := 84) tX10_workText_83 rfl
theorem dX10_workText_84 : decode cX10_workText 84 = .ok (.getfield 255, 3) := de_b4 tX10_workText_84 (by decide +kernel)
def tX10_workText_87 := Bt_3 (q := 87) tX10_workText_84 rfl
theorem dX10_workText_87 : decode cX10_workText 87 = .ok (.ifCond .ne 24, 3) := de_9a tX10_workText_87 (by decide +kernel)
def tX10_workText_90 := Bt_3 (q := 90) tX10_workText_87 rfl
theorem dX10_workText_90 : decode cX10_workText 90 = .ok (.aload_n 0, 1) := de_2a tX10_workText_90
def tX10_workText_91 := Bt_1 (q := 91) tX10_workText_90 rfl
theorem dX10_workText_91 : decode cX10_workText 91 = .ok (.iconst 1, 1) := de_04 tX10_workText_91
def tX10_workText_92 := Bt_1 (q := 92) tX10_workText_91 rfl
theorem dX10_workText_92 : decode cX10_workText 92 = .ok (.invokevirtual 282, 3) := de_b6 tX10_workText_92 (by decide +kernel)
def tX10_workText_95 := Bt_3 (q := 95) tX10_workText_92 rfl
theorem dX10_workText_95 : decode cX10_workText 95 = .ok (.aload_n 0, 1) := de_2a tX10_workText_95
def tX10_workText_96 := Bt_1 (q := 96) tX10_workText_95 rfl
theorem dX10_workText_96 : decode cX10_workText 96 = .ok (.aload_n 0, 1) := de_2a tX10_workText_96
def tX10_workText_97 := Bt_1 (q := 97) tX10_workText_96 rfl
theorem dX10_workText_97 : decode cX10_workText 97 = .ok (.getfield 238, 3) := de_b4 tX10_workText_97 (by decide +kernel)
def tX10_workText_100 := Bt_3 (q := 100) tX10_workText_97 rfl
theorem dX10_workText_100 : decode cX10_workText 100 = .ok (.ifCond .le 7, 3) := de_9e tX10_workText_100 (by decide +kernel)
def tX10_workText_103 := Bt_3 (q := 103) tX10_workText_100 rfl
theorem dX10_workText_103 : decode cX10_workText 103 = .ok (.iconst 1, 1) := de_04 tX10_workText_103
def tX10_workText_104 := Bt_1 (q := 104) tX10_workText_103 rfl
theorem dX10_workText_104 : decode cX10_workText 104 = .ok (.goto 4, 3) := de_a7 tX10_workText_104 (by decide +kernel)
def tX10_workText_107 := Bt_3 (q := 107) tX10_workText_104 rfl
theorem dX10_workText_107 : decode cX10_workText 107 = .ok (.iconst 0, 1) := de_03 tX10_workText_107
def tX10_workText_108 := Bt_1 (q := 108) tX10_workText_107 rfl
theorem dX10_workText_108 : decode cX10_workText 108 = .ok (.putfield 255, 3) := de_b5 tX10_workText_108 (by decide +kernel)
def tX10_workText_111 := Bt_3 (q := 111) tX10_workText_108 rfl
theorem dX10_workText_111 : decode cX10_workText 111 = .ok (.return_, 1) := de_b1 tX10_workText_111
def tX10_formula_0 := Bt_0 cX10_formula
theorem dX10_formula_0 : decode cX10_formula 0 = .ok (.iconst 0, 1) := de_03 tX10_formula_0
def tX10_formula_1 := Bt_1 (q := 1) tX10_formula_0 rfl
theorem dX10_formula_1 : decode cX10_formula 1 = .ok (.istore_n 1, 1) := de_3c tX10_formula_1
def tX10_formula_2 := Bt_1 (q := 2) tX10_formula_1 rfl
theorem dX10_formula_2 : decode cX10_formula 2 = .ok (.iload_n 1, 1) := de_1b tX10_formula_2
def tX10_formula_3 := Bt_1 (q := 3) tX10_formula_2 rfl
theorem dX10_formula_3 : decode cX10_formula 3 = .ok (.bipush 7, 2) := de_10 tX10_formula_3 (by decide +kernel)
def tX10_formula_5 := Bt_2 (q := 5) tX10_formula_3 rfl
theorem dX10_formula_5 : decode cX10_formula 5 = .ok (.if_icmp .ge 23, 3) := de_a2 tX10_formula_5 (by decide +kernel)
def tX10_formula_8 := Bt_3 (q := 8) tX10_formula_5 rfl
theorem dX10_formula_8 : decode cX10_formula 8 = .ok (.aload_n 0, 1) := de_2a tX10_formula_8
def tX10_formula_9 := Bt_1 (q := 9) tX10_formula_8 rfl
theorem dX10_formula_9 : decode cX10_formula 9 = .ok (.getfield 60, 3) := de_b4 tX10_formula_9 (by decide +kernel)
def tX10_formula_12 := Bt_3 (q := 12) tX10_formula_9 rfl
theorem dX10_formula_12 : decode cX10_formula 12 = .ok (.iload_n 1, 1) := de_1b tX10_formula_12
def tX10_formula_13 := Bt_1 (q := 13) tX10_formula_12 rfl
theorem dX10_formula_13 : decode cX10_formula 13 = .ok (.lconst 1, 1) := de_0a tX10_formula_13
def tX10_formula_14 := Bt_1 (q := 14) tX10_formula_13 rfl
theorem dX10_formula_14 : decode cX10_formula 14 = .ok (.lastore, 1) := de_50 tX10_formula_14
def tX10_formula_15 := Bt_1 (q := 15) tX10_formula_14 rfl
theorem dX10_formula_15 : decode cX10_formula 15 = .ok (.aload_n 0, 1) := de_2a tX10_formula_15
def tX10_formula_16 := Bt_1 (q := 16) tX10_formula_15 rfl
theorem dX10_formula_16 : decode cX10_formula 16 = .ok (.getfield 64, 3) := de_b4 tX10_formula_16 (by decide +kernel)
def tX10_formula_19 := Bt_3 (q := 19) tX10_formula_16 rfl
theorem dX10_formula_19 : decode cX10_formula 19 = .ok (.iload_n 1, 1) := de_1b tX10_formula_19
def tX10_formula_20 := Bt_1 (q := 20) tX10_formula_19 rfl
theorem dX10_formula_20 : decode cX10_formula 20 = .ok (.lconst 1, 1) := de_0a tX10_formula_20
def tX10_formula_21 := Bt_1 (q := 21) tX10_formula_20 rfl
theorem dX10_formula_21 : decode cX10_formula 21 = .ok (.lastore, 1) := de_50 tX10_formula_21
def tX10_formula_22 := Bt_1 (q := 22) tX10_formula_21 rfl
theorem dX10_formula_22 : decode cX10_formula 22 = .ok (.iinc 1 1, 3) := de_84 tX10_formula_22 (by decide +kernel) (by decide +kernel)
def tX10_formula_25 := Bt_3 (q := 25) tX10_formula_22 rfl
theorem dX10_formula_25 : decode cX10_formula 25 = .ok (.goto (-23), 3) := de_a7 tX10_formula_25 (by decide +kernel)
def tX10_formula_28 := Bt_3 (q := 28) tX10_formula_25 rfl
theorem dX10_formula_28 : decode cX10_formula 28 = .ok (.aload_n 0, 1) := de_2a tX10_formula_28
def tX10_formula_29 := Bt_1 (q := 29) tX10_formula_28 rfl
theorem dX10_formula_29 : decode cX10_formula 29 = .ok (.getfield 223, 3) := de_b4 tX10_formula_29 (by decide +kernel)
def tX10_formula_32 := Bt_3 (q := 32) tX10_formula_29 rfl
theorem dX10_formula_32 : decode cX10_formula 32 = .ok (.istore_n 1, 1) := de_3c tX10_formula_32
def tX10_formula_33 := Bt_1 (q := 33) tX10_formula_32 rfl
theorem dX10_formula_33 : decode cX10_formula 33 = .ok (.aload_n 0, 1) := de_2a tX10_formula_33
def tX10_formula_34 := Bt_1 (q := 34) tX10_formula_33 rfl
theorem dX10_formula_34 : decode cX10_formula 34 = .ok (.iconst 0, 1) := de_03 tX10_formula_34
def tX10_formula_35 := Bt_1 (q := 35) tX10_formula_34 rfl
theorem dX10_formula_35 : decode cX10_formula 35 = .ok (.putfield 223, 3) := de_b5 tX10_formula_35 (by decide +kernel)
def tX10_formula_38 := Bt_3 (q := 38) tX10_formula_35 rfl
theorem dX10_formula_38 : decode cX10_formula 38 = .ok (.aload_n 0, 1) := de_2a tX10_formula_38
def tX10_formula_39 := Bt_1 (q := 39) tX10_formula_38 rfl
theorem dX10_formula_39 : decode cX10_formula 39 = .ok (.aload_n 0, 1) := de_2a tX10_formula_39
def tX10_formula_40 := Bt_1 (q := 40) tX10_formula_39 rfl
theorem dX10_formula_40 : decode cX10_formula 40 = .ok (.getfield 54, 3) := de_b4 tX10_formula_40 (by decide +kernel)
def tX10_formula_43 := Bt_3 (q := 43) tX10_formula_40 rfl
theorem dX10_formula_43 : decode cX10_formula 43 = .ok (.iload_n 1, 1) := de_1b tX10_formula_43
def tX10_formula_44 := Bt_1 (q := 44) tX10_formula_43 rfl
theorem dX10_formula_44 : decode cX10_formula 44 = .ok (.invokevirtual 293, 3) := de_b6 tX10_formula_44 (by decide +kernel)
def tX10_formula_47 := Bt_3 (q := 47) tX10_formula_44 rfl
theorem dX10_formula_47 : decode cX10_formula 47 = .ok (.aload_n 0, 1) := de_2a tX10_formula_47
def tX10_formula_48 := Bt_1 (q := 48) tX10_formula_47 rfl
theorem dX10_formula_48 : decode cX10_formula 48 = .ok (.getfield 255, 3) := de_b4 tX10_formula_48 (by decide +kernel)
def tX10_formula_51 := Bt_3 (q := 51) tX10_formula_48 rfl
theorem dX10_formula_51 : decode cX10_formula 51 = .ok (.ifCond .eq 11, 3) := de_99 tX10_formula_51 (by decide +kernel)
def tX10_formula_54 := Bt_3 (q := 54) tX10_formula_51 rfl
theorem dX10_formula_54 : decode cX10_formula 54 = .ok (.bipush (-20), 2) := de_10 tX10_formula_54 (by decide +kernel)
def tX10_formula_56 := Bt_2 (q := 56) tX10_formula_54 rfl
theorem dX10_formula_56 : decode cX10_formula 56 = .ok (.aload_n 0, 1) := de_2a tX10_formula_56
def tX10_formula_57 := Bt_1 (q := 57) tX10_formula_56 rfl
theorem dX10_formula_57 : decode cX10_formula 57 = .ok (.getfield 258, 3) := de_b4 tX10_formula_57 (by decide +kernel)
def tX10_formula_60 := Bt_3 (q := 60) tX10_formula_57 rfl
theorem dX10_formula_60 : decode cX10_formula 60 = .ok (.isub, 1) := de_64 tX10_formula_60
def tX10_formula_61 := Bt_1 (q := 61) tX10_formula_60 rfl
theorem dX10_formula_61 : decode cX10_formula 61 = .ok (.ireturn, 1) := de_ac tX10_formula_61
def tX10_formula_62 := Bt_1 (q := 62) tX10_formula_61 rfl
theorem dX10_formula_62 : decode cX10_formula 62 = .ok (.aload_n 0, 1) := de_2a tX10_formula_62
def tX10_formula_63 := Bt_1 (q := 63) tX10_formula_62 rfl
theorem dX10_formula_63 : decode cX10_formula 63 = .ok (.iload_n 1, 1) := de_1b tX10_formula_63
def tX10_formula_64 := Bt_1 (q := 64) tX10_formula_63 rfl
theorem dX10_formula_64 : decode cX10_formula 64 = .ok (.putfield 139, 3) := de_b5 tX10_formula_64 (by decide +kernel)
def tX10_formula_67 := Bt_3 (q := 67) tX10_formula_64 rfl
theorem dX10_formula_67 : decode cX10_formula 67 = .ok (.iconst 0, 1) := de_03 tX10_formula_67
def tX10_formula_68 := Bt_1 (q := 68) tX10_formula_67 rfl
theorem dX10_formula_68 : decode cX10_formula 68 = .ok (.istore_n 2, 1) := de_3d tX10_formula_68
def tX10_formula_69 := Bt_1 (q := 69) tX10_formula_68 rfl
theorem dX10_formula_69 : decode cX10_formula 69 = .ok (.iload_n 2, 1) := de_1c tX10_formula_69
def tX10_formula_70 := Bt_1 (q := 70) tX10_formula_69 rfl
theorem dX10_formula_70 : decode cX10_formula 70 = .ok (.iload_n 1, 1) := de_1b tX10_formula_70
def tX10_formula_71 := Bt_1 (q := 71) tX10_formula_70 rfl
theorem dX10_formula_71 : decode cX10_formula 71 = .ok (.if_icmp .ge 21, 3) := de_a2 tX10_formula_71 (by decide +kernel)
def tX10_formula_74 := Bt_3 (q := 74) tX10_formula_71 rfl
theorem dX10_formula_74 : decode cX10_formula 74 = .ok (.aload_n 0, 1) := de_2a tX10_formula_74
def tX10_formula_75 := Bt_1 (q := 75) tX10_formula_74 rfl
theorem dX10_formula_75 : decode cX10_formula 75 = .ok (.getfield 57, 3) := de_b4 tX10_formula_75 (by decide +kernel)
def tX10_formula_78 := Bt_3 (q := 78) tX10_formula_75 rfl
theorem dX10_formula_78 : decode cX10_formula 78 = .ok (.iload_n 2, 1) := de_1c tX10_formula_78
def tX10_formula_79 := Bt_1 (q := 79) tX10_formula_78 rfl
theorem dX10_formula_79 : decode cX10_formula 79 = .ok (.aload_n 0, 1) := de_2a tX10_formula_79
def tX10_formula_80 := Bt_1 (q := 80) tX10_formula_79 rfl
theorem dX10_formula_80 : decode cX10_formula 80 = .ok (.getfield 54, 3) := de_b4 tX10_formula_80 (by decide +kernel)
def tX10_formula_83 := Bt_3 (q := 83) tX10_formula_80 rfl
theorem dX10_formula_83 : decode cX10_formula 83 = .ok (.iload_n 2, 1) := de_1c tX10_formula_83
def tX10_formula_84 := Bt_1 (q := 84) tX10_formula_83 rfl
theorem dX10_formula_84 : decode cX10_formula 84 = .ok (.iaload, 1) := de_2e tX10_formula_84
def tX10_formula_85 := Bt_1 (q := 85) tX10_formula_84 rfl
theorem dX10_formula_85 : decode cX10_formula 85 = .ok (.iastore, 1) := de_4f tX10_formula_85
def tX10_formula_86 := Bt_1 (q := 86) tX10_formula_85 rfl
theorem dX10_formula_86 : decode cX10_formula 86 = .ok (.iinc 2 1, 3) := de_84 tX10_formula_86 (by decide +kernel) (by decide +kernel)
def tX10_formula_89 := Bt_3 (q := 89) tX10_formula_86 rfl
theorem dX10_formula_89 : decode cX10_formula 89 = .ok (.goto (-20), 3) := de_a7 tX10_formula_89 (by decide +kernel)
def tX10_formula_92 := Bt_3 (q := 92) tX10_formula_89 rfl
theorem dX10_formula_92 : decode cX10_formula 92 = .ok (.aload_n 0, 1) := de_2a tX10_formula_92
def tX10_formula_93 := Bt_1 (q := 93) tX10_formula_92 rfl
theorem dX10_formula_93 : decode cX10_formula 93 = .ok (.iconst 0, 1) := de_03 tX10_formula_93
def tX10_formula_94 := Bt_1 (q := 94) tX10_formula_93 rfl
theorem dX10_formula_94 : decode cX10_formula 94 = .ok (.putfield 156, 3) := de_b5 tX10_formula_94 (by decide +kernel)
def tX10_formula_97 := Bt_3 (q := 97) tX10_formula_94 rfl
theorem dX10_formula_97 : decode cX10_formula 97 = .ok (.aload_n 0, 1) := de_2a tX10_formula_97
def tX10_formula_98 := Bt_1 (q := 98) tX10_formula_97 rfl
theorem dX10_formula_98 : decode cX10_formula 98 = .ok (.getfield 249, 3) := de_b4 tX10_formula_98 (by decide +kernel)
def tX10_formula_101 := Bt_3 (q := 101) tX10_formula_98 rfl
theorem dX10_formula_101 : decode cX10_formula 101 = .ok (.ireturn, 1) := de_ac tX10_formula_101
def tX10_findNames_0 := Bt_0 cX10_findNames
theorem dX10_findNames_0 : decode cX10_findNames 0 = .ok (.iload_n 1, 1) := de_1b tX10_findNames_0
def tX10_findNames_1 := Bt_1 (q := 1) tX10_findNames_0 rfl
theorem dX10_findNames_1 : decode cX10_findNames 1 = .ok (.bipush 8, 2) := de_10 tX10_findNames_1 (by decide +kernel)
def tX10_findNames_3 := Bt_2 (q := 3) tX10_findNames_1 rfl
theorem dX10_findNames_3 : decode cX10_findNames 3 = .ok (.idiv, 1) := de_6c tX10_findNames_3
def tX10_findNames_4 := Bt_1 (q := 4) tX10_findNames_3 rfl
theorem dX10_findNames_4 : decode cX10_findNames 4 = .ok (.istore 4, 2) := de_36 tX10_findNames_4 (by decide +kernel)
def tX10_findNames_6 := Bt_2 (q := 6) tX10_findNames_4 rfl
theorem dX10_findNames_6 : decode cX10_findNames 6 = .ok (.lconst 0, 1) := de_09 tX10_findNames_6
def tX10_findNames_7 := Bt_1 (q := 7) tX10_findNames_6 rfl
theorem dX10_findNames_7 : decode cX10_findNames 7 = .ok (.lstore 5, 2) := de_37 tX10_findNames_7 (by decide +kernel)
def tX10_findNames_9 := Bt_2 (q := 9) tX10_findNames_7 rfl
theorem dX10_findNames_9 : decode cX10_findNames 9 = .ok (.lconst 0, 1) := de_09 tX10_findNames_9
def tX10_findNames_10 := Bt_1 (q := 10) tX10_findNames_9 rfl
theorem dX10_findNames_10 : decode cX10_findNames 10 = .ok (.lstore 7, 2) := de_37 tX10_findNames_10 (by decide +kernel)
def tX10_findNames_12 := Bt_2 (q := 12) tX10_findNames_10 rfl
theorem dX10_findNames_12 : decode cX10_findNames 12 = .ok (.lconst 0, 1) := de_09 tX10_findNames_12
def tX10_findNames_13 := Bt_1 (q := 13) tX10_findNames_12 rfl
theorem dX10_findNames_13 : decode cX10_findNames 13 = .ok (.lstore 9, 2) := de_37 tX10_findNames_13 (by decide +kernel)
def tX10_findNames_15 := Bt_2 (q := 15) tX10_findNames_13 rfl
theorem dX10_findNames_15 : decode cX10_findNames 15 = .ok (.iconst 0, 1) := de_03 tX10_findNames_15
def tX10_findNames_16 := Bt_1 (q := 16) tX10_findNames_15 rfl
theorem dX10_findNames_16 : decode cX10_findNames 16 = .ok (.istore 11, 2) := de_36 tX10_findNames_16 (by decide +kernel)
def tX10_findNames_18 := Bt_2 (q := 18) tX10_findNames_16 rfl
theorem dX10_findNames_18 : decode cX10_findNames 18 = .ok (.aload_n 0, 1) := de_2a tX10_findNames_18
def tX10_findNames_19 := Bt_1 (q := 19) tX10_findNames_18 rfl
theorem dX10_findNames_19 : decode cX10_findNames 19 = .ok (.getfield 60, 3) := de_b4 tX10_findNames_19 (by decide +kernel)
def tX10_findNames_22 := Bt_3 (q := 22) tX10_findNames_19 rfl
theorem dX10_findNames_22 : decode cX10_findNames 22 = .ok (.iconst 5, 1) := de_08 tX10_findNames_22
def tX10_findNames_23 := Bt_1 (q := 23) tX10_findNames_22 rfl
theorem dX10_findNames_23 : decode cX10_findNames 23 = .ok (.lconst 0, 1) := de_09 tX10_findNames_23
def tX10_findNames_24 := Bt_1 (q := 24) tX10_findNames_23 rfl
theorem dX10_findNames_24 : decode cX10_findNames 24 = .ok (.lastore, 1) := de_50 tX10_findNames_24
def tX10_findNames_25 := Bt_1 (q := 25) tX10_findNames_24 rfl
theorem dX10_findNames_25 : decode cX10_findNames 25 = .ok (.aload_n 0, 1) := de_2a tX10_findNames_25
def tX10_findNames_26 := Bt_1 (q := 26) tX10_findNames_25 rfl
theorem dX10_findNames_26 : decode cX10_findNames 26 = .ok (.getfield 64, 3) := de_b4 tX10_findNames_26 (by decide +kernel)
def tX10_findNames_29 := Bt_3 (q := 29) tX10_findNames_26 rfl
theorem dX10_findNames_29 : decode cX10_findNames 29 = .ok (.iconst 5, 1) := de_08 tX10_findNames_29
def tX10_findNames_30 := Bt_1 (q := 30) tX10_findNames_29 rfl
theorem dX10_findNames_30 : decode cX10_findNames 30 = .ok (.lconst 1, 1) := de_0a tX10_findNames_30
def tX10_findNames_31 := Bt_1 (q := 31) tX10_findNames_30 rfl
theorem dX10_findNames_31 : decode cX10_findNames 31 = .ok (.lastore, 1) := de_50 tX10_findNames_31
def tX10_findNames_32 := Bt_1 (q := 32) tX10_findNames_31 rfl
theorem dX10_findNames_32 : decode cX10_findNames 32 = .ok (.iconst 0, 1) := de_03 tX10_findNames_32
def tX10_findNames_33 := Bt_1 (q := 33) tX10_findNames_32 rfl
theorem dX10_findNames_33 : decode cX10_findNames 33 = .ok (.istore 12, 2) := de_36 tX10_findNames_33 (by decide +kernel)
def tX10_findNames_35 := Bt_2 (q := 35) tX10_findNames_33 rfl
theorem dX10_findNames_35 : decode cX10_findNames 35 = .ok (.iload 12, 2) := de_15 tX10_findNames_35 (by decide +kernel)
def tX10_findNames_37 := Bt_2 (q := 37) tX10_findNames_35 rfl
theorem dX10_findNames_37 : decode cX10_findNames 37 = .ok (.bipush 8, 2) := de_10 tX10_findNames_37 (by decide +kernel)
def tX10_findNames_39 := Bt_2 (q := 39) tX10_findNames_37 rfl
theorem dX10_findNames_39 : decode cX10_findNames 39 = .ok (.if_icmp .ge 176, 3) := de_a2 tX10_findNames_39 (by decide +kernel)
def tX10_findNames_42 := Bt_3 (q := 42) tX10_findNames_39 rfl
theorem dX10_findNames_42 : decode cX10_findNames 42 = .ok (.bipush 8, 2) := de_10 tX10_findNames_42 (by decide +kernel)
def tX10_findNames_44 := Bt_2 (q := 44) tX10_findNames_42 rfl
theorem dX10_findNames_44 : decode cX10_findNames 44 = .ok (.iload 4, 2) := de_15 tX10_findNames_44 (by decide +kernel)
def tX10_findNames_46 := Bt_2 (q := 46) tX10_findNames_44 rfl
theorem dX10_findNames_46 : decode cX10_findNames 46 = .ok (.imul, 1) := de_68 tX10_findNames_46
def tX10_findNames_47 := Bt_1 (q := 47) tX10_findNames_46 rfl
theorem dX10_findNames_47 : decode cX10_findNames 47 = .ok (.iload 12, 2) := de_15 tX10_findNames_47 (by decide +kernel)
def tX10_findNames_49 := Bt_2 (q := 49) tX10_findNames_47 rfl
theorem dX10_findNames_49 : decode cX10_findNames 49 = .ok (.iadd, 1) := de_60 tX10_findNames_49
def tX10_findNames_50 := Bt_1 (q := 50) tX10_findNames_49 rfl
theorem dX10_findNames_50 : decode cX10_findNames 50 = .ok (.istore 13, 2) := de_36 tX10_findNames_50 (by decide +kernel)
def tX10_findNames_52 := Bt_2 (q := 52) tX10_findNames_50 rfl
theorem dX10_findNames_52 : decode cX10_findNames 52 = .ok (.aload_n 0, 1) := de_2a tX10_findNames_52
def tX10_findNames_53 := Bt_1 (q := 53) tX10_findNames_52 rfl
theorem dX10_findNames_53 : decode cX10_findNames 53 = .ok (.iload 13, 2) := de_15 tX10_findNames_53 (by decide +kernel)
def tX10_findNames_55 := Bt_2 (q := 55) tX10_findNames_53 rfl
theorem dX10_findNames_55 : decode cX10_findNames 55 = .ok (.invokevirtual 197, 3) := de_b6 tX10_findNames_55 (by decide +kernel)
def tX10_findNames_58 := Bt_3 (q := 58) tX10_findNames_55 rfl
theorem dX10_findNames_58 : decode cX10_findNames 58 = .ok (.ifCond .eq 151, 3) := de_99 tX10_findNames_58 (by decide +kernel)
def tX10_findNames_61 := Bt_3 (q := 61) tX10_findNames_58 rfl
theorem dX10_findNames_61 : decode cX10_findNames 61 = .ok (.iload 12, 2) := de_15 tX10_findNames_61 (by decide +kernel)
def tX10_findNames_63 := Bt_2 (q := 63) tX10_findNames_61 rfl
theorem dX10_findNames_63 : decode cX10_findNames 63 = .ok (.iload_n 3, 1) := de_1d tX10_findNames_63
def tX10_findNames_64 := Bt_1 (q := 64) tX10_findNames_63 rfl
theorem dX10_findNames_64 : decode cX10_findNames 64 = .ok (.if_icmp .eq 145, 3) := de_9f tX10_findNames_64 (by decide +kernel)
def tX10_findNames_67 := Bt_3 (q := 67) tX10_findNames_64 rfl
theorem dX10_findNames_67 : decode cX10_findNames 67 = .ok (.aload_n 0, 1) := de_2a tX10_findNames_67
def tX10_findNames_68 := Bt_1 (q := 68) tX10_findNames_67 rfl
theorem dX10_findNames_68 : decode cX10_findNames 68 = .ok (.iload 13, 2) := de_15 tX10_findNames_68 (by decide +kernel)
def tX10_findNames_70 := Bt_2 (q := 70) tX10_findNames_68 rfl
theorem dX10_findNames_70 : decode cX10_findNames 70 = .ok (.invokevirtual 191, 3) := de_b6 tX10_findNames_70 (by decide +kernel)
def tX10_findNames_73 := Bt_3 (q := 73) tX10_findNames_70 rfl
theorem dX10_findNames_73 : decode cX10_findNames 73 = .ok (.iload 13, 2) := de_15 tX10_findNames_73 (by decide +kernel)
def tX10_findNames_75 := Bt_2 (q := 75) tX10_findNames_73 rfl
theorem dX10_findNames_75 : decode cX10_findNames 75 = .ok (.iload_n 1, 1) := de_1b tX10_findNames_75
def tX10_findNames_76 := Bt_1 (q := 76) tX10_findNames_75 rfl
theorem dX10_findNames_76 : decode cX10_findNames 76 = .ok (.if_icmp .ne 7, 3) := de_a0 tX10_findNames_76 (by decide +kernel)
def tX10_findNames_79 := Bt_3 (q := 79) tX10_findNames_76 rfl
theorem dX10_findNames_79 : decode cX10_findNames 79 = .ok (.iload_n 2, 1) := de_1c tX10_findNames_79
def tX10_findNames_80 := Bt_1 (q := 80) tX10_findNames_79 rfl
theorem dX10_findNames_80 : decode cX10_findNames 80 = .ok (.goto 4, 3) := de_a7 tX10_findNames_80 (by decide +kernel)
def tX10_findNames_83 := Bt_3 (q := 83) tX10_findNames_80 rfl
theorem dX10_findNames_83 : decode cX10_findNames 83 = .ok (.iconst 0, 1) := de_03 tX10_findNames_83
def tX10_findNames_84 := Bt_1 (q := 84) tX10_findNames_83 rfl
theorem dX10_findNames_84 : decode cX10_findNames 84 = .ok (.isub, 1) := de_64 tX10_findNames_84
def tX10_findNames_85 := Bt_1 (q := 85) tX10_findNames_84 rfl
theorem dX10_findNames_85 : decode cX10_findNames 85 = .ok (.i2l, 1) := de_85 tX10_findNames_85
def tX10_findNames_86 := Bt_1 (q := 86) tX10_findNames_85 rfl
theorem dX10_findNames_86 : decode cX10_findNames 86 = .ok (.lstore 14, 2) := de_37 tX10_findNames_86 (by decide +kernel)
def tX10_findNames_88 := Bt_2 (q := 88) tX10_findNames_86 rfl
theorem dX10_findNames_88 : decode cX10_findNames 88 = .ok (.lload 14, 2) := de_16 tX10_findNames_88 (by decide +kernel)
def tX10_findNames_90 := Bt_2 (q := 90) tX10_findNames_88 rfl
theorem dX10_findNames_90 : decode cX10_findNames 90 = .ok (.lconst 1, 1) := de_0a tX10_findNames_90
def tX10_findNames_91 := Bt_1 (q := 91) tX10_findNames_90 rfl
theorem dX10_findNames_91 : decode cX10_findNames 91 = .ok (.lcmp, 1) := de_94 tX10_findNames_91
def tX10_findNames_92 := Bt_1 (q := 92) tX10_findNames_91 rfl
theorem dX10_findNames_92 : decode cX10_findNames 92 = .ok (.ifCond .ge 7, 3) := de_9c tX10_findNames_92 (by decide +kernel)
def tX10_findNames_95 := Bt_3 (q := 95) tX10_findNames_92 rfl
theorem dX10_findNames_95 : decode cX10_findNames 95 = .ok (.lconst 1, 1) := de_0a tX10_findNames_95
def tX10_findNames_96 := Bt_1 (q := 96) tX10_findNames_95 rfl
theorem dX10_findNames_96 : decode cX10_findNames 96 = .ok (.goto 5, 3) := de_a7 tX10_findNames_96 (by decide +kernel)
def tX10_findNames_99 := Bt_3 (q := 99) tX10_findNames_96 rfl
theorem dX10_findNames_99 : decode cX10_findNames 99 = .ok (.lload 14, 2) := de_16 tX10_findNames_99 (by decide +kernel)
def tX10_findNames_101 := Bt_2 (q := 101) tX10_findNames_99 rfl
theorem dX10_findNames_101 : decode cX10_findNames 101 = .ok (.lstore 14, 2) := de_37 tX10_findNames_101 (by decide +kernel)
def tX10_findNames_103 := Bt_2 (q := 103) tX10_findNames_101 rfl
theorem dX10_findNames_103 : decode cX10_findNames 103 = .ok (.iload 11, 2) := de_15 tX10_findNames_103 (by decide +kernel)
def tX10_findNames_105 := Bt_2 (q := 105) tX10_findNames_103 rfl
theorem dX10_findNames_105 : decode cX10_findNames 105 = .ok (.ifCond .eq 11, 3) := de_99 tX10_findNames_105 (by decide +kernel)
def tX10_findNames_108 := Bt_3 (q := 108) tX10_findNames_105 rfl
theorem dX10_findNames_108 : decode cX10_findNames 108 = .ok (.lload 14, 2) := de_16 tX10_findNames_108 (by decide +kernel)
def tX10_findNames_110 := Bt_2 (q := 110) tX10_findNames_108 rfl
theorem dX10_findNames_110 : decode cX10_findNames 110 = .ok (.lload 5, 2) := de_16 tX10_findNames_110 (by decide +kernel)
def tX10_findNames_112 := Bt_2 (q := 112) tX10_findNames_110 rfl
theorem dX10_findNames_112 : decode cX10_findNames 112 = .ok (.lcmp, 1) := de_94 tX10_findNames_112
def tX10_findNames_113 := Bt_1 (q := 113) tX10_findNames_112 rfl
theorem dX10_findNames_113 : decode cX10_findNames 113 = .ok (.ifCond .ge 8, 3) := de_9c tX10_findNames_113 (by decide +kernel)
def tX10_findNames_116 := Bt_3 (q := 116) tX10_findNames_113 rfl
theorem dX10_findNames_116 : decode cX10_findNames 116 = .ok (.lload 14, 2) := de_16 tX10_findNames_116 (by decide +kernel)
def tX10_findNames_118 := Bt_2 (q := 118) tX10_findNames_116 rfl
theorem dX10_findNames_118 : decode cX10_findNames 118 = .ok (.goto 5, 3) := de_a7 tX10_findNames_118 (by decide +kernel)
def tX10_findNames_121 := Bt_3 (q := 121) tX10_findNames_118 rfl
theorem dX10_findNames_121 : decode cX10_findNames 121 = .ok (.lload 5, 2) := de_16 tX10_findNames_121 (by decide +kernel)
def tX10_findNames_123 := Bt_2 (q := 123) tX10_findNames_121 rfl
theorem dX10_findNames_123 : decode cX10_findNames 123 = .ok (.lstore 5, 2) := de_37 tX10_findNames_123 (by decide +kernel)
def tX10_findNames_125 := Bt_2 (q := 125) tX10_findNames_123 rfl
theorem dX10_findNames_125 : decode cX10_findNames 125 = .ok (.lload 14, 2) := de_16 tX10_findNames_125 (by decide +kernel)
def tX10_findNames_127 := Bt_2 (q := 127) tX10_findNames_125 rfl
theorem dX10_findNames_127 : decode cX10_findNames 127 = .ok (.lload 7, 2) := de_16 tX10_findNames_127 (by decide +kernel)
def tX10_findNames_129 := Bt_2 (q := 129) tX10_findNames_127 rfl
theorem dX10_findNames_129 : decode cX10_findNames 129 = .ok (.lcmp, 1) := de_94 tX10_findNames_129
def tX10_findNames_130 := Bt_1 (q := 130) tX10_findNames_129 rfl
theorem dX10_findNames_130 : decode cX10_findNames 130 = .ok (.ifCond .le 8, 3) := de_9e tX10_findNames_130 (by decide +kernel)
def tX10_findNames_133 := Bt_3 (q := 133) tX10_findNames_130 rfl
theorem dX10_findNames_133 : decode cX10_findNames 133 = .ok (.lload 14, 2) := de_16 tX10_findNames_133 (by decide +kernel)
def tX10_findNames_135 := Bt_2 (q := 135) tX10_findNames_133 rfl
theorem dX10_findNames_135 : decode cX10_findNames 135 = .ok (.goto 5, 3) := de_a7 tX10_findNames_135 (by decide +kernel)
def tX10_findNames_138 := Bt_3 (q := 138) tX10_findNames_135 rfl
theorem dX10_findNames_138 : decode cX10_findNames 138 = .ok (.lload 7, 2) := de_16 tX10_findNames_138 (by decide +kernel)
def tX10_findNames_140 := Bt_2 (q := 140) tX10_findNames_138 rfl
theorem dX10_findNames_140 : decode cX10_findNames 140 = .ok (.lstore 7, 2) := de_37 tX10_findNames_140 (by decide +kernel)
def tX10_findNames_142 := Bt_2 (q := 142) tX10_findNames_140 rfl
theorem dX10_findNames_142 : decode cX10_findNames 142 = .ok (.lload 9, 2) := de_16 tX10_findNames_142 (by decide +kernel)
def tX10_findNames_144 := Bt_2 (q := 144) tX10_findNames_142 rfl
theorem dX10_findNames_144 : decode cX10_findNames 144 = .ok (.lload 14, 2) := de_16 tX10_findNames_144 (by decide +kernel)
def tX10_findNames_146 := Bt_2 (q := 146) tX10_findNames_144 rfl
theorem dX10_findNames_146 : decode cX10_findNames 146 = .ok (.ladd, 1) := de_61 tX10_findNames_146
def tX10_findNames_147 := Bt_1 (q := 147) tX10_findNames_146 rfl
theorem dX10_findNames_147 : decode cX10_findNames 147 = .ok (.lstore 9, 2) := de_37 tX10_findNames_147 (by decide +kernel)
def tX10_findNames_149 := Bt_2 (q := 149) tX10_findNames_147 rfl
theorem dX10_findNames_149 : decode cX10_findNames 149 = .ok (.iinc 11 1, 3) := de_84 tX10_findNames_149 (by decide +kernel) (by decide +kernel)
def tX10_findNames_152 := Bt_3 (q := 152) tX10_findNames_149 rfl
theorem dX10_findNames_152 : decode cX10_findNames 152 = .ok (.aload_n 0, 1) := de_2a tX10_findNames_152
def tX10_findNames_153 := Bt_1 (q := 153) tX10_findNames_152 rfl
theorem dX10_findNames_153 : decode cX10_findNames 153 = .ok (.iload 13, 2) := de_15 tX10_findNames_153 (by decide +kernel)
def tX10_findNames_155 := Bt_2 (q := 155) tX10_findNames_153 rfl
theorem dX10_findNames_155 : decode cX10_findNames 155 = .ok (.iload_n 3, 1) := de_1d tX10_findNames_155
def tX10_findNames_156 := Bt_1 (q := 156) tX10_findNames_155 rfl
theorem dX10_findNames_156 : decode cX10_findNames 156 = .ok (.invokevirtual 215, 3) := de_b6 tX10_findNames_156 (by decide +kernel)
def tX10_findNames_159 := Bt_3 (q := 159) tX10_findNames_156 rfl
theorem dX10_findNames_159 : decode cX10_findNames 159 = .ok (.aload_n 0, 1) := de_2a tX10_findNames_159
def tX10_findNames_160 := Bt_1 (q := 160) tX10_findNames_159 rfl
theorem dX10_findNames_160 : decode cX10_findNames 160 = .ok (.getfield 206, 3) := de_b4 tX10_findNames_160 (by decide +kernel)
def tX10_findNames_163 := Bt_3 (q := 163) tX10_findNames_160 rfl
theorem dX10_findNames_163 : decode cX10_findNames 163 = .ok (.i2l, 1) := de_85 tX10_findNames_163
def tX10_findNames_164 := Bt_1 (q := 164) tX10_findNames_163 rfl
theorem dX10_findNames_164 : decode cX10_findNames 164 = .ok (.aload_n 0, 1) := de_2a tX10_findNames_164
def tX10_findNames_165 := Bt_1 (q := 165) tX10_findNames_164 rfl
theorem dX10_findNames_165 : decode cX10_findNames 165 = .ok (.getfield 64, 3) := de_b4 tX10_findNames_165 (by decide +kernel)
def tX10_findNames_168 := Bt_3 (q := 168) tX10_findNames_165 rfl
theorem dX10_findNames_168 : decode cX10_findNames 168 = .ok (.iconst 5, 1) := de_08 tX10_findNames_168
def tX10_findNames_169 := Bt_1 (q := 169) tX10_findNames_168 rfl
theorem dX10_findNames_169 : decode cX10_findNames 169 = .ok (.laload, 1) := de_2f tX10_findNames_169
def tX10_findNames_170 := Bt_1 (q := 170) tX10_findNames_169 rfl
theorem dX10_findNames_170 : decode cX10_findNames 170 = .ok (.lmul, 1) := de_69 tX10_findNames_170
def tX10_findNames_171 := Bt_1 (q := 171) tX10_findNames_170 rfl
theorem dX10_findNames_171 : decode cX10_findNames 171 = .ok (.aload_n 0, 1) := de_2a tX10_findNames_171
def tX10_findNames_172 := Bt_1 (q := 172) tX10_findNames_171 rfl
theorem dX10_findNames_172 : decode cX10_findNames 172 = .ok (.getfield 60, 3) := de_b4 tX10_findNames_172 (by decide +kernel)
def tX10_findNames_175 := Bt_3 (q := 175) tX10_findNames_172 rfl
theorem dX10_findNames_175 : decode cX10_findNames 175 = .ok (.iconst 5, 1) := de_08 tX10_findNames_175
def tX10_findNames_176 := Bt_1 (q := 176) tX10_findNames_175 rfl
theorem dX10_findNames_176 : decode cX10_findNames 176 = .ok (.laload, 1) := de_2f tX10_findNames_176
def tX10_findNames_177 := Bt_1 (q := 177) tX10_findNames_176 rfl
theorem dX10_findNames_177 : decode cX10_findNames 177 = .ok (.aload_n 0, 1) := de_2a tX10_findNames_177
def tX10_findNames_178 := Bt_1 (q := 178) tX10_findNames_177 rfl
theorem dX10_findNames_178 : decode cX10_findNames 178 = .ok (.getfield 209, 3) := de_b4 tX10_findNames_178 (by decide +kernel)
def tX10_findNames_181 := Bt_3 (q := 181) tX10_findNames_178 rfl
theorem dX10_findNames_181 : decode cX10_findNames 181 = .ok (.i2l, 1) := de_85 tX10_findNames_181
def tX10_findNames_182 := Bt_1 (q := 182) tX10_findNames_181 rfl
theorem dX10_findNames_182 : decode cX10_findNames 182 = .ok (.lmul, 1) := de_69 tX10_findNames_182
def tX10_findNames_183 := Bt_1 (q := 183) tX10_findNames_182 rfl
theorem dX10_findNames_183 : decode cX10_findNames 183 = .ok (.lcmp, 1) := de_94 tX10_findNames_183
def tX10_findNames_184 := Bt_1 (q := 184) tX10_findNames_183 rfl
theorem dX10_findNames_184 : decode cX10_findNames 184 = .ok (.ifCond .le 25, 3) := de_9e tX10_findNames_184 (by decide +kernel)
def tX10_findNames_187 := Bt_3 (q := 187) tX10_findNames_184 rfl
theorem dX10_findNames_187 : decode cX10_findNames 187 = .ok (.aload_n 0, 1) := de_2a tX10_findNames_187
def tX10_findNames_188 := Bt_1 (q := 188) tX10_findNames_187 rfl
theorem dX10_findNames_188 : decode cX10_findNames 188 = .ok (.getfield 60, 3) := de_b4 tX10_findNames_188 (by decide +kernel)
def tX10_findNames_191 := Bt_3 (q := 191) tX10_findNames_188 rfl
theorem dX10_findNames_191 : decode cX10_findNames 191 = .ok (.iconst 5, 1) := de_08 tX10_findNames_191
def tX10_findNames_192 := Bt_1 (q := 192) tX10_findNames_191 rfl
theorem dX10_findNames_192 : decode cX10_findNames 192 = .ok (.aload_n 0, 1) := de_2a tX10_findNames_192
def tX10_findNames_193 := Bt_1 (q := 193) tX10_findNames_192 rfl
theorem dX10_findNames_193 : decode cX10_findNames 193 = .ok (.getfield 206, 3) := de_b4 tX10_findNames_193 (by decide +kernel)
def tX10_findNames_196 := Bt_3 (q := 196) tX10_findNames_193 rfl
theorem dX10_findNames_196 : decode cX10_findNames 196 = .ok (.i2l, 1) := de_85 tX10_findNames_196
def tX10_findNames_197 := Bt_1 (q := 197) tX10_findNames_196 rfl
theorem dX10_findNames_197 : decode cX10_findNames 197 = .ok (.lastore, 1) := de_50 tX10_findNames_197
def tX10_findNames_198 := Bt_1 (q := 198) tX10_findNames_197 rfl
theorem dX10_findNames_198 : decode cX10_findNames 198 = .ok (.aload_n 0, 1) := de_2a tX10_findNames_198
def tX10_findNames_199 := Bt_1 (q := 199) tX10_findNames_198 rfl
theorem dX10_findNames_199 : decode cX10_findNames 199 = .ok (.getfield 64, 3) := de_b4 tX10_findNames_199 (by decide +kernel)
def tX10_findNames_202 := Bt_3 (q := 202) tX10_findNames_199 rfl
theorem dX10_findNames_202 : decode cX10_findNames 202 = .ok (.iconst 5, 1) := de_08 tX10_findNames_202
def tX10_findNames_203 := Bt_1 (q := 203) tX10_findNames_202 rfl
theorem dX10_findNames_203 : decode cX10_findNames 203 = .ok (.aload_n 0, 1) := de_2a tX10_findNames_203
def tX10_findNames_204 := Bt_1 (q := 204) tX10_findNames_203 rfl
theorem dX10_findNames_204 : decode cX10_findNames 204 = .ok (.getfield 209, 3) := de_b4 tX10_findNames_204 (by decide +kernel)
def tX10_findNames_207 := Bt_3 (q := 207) tX10_findNames_204 rfl
theorem dX10_findNames_207 : decode cX10_findNames 207 = .ok (.i2l, 1) := de_85 tX10_findNames_207
def tX10_findNames_208 := Bt_1 (q := 208) tX10_findNames_207 rfl
theorem dX10_findNames_208 : decode cX10_findNames 208 = .ok (.lastore, 1) := de_50 tX10_findNames_208
def tX10_findNames_209 := Bt_1 (q := 209) tX10_findNames_208 rfl
theorem dX10_findNames_209 : decode cX10_findNames 209 = .ok (.iinc 12 1, 3) := de_84 tX10_findNames_209 (by decide +kernel) (by decide +kernel)
def tX10_findNames_212 := Bt_3 (q := 212) tX10_findNames_209 rfl
theorem dX10_findNames_212 : decode cX10_findNames 212 = .ok (.goto (-177), 3) := de_a7 tX10_findNames_212 (by decide +kernel)
def tX10_findNames_215 := Bt_3 (q := 215) tX10_findNames_212 rfl
theorem dX10_findNames_215 : decode cX10_findNames 215 = .ok (.aload_n 0, 1) := de_2a tX10_findNames_215
def tX10_findNames_216 := Bt_1 (q := 216) tX10_findNames_215 rfl
theorem dX10_findNames_216 : decode cX10_findNames 216 = .ok (.iload_n 1, 1) := de_1b tX10_findNames_216
def tX10_findNames_217 := Bt_1 (q := 217) tX10_findNames_216 rfl
theorem dX10_findNames_217 : decode cX10_findNames 217 = .ok (.invokevirtual 191, 3) := de_b6 tX10_findNames_217 (by decide +kernel)
def tX10_findNames_220 := Bt_3 (q := 220) tX10_findNames_217 rfl
theorem dX10_findNames_220 : decode cX10_findNames 220 = .ok (.iload_n 2, 1) := de_1c tX10_findNames_220
def tX10_findNames_221 := Bt_1 (q := 221) tX10_findNames_220 rfl
theorem dX10_findNames_221 : decode cX10_findNames 221 = .ok (.isub, 1) := de_64 tX10_findNames_221
def tX10_findNames_222 := Bt_1 (q := 222) tX10_findNames_221 rfl
theorem dX10_findNames_222 : decode cX10_findNames 222 = .ok (.i2l, 1) := de_85 tX10_findNames_222
def tX10_findNames_223 := Bt_1 (q := 223) tX10_findNames_222 rfl
theorem dX10_findNames_223 : decode cX10_findNames 223 = .ok (.lstore 12, 2) := de_37 tX10_findNames_223 (by decide +kernel)
def tX10_findNames_225 := Bt_2 (q := 225) tX10_findNames_223 rfl
theorem dX10_findNames_225 : decode cX10_findNames 225 = .ok (.aload_n 0, 1) := de_2a tX10_findNames_225
def tX10_findNames_226 := Bt_1 (q := 226) tX10_findNames_225 rfl
theorem dX10_findNames_226 : decode cX10_findNames 226 = .ok (.getfield 60, 3) := de_b4 tX10_findNames_226 (by decide +kernel)
def tX10_findNames_229 := Bt_3 (q := 229) tX10_findNames_226 rfl
theorem dX10_findNames_229 : decode cX10_findNames 229 = .ok (.iconst 0, 1) := de_03 tX10_findNames_229
def tX10_findNames_230 := Bt_1 (q := 230) tX10_findNames_229 rfl
theorem dX10_findNames_230 : decode cX10_findNames 230 = .ok (.lload 12, 2) := de_16 tX10_findNames_230 (by decide +kernel)
def tX10_findNames_232 := Bt_2 (q := 232) tX10_findNames_230 rfl
theorem dX10_findNames_232 : decode cX10_findNames 232 = .ok (.lconst 1, 1) := de_0a tX10_findNames_232
def tX10_findNames_233 := Bt_1 (q := 233) tX10_findNames_232 rfl
theorem dX10_findNames_233 : decode cX10_findNames 233 = .ok (.lcmp, 1) := de_94 tX10_findNames_233
def tX10_findNames_234 := Bt_1 (q := 234) tX10_findNames_233 rfl
theorem dX10_findNames_234 : decode cX10_findNames 234 = .ok (.ifCond .ge 7, 3) := de_9c tX10_findNames_234 (by decide +kernel)
def tX10_findNames_237 := Bt_3 (q := 237) tX10_findNames_234 rfl
theorem dX10_findNames_237 : decode cX10_findNames 237 = .ok (.lconst 1, 1) := de_0a tX10_findNames_237
def tX10_findNames_238 := Bt_1 (q := 238) tX10_findNames_237 rfl
theorem dX10_findNames_238 : decode cX10_findNames 238 = .ok (.goto 5, 3) := de_a7 tX10_findNames_238 (by decide +kernel)
def tX10_findNames_241 := Bt_3 (q := 241) tX10_findNames_238 rfl
theorem dX10_findNames_241 : decode cX10_findNames 241 = .ok (.lload 12, 2) := de_16 tX10_findNames_241 (by decide +kernel)
def tX10_findNames_243 := Bt_2 (q := 243) tX10_findNames_241 rfl
theorem dX10_findNames_243 : decode cX10_findNames 243 = .ok (.lastore, 1) := de_50 tX10_findNames_243
def tX10_findNames_244 := Bt_1 (q := 244) tX10_findNames_243 rfl
theorem dX10_findNames_244 : decode cX10_findNames 244 = .ok (.aload_n 0, 1) := de_2a tX10_findNames_244
def tX10_findNames_245 := Bt_1 (q := 245) tX10_findNames_244 rfl
theorem dX10_findNames_245 : decode cX10_findNames 245 = .ok (.getfield 60, 3) := de_b4 tX10_findNames_245 (by decide +kernel)
def tX10_findNames_248 := Bt_3 (q := 248) tX10_findNames_245 rfl
theorem dX10_findNames_248 : decode cX10_findNames 248 = .ok (.iconst 1, 1) := de_04 tX10_findNames_248
def tX10_findNames_249 := Bt_1 (q := 249) tX10_findNames_248 rfl
theorem dX10_findNames_249 : decode cX10_findNames 249 = .ok (.lload 5, 2) := de_16 tX10_findNames_249 (by decide +kernel)
def tX10_findNames_251 := Bt_2 (q := 251) tX10_findNames_249 rfl
theorem dX10_findNames_251 : decode cX10_findNames 251 = .ok (.lastore, 1) := de_50 tX10_findNames_251
def tX10_findNames_252 := Bt_1 (q := 252) tX10_findNames_251 rfl
theorem dX10_findNames_252 : decode cX10_findNames 252 = .ok (.aload_n 0, 1) := de_2a tX10_findNames_252
def tX10_findNames_253 := Bt_1 (q := 253) tX10_findNames_252 rfl
theorem dX10_findNames_253 : decode cX10_findNames 253 = .ok (.getfield 60, 3) := de_b4 tX10_findNames_253 (by decide +kernel)
def tX10_findNames_256 := Bt_3 (q := 256) tX10_findNames_253 rfl
theorem dX10_findNames_256 : decode cX10_findNames 256 = .ok (.iconst 2, 1) := de_05 tX10_findNames_256
def tX10_findNames_257 := Bt_1 (q := 257) tX10_findNames_256 rfl
theorem dX10_findNames_257 : decode cX10_findNames 257 = .ok (.lload 7, 2) := de_16 tX10_findNames_257 (by decide +kernel)
def tX10_findNames_259 := Bt_2 (q := 259) tX10_findNames_257 rfl
theorem dX10_findNames_259 : decode cX10_findNames 259 = .ok (.lastore, 1) := de_50 tX10_findNames_259
def tX10_findNames_260 := Bt_1 (q := 260) tX10_findNames_259 rfl
theorem dX10_findNames_260 : decode cX10_findNames 260 = .ok (.aload_n 0, 1) := de_2a tX10_findNames_260
def tX10_findNames_261 := Bt_1 (q := 261) tX10_findNames_260 rfl
theorem dX10_findNames_261 : decode cX10_findNames 261 = .ok (.getfield 60, 3) := de_b4 tX10_findNames_261 (by decide +kernel)
def tX10_findNames_264 := Bt_3 (q := 264) tX10_findNames_261 rfl
theorem dX10_findNames_264 : decode cX10_findNames 264 = .ok (.iconst 3, 1) := de_06 tX10_findNames_264
def tX10_findNames_265 := Bt_1 (q := 265) tX10_findNames_264 rfl
theorem dX10_findNames_265 : decode cX10_findNames 265 = .ok (.lload 9, 2) := de_16 tX10_findNames_265 (by decide +kernel)
def tX10_findNames_267 := Bt_2 (q := 267) tX10_findNames_265 rfl
theorem dX10_findNames_267 : decode cX10_findNames 267 = .ok (.lastore, 1) := de_50 tX10_findNames_267
def tX10_findNames_268 := Bt_1 (q := 268) tX10_findNames_267 rfl
theorem dX10_findNames_268 : decode cX10_findNames 268 = .ok (.aload_n 0, 1) := de_2a tX10_findNames_268
def tX10_findNames_269 := Bt_1 (q := 269) tX10_findNames_268 rfl
theorem dX10_findNames_269 : decode cX10_findNames 269 = .ok (.getfield 60, 3) := de_b4 tX10_findNames_269 (by decide +kernel)
def tX10_findNames_272 := Bt_3 (q := 272) tX10_findNames_269 rfl
theorem dX10_findNames_272 : decode cX10_findNames 272 = .ok (.bipush 6, 2) := de_10 tX10_findNames_272 (by decide +kernel)
def tX10_findNames_274 := Bt_2 (q := 274) tX10_findNames_272 rfl
theorem dX10_findNames_274 : decode cX10_findNames 274 = .ok (.iload 11, 2) := de_15 tX10_findNames_274 (by decide +kernel)
def tX10_findNames_276 := Bt_2 (q := 276) tX10_findNames_274 rfl
theorem dX10_findNames_276 : decode cX10_findNames 276 = .ok (.i2l, 1) := de_85 tX10_findNames_276
def tX10_findNames_277 := Bt_1 (q := 277) tX10_findNames_276 rfl
theorem dX10_findNames_277 : decode cX10_findNames 277 = .ok (.lastore, 1) := de_50 tX10_findNames_277
def tX10_findNames_278 := Bt_1 (q := 278) tX10_findNames_277 rfl
theorem dX10_findNames_278 : decode cX10_findNames 278 = .ok (.iconst 0, 1) := de_03 tX10_findNames_278
def tX10_findNames_279 := Bt_1 (q := 279) tX10_findNames_278 rfl
theorem dX10_findNames_279 : decode cX10_findNames 279 = .ok (.istore 14, 2) := de_36 tX10_findNames_279 (by decide +kernel)
def tX10_findNames_281 := Bt_2 (q := 281) tX10_findNames_279 rfl
theorem dX10_findNames_281 : decode cX10_findNames 281 = .ok (.iload 14, 2) := de_15 tX10_findNames_281 (by decide +kernel)
def tX10_findNames_283 := Bt_2 (q := 283) tX10_findNames_281 rfl
theorem dX10_findNames_283 : decode cX10_findNames 283 = .ok (.bipush 7, 2) := de_10 tX10_findNames_283 (by decide +kernel)
def tX10_findNames_285 := Bt_2 (q := 285) tX10_findNames_283 rfl
theorem dX10_findNames_285 : decode cX10_findNames 285 = .ok (.if_icmp .ge 32, 3) := de_a2 tX10_findNames_285 (by decide +kernel)
def tX10_findNames_288 := Bt_3 (q := 288) tX10_findNames_285 rfl
theorem dX10_findNames_288 : decode cX10_findNames 288 = .ok (.aload_n 0, 1) := de_2a tX10_findNames_288
def tX10_findNames_289 := Bt_1 (q := 289) tX10_findNames_288 rfl
theorem dX10_findNames_289 : decode cX10_findNames 289 = .ok (.getfield 64, 3) := de_b4 tX10_findNames_289 (by decide +kernel)
def tX10_findNames_292 := Bt_3 (q := 292) tX10_findNames_289 rfl
theorem dX10_findNames_292 : decode cX10_findNames 292 = .ok (.iload 14, 2) := de_15 tX10_findNames_292 (by decide +kernel)
def tX10_findNames_294 := Bt_2 (q := 294) tX10_findNames_292 rfl
theorem dX10_findNames_294 : decode cX10_findNames 294 = .ok (.iload 14, 2) := de_15 tX10_findNames_294 (by decide +kernel)
def tX10_findNames_296 := Bt_2 (q := 296) tX10_findNames_294 rfl
theorem dX10_findNames_296 : decode cX10_findNames 296 = .ok (.iconst 5, 1) := de_08 tX10_findNames_296
def tX10_findNames_297 := Bt_1 (q := 297) tX10_findNames_296 rfl
theorem dX10_findNames_297 : decode cX10_findNames 297 = .ok (.if_icmp .ne 12, 3) := de_a0 tX10_findNames_297 (by decide +kernel)
def tX10_findNames_300 := Bt_3 (q := 300) tX10_findNames_297 rfl
theorem dX10_findNames_300 : decode cX10_findNames 300 = .ok (.aload_n 0, 1) := de_2a tX10_findNames_300
def tX10_findNames_301 := Bt_1 (q := 301) tX10_findNames_300 rfl
theorem dX10_findNames_301 : decode cX10_findNames 301 = .ok (.getfield 64, 3) := de_b4 tX10_findNames_301 (by decide +kernel)
def tX10_findNames_304 := Bt_3 (q := 304) tX10_findNames_301 rfl
theorem dX10_findNames_304 : decode cX10_findNames 304 = .ok (.iconst 5, 1) := de_08 tX10_findNames_304
def tX10_findNames_305 := Bt_1 (q := 305) tX10_findNames_304 rfl
theorem dX10_findNames_305 : decode cX10_findNames 305 = .ok (.laload, 1) := de_2f tX10_findNames_305
def tX10_findNames_306 := Bt_1 (q := 306) tX10_findNames_305 rfl
theorem dX10_findNames_306 : decode cX10_findNames 306 = .ok (.goto 4, 3) := de_a7 tX10_findNames_306 (by decide +kernel)
def tX10_findNames_309 := Bt_3 (q := 309) tX10_findNames_306 rfl
theorem dX10_findNames_309 : decode cX10_findNames 309 = .ok (.lconst 1, 1) := de_0a tX10_findNames_309
def tX10_findNames_310 := Bt_1 (q := 310) tX10_findNames_309 rfl
theorem dX10_findNames_310 : decode cX10_findNames 310 = .ok (.lastore, 1) := de_50 tX10_findNames_310
def tX10_findNames_311 := Bt_1 (q := 311) tX10_findNames_310 rfl
theorem dX10_findNames_311 : decode cX10_findNames 311 = .ok (.iinc 14 1, 3) := de_84 tX10_findNames_311 (by decide +kernel) (by decide +kernel)
def tX10_findNames_314 := Bt_3 (q := 314) tX10_findNames_311 rfl
theorem dX10_findNames_314 : decode cX10_findNames 314 = .ok (.goto (-33), 3) := de_a7 tX10_findNames_314 (by decide +kernel)
def tX10_findNames_317 := Bt_3 (q := 317) tX10_findNames_314 rfl
theorem dX10_findNames_317 : decode cX10_findNames 317 = .ok (.aload_n 0, 1) := de_2a tX10_findNames_317
def tX10_findNames_318 := Bt_1 (q := 318) tX10_findNames_317 rfl
theorem dX10_findNames_318 : decode cX10_findNames 318 = .ok (.getfield 64, 3) := de_b4 tX10_findNames_318 (by decide +kernel)
def tX10_findNames_321 := Bt_3 (q := 321) tX10_findNames_318 rfl
theorem dX10_findNames_321 : decode cX10_findNames 321 = .ok (.iconst 3, 1) := de_06 tX10_findNames_321
def tX10_findNames_322 := Bt_1 (q := 322) tX10_findNames_321 rfl
theorem dX10_findNames_322 : decode cX10_findNames 322 = .ok (.iload 11, 2) := de_15 tX10_findNames_322 (by decide +kernel)
def tX10_findNames_324 := Bt_2 (q := 324) tX10_findNames_322 rfl
theorem dX10_findNames_324 : decode cX10_findNames 324 = .ok (.i2l, 1) := de_85 tX10_findNames_324
def tX10_findNames_325 := Bt_1 (q := 325) tX10_findNames_324 rfl
theorem dX10_findNames_325 : decode cX10_findNames 325 = .ok (.lastore, 1) := de_50 tX10_findNames_325
def tX10_findNames_326 := Bt_1 (q := 326) tX10_findNames_325 rfl
theorem dX10_findNames_326 : decode cX10_findNames 326 = .ok (.aload_n 0, 1) := de_2a tX10_findNames_326
def tX10_findNames_327 := Bt_1 (q := 327) tX10_findNames_326 rfl
theorem dX10_findNames_327 : decode cX10_findNames 327 = .ok (.iload_n 1, 1) := de_1b tX10_findNames_327
def tX10_findNames_328 := Bt_1 (q := 328) tX10_findNames_327 rfl
theorem dX10_findNames_328 : decode cX10_findNames 328 = .ok (.iload_n 3, 1) := de_1d tX10_findNames_328
def tX10_findNames_329 := Bt_1 (q := 329) tX10_findNames_328 rfl
theorem dX10_findNames_329 : decode cX10_findNames 329 = .ok (.invokevirtual 215, 3) := de_b6 tX10_findNames_329 (by decide +kernel)
def tX10_findNames_332 := Bt_3 (q := 332) tX10_findNames_329 rfl
theorem dX10_findNames_332 : decode cX10_findNames 332 = .ok (.aload_n 0, 1) := de_2a tX10_findNames_332
def tX10_findNames_333 := Bt_1 (q := 333) tX10_findNames_332 rfl
theorem dX10_findNames_333 : decode cX10_findNames 333 = .ok (.getfield 60, 3) := de_b4 tX10_findNames_333 (by decide +kernel)
def tX10_findNames_336 := Bt_3 (q := 336) tX10_findNames_333 rfl
theorem dX10_findNames_336 : decode cX10_findNames 336 = .ok (.iconst 4, 1) := de_07 tX10_findNames_336
def tX10_findNames_337 := Bt_1 (q := 337) tX10_findNames_336 rfl
theorem dX10_findNames_337 : decode cX10_findNames 337 = .ok (.aload_n 0, 1) := de_2a tX10_findNames_337
def tX10_findNames_338 := Bt_1 (q := 338) tX10_findNames_337 rfl
theorem dX10_findNames_338 : decode cX10_findNames 338 = .ok (.getfield 206, 3) := de_b4 tX10_findNames_338 (by decide +kernel)
def tX10_findNames_341 := Bt_3 (q := 341) tX10_findNames_338 rfl
theorem dX10_findNames_341 : decode cX10_findNames 341 = .ok (.i2l, 1) := de_85 tX10_findNames_341
def tX10_findNames_342 := Bt_1 (q := 342) tX10_findNames_341 rfl
theorem dX10_findNames_342 : decode cX10_findNames 342 = .ok (.lastore, 1) := de_50 tX10_findNames_342
def tX10_findNames_343 := Bt_1 (q := 343) tX10_findNames_342 rfl
theorem dX10_findNames_343 : decode cX10_findNames 343 = .ok (.aload_n 0, 1) := de_2a tX10_findNames_343
def tX10_findNames_344 := Bt_1 (q := 344) tX10_findNames_343 rfl
theorem dX10_findNames_344 : decode cX10_findNames 344 = .ok (.getfield 64, 3) := de_b4 tX10_findNames_344 (by decide +kernel)
def tX10_findNames_347 := Bt_3 (q := 347) tX10_findNames_344 rfl
theorem dX10_findNames_347 : decode cX10_findNames 347 = .ok (.iconst 4, 1) := de_07 tX10_findNames_347
def tX10_findNames_348 := Bt_1 (q := 348) tX10_findNames_347 rfl
theorem dX10_findNames_348 : decode cX10_findNames 348 = .ok (.aload_n 0, 1) := de_2a tX10_findNames_348
def tX10_findNames_349 := Bt_1 (q := 349) tX10_findNames_348 rfl
theorem dX10_findNames_349 : decode cX10_findNames 349 = .ok (.getfield 209, 3) := de_b4 tX10_findNames_349 (by decide +kernel)
def tX10_findNames_352 := Bt_3 (q := 352) tX10_findNames_349 rfl
theorem dX10_findNames_352 : decode cX10_findNames 352 = .ok (.i2l, 1) := de_85 tX10_findNames_352
def tX10_findNames_353 := Bt_1 (q := 353) tX10_findNames_352 rfl
theorem dX10_findNames_353 : decode cX10_findNames 353 = .ok (.lastore, 1) := de_50 tX10_findNames_353
def tX10_findNames_354 := Bt_1 (q := 354) tX10_findNames_353 rfl
theorem dX10_findNames_354 : decode cX10_findNames 354 = .ok (.iconst 3, 1) := de_06 tX10_findNames_354
def tX10_findNames_355 := Bt_1 (q := 355) tX10_findNames_354 rfl
theorem dX10_findNames_355 : decode cX10_findNames 355 = .ok (.istore 14, 2) := de_36 tX10_findNames_355 (by decide +kernel)
def tX10_findNames_357 := Bt_2 (q := 357) tX10_findNames_355 rfl
theorem dX10_findNames_357 : decode cX10_findNames 357 = .ok (.iload 14, 2) := de_15 tX10_findNames_357 (by decide +kernel)
def tX10_findNames_359 := Bt_2 (q := 359) tX10_findNames_357 rfl
theorem dX10_findNames_359 : decode cX10_findNames 359 = .ok (.bipush 6, 2) := de_10 tX10_findNames_359 (by decide +kernel)
def tX10_findNames_361 := Bt_2 (q := 361) tX10_findNames_359 rfl
theorem dX10_findNames_361 : decode cX10_findNames 361 = .ok (.if_icmp .ge 52, 3) := de_a2 tX10_findNames_361 (by decide +kernel)
def tX10_findNames_364 := Bt_3 (q := 364) tX10_findNames_361 rfl
theorem dX10_findNames_364 : decode cX10_findNames 364 = .ok (.aload_n 0, 1) := de_2a tX10_findNames_364
def tX10_findNames_365 := Bt_1 (q := 365) tX10_findNames_364 rfl
theorem dX10_findNames_365 : decode cX10_findNames 365 = .ok (.getfield 60, 3) := de_b4 tX10_findNames_365 (by decide +kernel)
def tX10_findNames_368 := Bt_3 (q := 368) tX10_findNames_365 rfl
theorem dX10_findNames_368 : decode cX10_findNames 368 = .ok (.iload 14, 2) := de_15 tX10_findNames_368 (by decide +kernel)
def tX10_findNames_370 := Bt_2 (q := 370) tX10_findNames_368 rfl
theorem dX10_findNames_370 : decode cX10_findNames 370 = .ok (.laload, 1) := de_2f tX10_findNames_370
def tX10_findNames_371 := Bt_1 (q := 371) tX10_findNames_370 rfl
theorem dX10_findNames_371 : decode cX10_findNames 371 = .ok (.aload_n 0, 1) := de_2a tX10_findNames_371
def tX10_findNames_372 := Bt_1 (q := 372) tX10_findNames_371 rfl
theorem dX10_findNames_372 : decode cX10_findNames 372 = .ok (.getfield 64, 3) := de_b4 tX10_findNames_372 (by decide +kernel)
def tX10_findNames_375 := Bt_3 (q := 375) tX10_findNames_372 rfl
theorem dX10_findNames_375 : decode cX10_findNames 375 = .ok (.iload 14, 2) := de_15 tX10_findNames_375 (by decide +kernel)
def tX10_findNames_377 := Bt_2 (q := 377) tX10_findNames_375 rfl
theorem dX10_findNames_377 : decode cX10_findNames 377 = .ok (.laload, 1) := de_2f tX10_findNames_377
def tX10_findNames_378 := Bt_1 (q := 378) tX10_findNames_377 rfl
theorem dX10_findNames_378 : decode cX10_findNames 378 = .ok (.invokestatic 219, 3) := de_b8 tX10_findNames_378 (by decide +kernel)
def tX10_findNames_381 := Bt_3 (q := 381) tX10_findNames_378 rfl
theorem dX10_findNames_381 : decode cX10_findNames 381 = .ok (.lstore 15, 2) := de_37 tX10_findNames_381 (by decide +kernel)
def tX10_findNames_383 := Bt_2 (q := 383) tX10_findNames_381 rfl
theorem dX10_findNames_383 : decode cX10_findNames 383 = .ok (.aload_n 0, 1) := de_2a tX10_findNames_383
def tX10_findNames_384 := Bt_1 (q := 384) tX10_findNames_383 rfl
theorem dX10_findNames_384 : decode cX10_findNames 384 = .ok (.getfield 60, 3) := de_b4 tX10_findNames_384 (by decide +kernel)
def tX10_findNames_387 := Bt_3 (q := 387) tX10_findNames_384 rfl
theorem dX10_findNames_387 : decode cX10_findNames 387 = .ok (.iload 14, 2) := de_15 tX10_findNames_387 (by decide +kernel)
def tX10_findNames_389 := Bt_2 (q := 389) tX10_findNames_387 rfl
theorem dX10_findNames_389 : decode cX10_findNames 389 = .ok (.dup2, 1) := de_5c tX10_findNames_389
def tX10_findNames_390 := Bt_1 (q := 390) tX10_findNames_389 rfl
theorem dX10_findNames_390 : decode cX10_findNames 390 = .ok (.laload, 1) := de_2f tX10_findNames_390
def tX10_findNames_391 := Bt_1 (q := 391) tX10_findNames_390 rfl
theorem dX10_findNames_391 : decode cX10_findNames 391 = .ok (.lload 15, 2) := de_16 tX10_findNames_391 (by decide +kernel)
def tX10_findNames_393 := Bt_2 (q := 393) tX10_findNames_391 rfl
theorem dX10_findNames_393 : decode cX10_findNames 393 = .ok (.ldiv, 1) := de_6d tX10_findNames_393
def tX10_findNames_394 := Bt_1 (q := 394) tX10_findNames_393 rfl
theorem dX10_findNames_394 : decode cX10_findNames 394 = .ok (.lastore, 1) := de_50 tX10_findNames_394
def tX10_findNames_395 := Bt_1 (q := 395) tX10_findNames_394 rfl
theorem dX10_findNames_395 : decode cX10_findNames 395 = .ok (.aload_n 0, 1) := de_2a tX10_findNames_395
def tX10_findNames_396 := Bt_1 (q := 396) tX10_findNames_395 rfl
theorem dX10_findNames_396 : decode cX10_findNames 396 = .ok (.getfield 64, 3) := de_b4 tX10_findNames_396 (by decide +kernel)
def tX10_findNames_399 := Bt_3 (q := 399) tX10_findNames_396 rfl
theorem dX10_findNames_399 : decode cX10_findNames 399 = .ok (.iload 14, 2) := de_15 tX10_findNames_399 (by decide +kernel)
def tX10_findNames_401 := Bt_2 (q := 401) tX10_findNames_399 rfl
theorem dX10_findNames_401 : decode cX10_findNames 401 = .ok (.dup2, 1) := de_5c tX10_findNames_401
def tX10_findNames_402 := Bt_1 (q := 402) tX10_findNames_401 rfl
theorem dX10_findNames_402 : decode cX10_findNames 402 = .ok (.laload, 1) := de_2f tX10_findNames_402
def tX10_findNames_403 := Bt_1 (q := 403) tX10_findNames_402 rfl
theorem dX10_findNames_403 : decode cX10_findNames 403 = .ok (.lload 15, 2) := de_16 tX10_findNames_403 (by decide +kernel)
def tX10_findNames_405 := Bt_2 (q := 405) tX10_findNames_403 rfl
theorem dX10_findNames_405 : decode cX10_findNames 405 = .ok (.ldiv, 1) := de_6d tX10_findNames_405
def tX10_findNames_406 := Bt_1 (q := 406) tX10_findNames_405 rfl
theorem dX10_findNames_406 : decode cX10_findNames 406 = .ok (.lastore, 1) := de_50 tX10_findNames_406
def tX10_findNames_407 := Bt_1 (q := 407) tX10_findNames_406 rfl
theorem dX10_findNames_407 : decode cX10_findNames 407 = .ok (.iinc 14 1, 3) := de_84 tX10_findNames_407 (by decide +kernel) (by decide +kernel)
def tX10_findNames_410 := Bt_3 (q := 410) tX10_findNames_407 rfl
theorem dX10_findNames_410 : decode cX10_findNames 410 = .ok (.goto (-53), 3) := de_a7 tX10_findNames_410 (by decide +kernel)
def tX10_findNames_413 := Bt_3 (q := 413) tX10_findNames_410 rfl
theorem dX10_findNames_413 : decode cX10_findNames 413 = .ok (.return_, 1) := de_b1 tX10_findNames_413
def tX10_findPoints_0 := Bt_0 cX10_findPoints
theorem dX10_findPoints_0 : decode cX10_findPoints 0 = .ok (.aload_n 0, 1) := de_2a tX10_findPoints_0
def tX10_findPoints_1 := Bt_1 (q := 1) tX10_findPoints_0 rfl
theorem dX10_findPoints_1 : decode cX10_findPoints 1 = .ok (.iload_n 1, 1) := de_1b tX10_findPoints_1
def tX10_findPoints_2 := Bt_1 (q := 2) tX10_findPoints_1 rfl
theorem dX10_findPoints_2 : decode cX10_findPoints 2 = .ok (.iload_n 2, 1) := de_1c tX10_findPoints_2
def tX10_findPoints_3 := Bt_1 (q := 3) tX10_findPoints_2 rfl
theorem dX10_findPoints_3 : decode cX10_findPoints 3 = .ok (.iload_n 3, 1) := de_1d tX10_findPoints_3
def tX10_findPoints_4 := Bt_1 (q := 4) tX10_findPoints_3 rfl
theorem dX10_findPoints_4 : decode cX10_findPoints 4 = .ok (.invokevirtual 297, 3) := de_b6 tX10_findPoints_4 (by decide +kernel)
def tX10_findPoints_7 := Bt_3 (q := 7) tX10_findPoints_4 rfl
theorem dX10_findPoints_7 : decode cX10_findPoints 7 = .ok (.aload_n 0, 1) := de_2a tX10_findPoints_7
def tX10_findPoints_8 := Bt_1 (q := 8) tX10_findPoints_7 rfl
theorem dX10_findPoints_8 : decode cX10_findPoints 8 = .ok (.aload_n 0, 1) := de_2a tX10_findPoints_8
def tX10_findPoints_9 := Bt_1 (q := 9) tX10_findPoints_8 rfl
theorem dX10_findPoints_9 : decode cX10_findPoints 9 = .ok (.getfield 57, 3) := de_b4 tX10_findPoints_9 (by decide +kernel)
def tX10_findPoints_12 := Bt_3 (q := 12) tX10_findPoints_9 rfl
theorem dX10_findPoints_12 : decode cX10_findPoints 12 = .ok (.aload_n 0, 1) := de_2a tX10_findPoints_12
def tX10_findPoints_13 := Bt_1 (q := 13) tX10_findPoints_12 rfl
theorem dX10_findPoints_13 : decode cX10_findPoints 13 = .ok (.getfield 139, 3) := de_b4 tX10_findPoints_13 (by decide +kernel)
def tX10_findPoints_16 := Bt_3 (q := 16) tX10_findPoints_13 rfl
theorem dX10_findPoints_16 : decode cX10_findPoints 16 = .ok (.invokevirtual 293, 3) := de_b6 tX10_findPoints_16 (by decide +kernel)
def tX10_findPoints_19 := Bt_3 (q := 19) tX10_findPoints_16 rfl
theorem dX10_findPoints_19 : decode cX10_findPoints 19 = .ok (.aload_n 0, 1) := de_2a tX10_findPoints_19
def tX10_findPoints_20 := Bt_1 (q := 20) tX10_findPoints_19 rfl
theorem dX10_findPoints_20 : decode cX10_findPoints 20 = .ok (.aload_n 0, 1) := de_2a tX10_findPoints_20
def tX10_findPoints_21 := Bt_1 (q := 21) tX10_findPoints_20 rfl
theorem dX10_findPoints_21 : decode cX10_findPoints 21 = .ok (.getfield 67, 3) := de_b4 tX10_findPoints_21 (by decide +kernel)
def tX10_findPoints_24 := Bt_3 (q := 24) tX10_findPoints_21 rfl
theorem dX10_findPoints_24 : decode cX10_findPoints 24 = .ok (.iconst 0, 1) := de_03 tX10_findPoints_24
def tX10_findPoints_25 := Bt_1 (q := 25) tX10_findPoints_24 rfl
theorem dX10_findPoints_25 : decode cX10_findPoints 25 = .ok (.laload, 1) := de_2f tX10_findPoints_25
def tX10_findPoints_26 := Bt_1 (q := 26) tX10_findPoints_25 rfl
theorem dX10_findPoints_26 : decode cX10_findPoints 26 = .ok (.putfield 301, 3) := de_b5 tX10_findPoints_26 (by decide +kernel)
def tX10_findPoints_29 := Bt_3 (q := 29) tX10_findPoints_26 rfl
theorem dX10_findPoints_29 : decode cX10_findPoints 29 = .ok (.aload_n 0, 1) := de_2a tX10_findPoints_29
def tX10_findPoints_30 := Bt_1 (q := 30) tX10_findPoints_29 rfl
theorem dX10_findPoints_30 : decode cX10_findPoints 30 = .ok (.aload_n 0, 1) := de_2a tX10_findPoints_30
def tX10_findPoints_31 := Bt_1 (q := 31) tX10_findPoints_30 rfl
theorem dX10_findPoints_31 : decode cX10_findPoints 31 = .ok (.getfield 70, 3) := de_b4 tX10_findPoints_31 (by decide +kernel)
def tX10_findPoints_34 := Bt_3 (q := 34) tX10_findPoints_31 rfl
theorem dX10_findPoints_34 : decode cX10_findPoints 34 = .ok (.iconst 0, 1) := de_03 tX10_findPoints_34
def tX10_findPoints_35 := Bt_1 (q := 35) tX10_findPoints_34 rfl
theorem dX10_findPoints_35 : decode cX10_findPoints 35 = .ok (.laload, 1) := de_2f tX10_findPoints_35
def tX10_findPoints_36 := Bt_1 (q := 36) tX10_findPoints_35 rfl
theorem dX10_findPoints_36 : decode cX10_findPoints 36 = .ok (.putfield 305, 3) := de_b5 tX10_findPoints_36 (by decide +kernel)
def tX10_findPoints_39 := Bt_3 (q := 39) tX10_findPoints_36 rfl
theorem dX10_findPoints_39 : decode cX10_findPoints 39 = .ok (.aload_n 0, 1) := de_2a tX10_findPoints_39
def tX10_findPoints_40 := Bt_1 (q := 40) tX10_findPoints_39 rfl
theorem dX10_findPoints_40 : decode cX10_findPoints 40 = .ok (.getfield 231, 3) := de_b4 tX10_findPoints_40 (by decide +kernel)
def tX10_findPoints_43 := Bt_3 (q := 43) tX10_findPoints_40 rfl
theorem dX10_findPoints_43 : decode cX10_findPoints 43 = .ok (.ifCond .ne 7, 3) := de_9a tX10_findPoints_43 (by decide +kernel)
def tX10_findPoints_46 := Bt_3 (q := 46) tX10_findPoints_43 rfl
theorem dX10_findPoints_46 : decode cX10_findPoints 46 = .ok (.iconst 1, 1) := de_04 tX10_findPoints_46
def tX10_findPoints_47 := Bt_1 (q := 47) tX10_findPoints_46 rfl
theorem dX10_findPoints_47 : decode cX10_findPoints 47 = .ok (.goto 4, 3) := de_a7 tX10_findPoints_47 (by decide +kernel)
def tX10_findPoints_50 := Bt_3 (q := 50) tX10_findPoints_47 rfl
theorem dX10_findPoints_50 : decode cX10_findPoints 50 = .ok (.iconst 0, 1) := de_03 tX10_findPoints_50
def tX10_findPoints_51 := Bt_1 (q := 51) tX10_findPoints_50 rfl
theorem dX10_findPoints_51 : decode cX10_findPoints 51 = .ok (.ireturn, 1) := de_ac tX10_findPoints_51
def tX10_points_0 := Bt_0 cX10_points
theorem dX10_points_0 : decode cX10_points 0 = .ok (.iload_n 1, 1) := de_1b tX10_points_0
def tX10_points_1 := Bt_1 (q := 1) tX10_points_0 rfl
theorem dX10_points_1 : decode cX10_points 1 = .ok (.invokestatic 166, 3) := de_b8 tX10_points_1 (by decide +kernel)
def tX10_points_4 := Bt_3 (q := 4) tX10_points_1 rfl
theorem dX10_points_4 : decode cX10_points 4 = .ok (.ifCond .eq 11, 3) := de_99 tX10_points_4 (by decide +kernel)
def tX10_points_7 := Bt_3 (q := 7) tX10_points_4 rfl
theorem dX10_points_7 : decode cX10_points 7 = .ok (.aload_n 0, 1) := de_2a tX10_points_7
def tX10_points_8 := Bt_1 (q := 8) tX10_points_7 rfl
theorem dX10_points_8 : decode cX10_points 8 = .ok (.iload_n 2, 1) := de_1c tX10_points_8
def tX10_points_9 := Bt_1 (q := 9) tX10_points_8 rfl
theorem dX10_points_9 : decode cX10_points 9 = .ok (.invokevirtual 170, 3) := de_b6 tX10_points_9 (by decide +kernel)
def tX10_points_12 := Bt_3 (q := 12) tX10_points_9 rfl
theorem dX10_points_12 : decode cX10_points 12 = .ok (.ifCond .ne 9, 3) := de_9a tX10_points_12 (by decide +kernel)
def tX10_points_15 := Bt_3 (q := 15) tX10_points_12 rfl
theorem dX10_points_15 : decode cX10_points 15 = .ok (.aload_n 0, 1) := de_2a tX10_points_15
def tX10_points_16 := Bt_1 (q := 16) tX10_points_15 rfl
theorem dX10_points_16 : decode cX10_points 16 = .ok (.iconst (-1), 1) := de_02 tX10_points_16
def tX10_points_17 := Bt_1 (q := 17) tX10_points_16 rfl
theorem dX10_points_17 : decode cX10_points 17 = .ok (.invokevirtual 308, 3) := de_b6 tX10_points_17 (by decide +kernel)
def tX10_points_20 := Bt_3 (q := 20) tX10_points_17 rfl
theorem dX10_points_20 : decode cX10_points 20 = .ok (.lreturn, 1) := de_ad tX10_points_20
def tX10_points_21 := Bt_1 (q := 21) tX10_points_20 rfl
theorem dX10_points_21 : decode cX10_points 21 = .ok (.iload_n 3, 1) := de_1d tX10_points_21
def tX10_points_22 := Bt_1 (q := 22) tX10_points_21 rfl
theorem dX10_points_22 : decode cX10_points 22 = .ok (.iconst 0, 1) := de_03 tX10_points_22
def tX10_points_23 := Bt_1 (q := 23) tX10_points_22 rfl
theorem dX10_points_23 : decode cX10_points 23 = .ok (.iconst 1, 1) := de_04 tX10_points_23
def tX10_points_24 := Bt_1 (q := 24) tX10_points_23 rfl
theorem dX10_points_24 : decode cX10_points 24 = .ok (.invokestatic 144, 3) := de_b8 tX10_points_24 (by decide +kernel)
def tX10_points_27 := Bt_3 (q := 27) tX10_points_24 rfl
theorem dX10_points_27 : decode cX10_points 27 = .ok (.ifCond .ne 10, 3) := de_9a tX10_points_27 (by decide +kernel)
def tX10_points_30 := Bt_3 (q := 30) tX10_points_27 rfl
theorem dX10_points_30 : decode cX10_points 30 = .ok (.aload_n 0, 1) := de_2a tX10_points_30
def tX10_points_31 := Bt_1 (q := 31) tX10_points_30 rfl
theorem dX10_points_31 : decode cX10_points 31 = .ok (.bipush (-2), 2) := de_10 tX10_points_31 (by decide +kernel)
def tX10_points_33 := Bt_2 (q := 33) tX10_points_31 rfl
theorem dX10_points_33 : decode cX10_points 33 = .ok (.invokevirtual 308, 3) := de_b6 tX10_points_33 (by decide +kernel)
def tX10_points_36 := Bt_3 (q := 36) tX10_points_33 rfl
theorem dX10_points_36 : decode cX10_points 36 = .ok (.lreturn, 1) := de_ad tX10_points_36
def tX10_points_37 := Bt_1 (q := 37) tX10_points_36 rfl
theorem dX10_points_37 : decode cX10_points 37 = .ok (.aload_n 0, 1) := de_2a tX10_points_37
def tX10_points_38 := Bt_1 (q := 38) tX10_points_37 rfl
theorem dX10_points_38 : decode cX10_points 38 = .ok (.iload_n 1, 1) := de_1b tX10_points_38
def tX10_points_39 := Bt_1 (q := 39) tX10_points_38 rfl
theorem dX10_points_39 : decode cX10_points 39 = .ok (.iload_n 2, 1) := de_1c tX10_points_39
def tX10_points_40 := Bt_1 (q := 40) tX10_points_39 rfl
theorem dX10_points_40 : decode cX10_points 40 = .ok (.invokevirtual 203, 3) := de_b6 tX10_points_40 (by decide +kernel)
def tX10_points_43 := Bt_3 (q := 43) tX10_points_40 rfl
theorem dX10_points_43 : decode cX10_points 43 = .ok (.ifCond .ge 10, 3) := de_9c tX10_points_43 (by decide +kernel)
def tX10_points_46 := Bt_3 (q := 46) tX10_points_43 rfl
theorem dX10_points_46 : decode cX10_points 46 = .ok (.aload_n 0, 1) := de_2a tX10_points_46
def tX10_points_47 := Bt_1 (q := 47) tX10_points_46 rfl
theorem dX10_points_47 : decode cX10_points 47 = .ok (.bipush (-5), 2) := de_10 tX10_points_47 (by decide +kernel)
def tX10_points_49 := Bt_2 (q := 49) tX10_points_47 rfl
theorem dX10_points_49 : decode cX10_points 49 = .ok (.invokevirtual 308, 3) := de_b6 tX10_points_49 (by decide +kernel)
def tX10_points_52 := Bt_3 (q := 52) tX10_points_49 rfl
theorem dX10_points_52 : decode cX10_points 52 = .ok (.lreturn, 1) := de_ad tX10_points_52
def tX10_points_53 := Bt_1 (q := 53) tX10_points_52 rfl
theorem dX10_points_53 : decode cX10_points 53 = .ok (.aload_n 0, 1) := de_2a tX10_points_53
def tX10_points_54 := Bt_1 (q := 54) tX10_points_53 rfl
theorem dX10_points_54 : decode cX10_points 54 = .ok (.bipush 8, 2) := de_10 tX10_points_54 (by decide +kernel)
def tX10_points_56 := Bt_2 (q := 56) tX10_points_54 rfl
theorem dX10_points_56 : decode cX10_points 56 = .ok (.iload_n 2, 1) := de_1c tX10_points_56
def tX10_points_57 := Bt_1 (q := 57) tX10_points_56 rfl
theorem dX10_points_57 : decode cX10_points 57 = .ok (.imul, 1) := de_68 tX10_points_57
def tX10_points_58 := Bt_1 (q := 58) tX10_points_57 rfl
theorem dX10_points_58 : decode cX10_points 58 = .ok (.iload_n 1, 1) := de_1b tX10_points_58
def tX10_points_59 := Bt_1 (q := 59) tX10_points_58 rfl
theorem dX10_points_59 : decode cX10_points 59 = .ok (.iadd, 1) := de_60 tX10_points_59
def tX10_points_60 := Bt_1 (q := 60) tX10_points_59 rfl
theorem dX10_points_60 : decode cX10_points 60 = .ok (.iconst 0, 1) := de_03 tX10_points_60
def tX10_points_61 := Bt_1 (q := 61) tX10_points_60 rfl
theorem dX10_points_61 : decode cX10_points 61 = .ok (.iconst (-1), 1) := de_02 tX10_points_61
def tX10_points_62 := Bt_1 (q := 62) tX10_points_61 rfl
theorem dX10_points_62 : decode cX10_points 62 = .ok (.invokevirtual 312, 3) := de_b6 tX10_points_62 (by decide +kernel)
def tX10_points_65 := Bt_3 (q := 65) tX10_points_62 rfl
theorem dX10_points_65 : decode cX10_points 65 = .ok (.ifCond .ne 10, 3) := de_9a tX10_points_65 (by decide +kernel)
def tX10_points_68 := Bt_3 (q := 68) tX10_points_65 rfl
theorem dX10_points_68 : decode cX10_points 68 = .ok (.aload_n 0, 1) := de_2a tX10_points_68
def tX10_points_69 := Bt_1 (q := 69) tX10_points_68 rfl
theorem dX10_points_69 : decode cX10_points 69 = .ok (.bipush (-7), 2) := de_10 tX10_points_69 (by decide +kernel)
def tX10_points_71 := Bt_2 (q := 71) tX10_points_69 rfl
theorem dX10_points_71 : decode cX10_points 71 = .ok (.invokevirtual 308, 3) := de_b6 tX10_points_71 (by decide +kernel)
def tX10_points_74 := Bt_3 (q := 74) tX10_points_71 rfl
theorem dX10_points_74 : decode cX10_points 74 = .ok (.lreturn, 1) := de_ad tX10_points_74
def tX10_points_75 := Bt_1 (q := 75) tX10_points_74 rfl
theorem dX10_points_75 : decode cX10_points 75 = .ok (.iload_n 3, 1) := de_1d tX10_points_75
def tX10_points_76 := Bt_1 (q := 76) tX10_points_75 rfl
theorem dX10_points_76 : decode cX10_points 76 = .ok (.ifCond .ne 10, 3) := de_9a tX10_points_76 (by decide +kernel)
def tX10_points_79 := Bt_3 (q := 79) tX10_points_76 rfl
theorem dX10_points_79 : decode cX10_points 79 = .ok (.aload_n 0, 1) := de_2a tX10_points_79
def tX10_points_80 := Bt_1 (q := 80) tX10_points_79 rfl
theorem dX10_points_80 : decode cX10_points 80 = .ok (.getfield 301, 3) := de_b4 tX10_points_80 (by decide +kernel)
def tX10_points_83 := Bt_3 (q := 83) tX10_points_80 rfl
theorem dX10_points_83 : decode cX10_points 83 = .ok (.goto 7, 3) := de_a7 tX10_points_83 (by decide +kernel)
def tX10_points_86 := Bt_3 (q := 86) tX10_points_83 rfl
theorem dX10_points_86 : decode cX10_points 86 = .ok (.aload_n 0, 1) := de_2a tX10_points_86
def tX10_points_87 := Bt_1 (q := 87) tX10_points_86 rfl
theorem dX10_points_87 : decode cX10_points 87 = .ok (.getfield 305, 3) := de_b4 tX10_points_87 (by decide +kernel)
def tX10_points_90 := Bt_3 (q := 90) tX10_points_87 rfl
theorem dX10_points_90 : decode cX10_points 90 = .ok (.lreturn, 1) := de_ad tX10_points_90
def tX10_isAhead_0 := Bt_0 cX10_isAhead
theorem dX10_isAhead_0 : decode cX10_isAhead 0 = .ok (.aload_n 0, 1) := de_2a tX10_isAhead_0
def tX10_isAhead_1 := Bt_1 (q := 1) tX10_isAhead_0 rfl
theorem dX10_isAhead_1 : decode cX10_isAhead 1 = .ok (.iload_n 1, 1) := de_1b tX10_isAhead_1
def tX10_isAhead_2 := Bt_1 (q := 2) tX10_isAhead_1 rfl
theorem dX10_isAhead_2 : decode cX10_isAhead 2 = .ok (.iconst 0, 1) := de_03 tX10_isAhead_2
def tX10_isAhead_3 := Bt_1 (q := 3) tX10_isAhead_2 rfl
theorem dX10_isAhead_3 : decode cX10_isAhead 3 = .ok (.iload_n 3, 1) := de_1d tX10_isAhead_3
def tX10_isAhead_4 := Bt_1 (q := 4) tX10_isAhead_3 rfl
theorem dX10_isAhead_4 : decode cX10_isAhead 4 = .ok (.invokevirtual 312, 3) := de_b6 tX10_isAhead_4 (by decide +kernel)
def tX10_isAhead_7 := Bt_3 (q := 7) tX10_isAhead_4 rfl
theorem dX10_isAhead_7 : decode cX10_isAhead 7 = .ok (.istore 4, 2) := de_36 tX10_isAhead_7 (by decide +kernel)
def tX10_isAhead_9 := Bt_2 (q := 9) tX10_isAhead_7 rfl
theorem dX10_isAhead_9 : decode cX10_isAhead 9 = .ok (.aload_n 0, 1) := de_2a tX10_isAhead_9
def tX10_isAhead_10 := Bt_1 (q := 10) tX10_isAhead_9 rfl
theorem dX10_isAhead_10 : decode cX10_isAhead 10 = .ok (.getfield 301, 3) := de_b4 tX10_isAhead_10 (by decide +kernel)
def tX10_isAhead_13 := Bt_3 (q := 13) tX10_isAhead_10 rfl
theorem dX10_isAhead_13 : decode cX10_isAhead 13 = .ok (.lstore 5, 2) := de_37 tX10_isAhead_13 (by decide +kernel)
def tX10_isAhead_15 := Bt_2 (q := 15) tX10_isAhead_13 rfl
theorem dX10_isAhead_15 : decode cX10_isAhead 15 = .ok (.aload_n 0, 1) := de_2a tX10_isAhead_15
def tX10_isAhead_16 := Bt_1 (q := 16) tX10_isAhead_15 rfl
theorem dX10_isAhead_16 : decode cX10_isAhead 16 = .ok (.getfield 305, 3) := de_b4 tX10_isAhead_16 (by decide +kernel)
def tX10_isAhead_19 := Bt_3 (q := 19) tX10_isAhead_16 rfl
theorem dX10_isAhead_19 : decode cX10_isAhead 19 = .ok (.lstore 7, 2) := de_37 tX10_isAhead_19 (by decide +kernel)
def tX10_isAhead_21 := Bt_2 (q := 21) tX10_isAhead_19 rfl
theorem dX10_isAhead_21 : decode cX10_isAhead 21 = .ok (.aload_n 0, 1) := de_2a tX10_isAhead_21
def tX10_isAhead_22 := Bt_1 (q := 22) tX10_isAhead_21 rfl
theorem dX10_isAhead_22 : decode cX10_isAhead 22 = .ok (.iload_n 2, 1) := de_1c tX10_isAhead_22
def tX10_isAhead_23 := Bt_1 (q := 23) tX10_isAhead_22 rfl
theorem dX10_isAhead_23 : decode cX10_isAhead 23 = .ok (.iconst 0, 1) := de_03 tX10_isAhead_23
def tX10_isAhead_24 := Bt_1 (q := 24) tX10_isAhead_23 rfl
theorem dX10_isAhead_24 : decode cX10_isAhead 24 = .ok (.iload_n 3, 1) := de_1d tX10_isAhead_24
def tX10_isAhead_25 := Bt_1 (q := 25) tX10_isAhead_24 rfl
theorem dX10_isAhead_25 : decode cX10_isAhead 25 = .ok (.invokevirtual 312, 3) := de_b6 tX10_isAhead_25 (by decide +kernel)
def tX10_isAhead_28 := Bt_3 (q := 28) tX10_isAhead_25 rfl
theorem dX10_isAhead_28 : decode cX10_isAhead 28 = .ok (.istore 9, 2) := de_36 tX10_isAhead_28 (by decide +kernel)
def tX10_isAhead_30 := Bt_2 (q := 30) tX10_isAhead_28 rfl
theorem dX10_isAhead_30 : decode cX10_isAhead 30 = .ok (.lload 5, 2) := de_16 tX10_isAhead_30 (by decide +kernel)
def tX10_isAhead_32 := Bt_2 (q := 32) tX10_isAhead_30 rfl
theorem dX10_isAhead_32 : decode cX10_isAhead 32 = .ok (.aload_n 0, 1) := de_2a tX10_isAhead_32
def tX10_isAhead_33 := Bt_1 (q := 33) tX10_isAhead_32 rfl
theorem dX10_isAhead_33 : decode cX10_isAhead 33 = .ok (.getfield 305, 3) := de_b4 tX10_isAhead_33 (by decide +kernel)
def tX10_isAhead_36 := Bt_3 (q := 36) tX10_isAhead_33 rfl
theorem dX10_isAhead_36 : decode cX10_isAhead 36 = .ok (.lmul, 1) := de_69 tX10_isAhead_36
def tX10_isAhead_37 := Bt_1 (q := 37) tX10_isAhead_36 rfl
theorem dX10_isAhead_37 : decode cX10_isAhead 37 = .ok (.lstore 10, 2) := de_37 tX10_isAhead_37 (by decide +kernel)
def tX10_isAhead_39 := Bt_2 (q := 39) tX10_isAhead_37 rfl
theorem dX10_isAhead_39 : decode cX10_isAhead 39 = .ok (.aload_n 0, 1) := de_2a tX10_isAhead_39
def tX10_isAhead_40 := Bt_1 (q := 40) tX10_isAhead_39 rfl
theorem dX10_isAhead_40 : decode cX10_isAhead 40 = .ok (.getfield 301, 3) := de_b4 tX10_isAhead_40 (by decide +kernel)
def tX10_isAhead_43 := Bt_3 (q := 43) tX10_isAhead_40 rfl
theorem dX10_isAhead_43 : decode cX10_isAhead 43 = .ok (.lload 7, 2) := de_16 tX10_isAhead_43 (by decide +kernel)
def tX10_isAhead_45 := Bt_2 (q := 45) tX10_isAhead_43 rfl
theorem dX10_isAhead_45 : decode cX10_isAhead 45 = .ok (.lmul, 1) := de_69 tX10_isAhead_45
def tX10_isAhead_46 := Bt_1 (q := 46) tX10_isAhead_45 rfl
theorem dX10_isAhead_46 : decode cX10_isAhead 46 = .ok (.lstore 12, 2) := de_37 tX10_isAhead_46 (by decide +kernel)
def tX10_isAhead_48 := Bt_2 (q := 48) tX10_isAhead_46 rfl
theorem dX10_isAhead_48 : decode cX10_isAhead 48 = .ok (.lload 10, 2) := de_16 tX10_isAhead_48 (by decide +kernel)
def tX10_isAhead_50 := Bt_2 (q := 50) tX10_isAhead_48 rfl
theorem dX10_isAhead_50 : decode cX10_isAhead 50 = .ok (.lload 12, 2) := de_16 tX10_isAhead_50 (by decide +kernel)
def tX10_isAhead_52 := Bt_2 (q := 52) tX10_isAhead_50 rfl
theorem dX10_isAhead_52 : decode cX10_isAhead 52 = .ok (.lcmp, 1) := de_94 tX10_isAhead_52
def tX10_isAhead_53 := Bt_1 (q := 53) tX10_isAhead_52 rfl
theorem dX10_isAhead_53 : decode cX10_isAhead 53 = .ok (.ifCond .eq 17, 3) := de_99 tX10_isAhead_53 (by decide +kernel)
def tX10_isAhead_56 := Bt_3 (q := 56) tX10_isAhead_53 rfl
theorem dX10_isAhead_56 : decode cX10_isAhead 56 = .ok (.lload 10, 2) := de_16 tX10_isAhead_56 (by decide +kernel)
def tX10_isAhead_58 := Bt_2 (q := 58) tX10_isAhead_56 rfl
theorem dX10_isAhead_58 : decode cX10_isAhead 58 = .ok (.lload 12, 2) := de_16 tX10_isAhead_58 (by decide +kernel)
def tX10_isAhead_60 := Bt_2 (q := 60) tX10_isAhead_58 rfl
theorem dX10_isAhead_60 : decode cX10_isAhead 60 = .ok (.lcmp, 1) := de_94 tX10_isAhead_60
def tX10_isAhead_61 := Bt_1 (q := 61) tX10_isAhead_60 rfl
theorem dX10_isAhead_61 : decode cX10_isAhead 61 = .ok (.ifCond .le 7, 3) := de_9e tX10_isAhead_61 (by decide +kernel)
def tX10_isAhead_64 := Bt_3 (q := 64) tX10_isAhead_61 rfl
theorem dX10_isAhead_64 : decode cX10_isAhead 64 = .ok (.iconst 1, 1) := de_04 tX10_isAhead_64
def tX10_isAhead_65 := Bt_1 (q := 65) tX10_isAhead_64 rfl
theorem dX10_isAhead_65 : decode cX10_isAhead 65 = .ok (.goto 4, 3) := de_a7 tX10_isAhead_65 (by decide +kernel)
def tX10_isAhead_68 := Bt_3 (q := 68) tX10_isAhead_65 rfl
theorem dX10_isAhead_68 : decode cX10_isAhead 68 = .ok (.iconst 0, 1) := de_03 tX10_isAhead_68
def tX10_isAhead_69 := Bt_1 (q := 69) tX10_isAhead_68 rfl
theorem dX10_isAhead_69 : decode cX10_isAhead 69 = .ok (.ireturn, 1) := de_ac tX10_isAhead_69
def tX10_isAhead_70 := Bt_1 (q := 70) tX10_isAhead_69 rfl
theorem dX10_isAhead_70 : decode cX10_isAhead 70 = .ok (.aload_n 0, 1) := de_2a tX10_isAhead_70
def tX10_isAhead_71 := Bt_1 (q := 71) tX10_isAhead_70 rfl
theorem dX10_isAhead_71 : decode cX10_isAhead 71 = .ok (.iload_n 1, 1) := de_1b tX10_isAhead_71
def tX10_isAhead_72 := Bt_1 (q := 72) tX10_isAhead_71 rfl
theorem dX10_isAhead_72 : decode cX10_isAhead 72 = .ok (.iload_n 3, 1) := de_1d tX10_isAhead_72
def tX10_isAhead_73 := Bt_1 (q := 73) tX10_isAhead_72 rfl
theorem dX10_isAhead_73 : decode cX10_isAhead 73 = .ok (.invokevirtual 215, 3) := de_b6 tX10_isAhead_73 (by decide +kernel)
def tX10_isAhead_76 := Bt_3 (q := 76) tX10_isAhead_73 rfl
theorem dX10_isAhead_76 : decode cX10_isAhead 76 = .ok (.aload_n 0, 1) := de_2a tX10_isAhead_76
def tX10_isAhead_77 := Bt_1 (q := 77) tX10_isAhead_76 rfl
theorem dX10_isAhead_77 : decode cX10_isAhead 77 = .ok (.getfield 206, 3) := de_b4 tX10_isAhead_77 (by decide +kernel)
def tX10_isAhead_80 := Bt_3 (q := 80) tX10_isAhead_77 rfl
theorem dX10_isAhead_80 : decode cX10_isAhead 80 = .ok (.istore 14, 2) := de_36 tX10_isAhead_80 (by decide +kernel)
def tX10_isAhead_82 := Bt_2 (q := 82) tX10_isAhead_80 rfl
theorem dX10_isAhead_82 : decode cX10_isAhead 82 = .ok (.aload_n 0, 1) := de_2a tX10_isAhead_82
def tX10_isAhead_83 := Bt_1 (q := 83) tX10_isAhead_82 rfl
theorem dX10_isAhead_83 : decode cX10_isAhead 83 = .ok (.getfield 209, 3) := de_b4 tX10_isAhead_83 (by decide +kernel)
def tX10_isAhead_86 := Bt_3 (q := 86) tX10_isAhead_83 rfl
theorem dX10_isAhead_86 : decode cX10_isAhead 86 = .ok (.istore 15, 2) := de_36 tX10_isAhead_86 (by decide +kernel)
def tX10_isAhead_88 := Bt_2 (q := 88) tX10_isAhead_86 rfl
theorem dX10_isAhead_88 : decode cX10_isAhead 88 = .ok (.aload_n 0, 1) := de_2a tX10_isAhead_88
def tX10_isAhead_89 := Bt_1 (q := 89) tX10_isAhead_88 rfl
theorem dX10_isAhead_89 : decode cX10_isAhead 89 = .ok (.iload_n 2, 1) := de_1c tX10_isAhead_89
def tX10_isAhead_90 := Bt_1 (q := 90) tX10_isAhead_89 rfl
theorem dX10_isAhead_90 : decode cX10_isAhead 90 = .ok (.iload_n 3, 1) := de_1d tX10_isAhead_90
def tX10_isAhead_91 := Bt_1 (q := 91) tX10_isAhead_90 rfl
theorem dX10_isAhead_91 : decode cX10_isAhead 91 = .ok (.invokevirtual 215, 3) := de_b6 tX10_isAhead_91 (by decide +kernel)
def tX10_isAhead_94 := Bt_3 (q := 94) tX10_isAhead_91 rfl
theorem dX10_isAhead_94 : decode cX10_isAhead 94 = .ok (.iload 14, 2) := de_15 tX10_isAhead_94 (by decide +kernel)
def tX10_isAhead_96 := Bt_2 (q := 96) tX10_isAhead_94 rfl
theorem dX10_isAhead_96 : decode cX10_isAhead 96 = .ok (.aload_n 0, 1) := de_2a tX10_isAhead_96
def tX10_isAhead_97 := Bt_1 (q := 97) tX10_isAhead_96 rfl
theorem dX10_isAhead_97 : decode cX10_isAhead 97 = .ok (.getfield 209, 3) := de_b4 tX10_isAhead_97 (by decide +kernel)
def tX10_isAhead_100 := Bt_3 (q := 100) tX10_isAhead_97 rfl
theorem dX10_isAhead_100 : decode cX10_isAhead 100 = .ok (.imul, 1) := de_68 tX10_isAhead_100
def tX10_isAhead_101 := Bt_1 (q := 101) tX10_isAhead_100 rfl
theorem dX10_isAhead_101 : decode cX10_isAhead 101 = .ok (.aload_n 0, 1) := de_2a tX10_isAhead_101
def tX10_isAhead_102 := Bt_1 (q := 102) tX10_isAhead_101 rfl
theorem dX10_isAhead_102 : decode cX10_isAhead 102 = .ok (.getfield 206, 3) := de_b4 tX10_isAhead_102 (by decide +kernel)
def tX10_isAhead_105 := Bt_3 (q := 105) tX10_isAhead_102 rfl
theorem dX10_isAhead_105 : decode cX10_isAhead 105 = .ok (.iload 15, 2) := de_15 tX10_isAhead_105 (by decide +kernel)
def tX10_isAhead_107 := Bt_2 (q := 107) tX10_isAhead_105 rfl
theorem dX10_isAhead_107 : decode cX10_isAhead 107 = .ok (.imul, 1) := de_68 tX10_isAhead_107
def tX10_isAhead_108 := Bt_1 (q := 108) tX10_isAhead_107 rfl
theorem dX10_isAhead_108 : decode cX10_isAhead 108 = .ok (.if_icmp .eq 26, 3) := de_9f tX10_isAhead_108 (by decide +kernel)
def tX10_isAhead_111 := Bt_3 (q := 111) tX10_isAhead_108 rfl
theorem dX10_isAhead_111 : decode cX10_isAhead 111 = .ok (.iload 14, 2) := de_15 tX10_isAhead_111 (by decide +kernel)
def tX10_isAhead_113 := Bt_2 (q := 113) tX10_isAhead_111 rfl
theorem dX10_isAhead_113 : decode cX10_isAhead 113 = .ok (.aload_n 0, 1) := de_2a tX10_isAhead_113
def tX10_isAhead_114 := Bt_1 (q := 114) tX10_isAhead_113 rfl
theorem dX10_isAhead_114 : decode cX10_isAhead 114 = .ok (.getfield 209, 3) := de_b4 tX10_isAhead_114 (by decide +kernel)
def tX10_isAhead_117 := Bt_3 (q := 117) tX10_isAhead_114 rfl
theorem dX10_isAhead_117 : decode cX10_isAhead 117 = .ok (.imul, 1) := de_68 tX10_isAhead_117
def tX10_isAhead_118 := Bt_1 (q := 118) tX10_isAhead_117 rfl
theorem dX10_isAhead_118 : decode cX10_isAhead 118 = .ok (.aload_n 0, 1) := de_2a tX10_isAhead_118
def tX10_isAhead_119 := Bt_1 (q := 119) tX10_isAhead_118 rfl
theorem dX10_isAhead_119 : decode cX10_isAhead 119 = .ok (.getfield 206, 3) := de_b4 tX10_isAhead_119 (by decide +kernel)
def tX10_isAhead_122 := Bt_3 (q := 122) tX10_isAhead_119 rfl
theorem dX10_isAhead_122 : decode cX10_isAhead 122 = .ok (.iload 15, 2) := de_15 tX10_isAhead_122 (by decide +kernel)
def tX10_isAhead_124 := Bt_2 (q := 124) tX10_isAhead_122 rfl
theorem dX10_isAhead_124 : decode cX10_isAhead 124 = .ok (.imul, 1) := de_68 tX10_isAhead_124
def tX10_isAhead_125 := Bt_1 (q := 125) tX10_isAhead_124 rfl
theorem dX10_isAhead_125 : decode cX10_isAhead 125 = .ok (.if_icmp .le 7, 3) := de_a4 tX10_isAhead_125 (by decide +kernel)
def tX10_isAhead_128 := Bt_3 (q := 128) tX10_isAhead_125 rfl
theorem dX10_isAhead_128 : decode cX10_isAhead 128 = .ok (.iconst 1, 1) := de_04 tX10_isAhead_128
def tX10_isAhead_129 := Bt_1 (q := 129) tX10_isAhead_128 rfl
theorem dX10_isAhead_129 : decode cX10_isAhead 129 = .ok (.goto 4, 3) := de_a7 tX10_isAhead_129 (by decide +kernel)
def tX10_isAhead_132 := Bt_3 (q := 132) tX10_isAhead_129 rfl
theorem dX10_isAhead_132 : decode cX10_isAhead 132 = .ok (.iconst 0, 1) := de_03 tX10_isAhead_132
def tX10_isAhead_133 := Bt_1 (q := 133) tX10_isAhead_132 rfl
theorem dX10_isAhead_133 : decode cX10_isAhead 133 = .ok (.ireturn, 1) := de_ac tX10_isAhead_133
def tX10_isAhead_134 := Bt_1 (q := 134) tX10_isAhead_133 rfl
theorem dX10_isAhead_134 : decode cX10_isAhead 134 = .ok (.aload_n 0, 1) := de_2a tX10_isAhead_134
def tX10_isAhead_135 := Bt_1 (q := 135) tX10_isAhead_134 rfl
theorem dX10_isAhead_135 : decode cX10_isAhead 135 = .ok (.iload_n 1, 1) := de_1b tX10_isAhead_135
def tX10_isAhead_136 := Bt_1 (q := 136) tX10_isAhead_135 rfl
theorem dX10_isAhead_136 : decode cX10_isAhead 136 = .ok (.invokevirtual 191, 3) := de_b6 tX10_isAhead_136 (by decide +kernel)
def tX10_isAhead_139 := Bt_3 (q := 139) tX10_isAhead_136 rfl
theorem dX10_isAhead_139 : decode cX10_isAhead 139 = .ok (.aload_n 0, 1) := de_2a tX10_isAhead_139
def tX10_isAhead_140 := Bt_1 (q := 140) tX10_isAhead_139 rfl
theorem dX10_isAhead_140 : decode cX10_isAhead 140 = .ok (.iload_n 2, 1) := de_1c tX10_isAhead_140
def tX10_isAhead_141 := Bt_1 (q := 141) tX10_isAhead_140 rfl
theorem dX10_isAhead_141 : decode cX10_isAhead 141 = .ok (.invokevirtual 191, 3) := de_b6 tX10_isAhead_141 (by decide +kernel)
def tX10_isAhead_144 := Bt_3 (q := 144) tX10_isAhead_141 rfl
theorem dX10_isAhead_144 : decode cX10_isAhead 144 = .ok (.if_icmp .eq 24, 3) := de_9f tX10_isAhead_144 (by decide +kernel)
def tX10_isAhead_147 := Bt_3 (q := 147) tX10_isAhead_144 rfl
theorem dX10_isAhead_147 : decode cX10_isAhead 147 = .ok (.aload_n 0, 1) := de_2a tX10_isAhead_147
def tX10_isAhead_148 := Bt_1 (q := 148) tX10_isAhead_147 rfl
theorem dX10_isAhead_148 : decode cX10_isAhead 148 = .ok (.iload_n 1, 1) := de_1b tX10_isAhead_148
def tX10_isAhead_149 := Bt_1 (q := 149) tX10_isAhead_148 rfl
theorem dX10_isAhead_149 : decode cX10_isAhead 149 = .ok (.invokevirtual 191, 3) := de_b6 tX10_isAhead_149 (by decide +kernel)
def tX10_isAhead_152 := Bt_3 (q := 152) tX10_isAhead_149 rfl
theorem dX10_isAhead_152 : decode cX10_isAhead 152 = .ok (.aload_n 0, 1) := de_2a tX10_isAhead_152
def tX10_isAhead_153 := Bt_1 (q := 153) tX10_isAhead_152 rfl
theorem dX10_isAhead_153 : decode cX10_isAhead 153 = .ok (.iload_n 2, 1) := de_1c tX10_isAhead_153
def tX10_isAhead_154 := Bt_1 (q := 154) tX10_isAhead_153 rfl
theorem dX10_isAhead_154 : decode cX10_isAhead 154 = .ok (.invokevirtual 191, 3) := de_b6 tX10_isAhead_154 (by decide +kernel)
def tX10_isAhead_157 := Bt_3 (q := 157) tX10_isAhead_154 rfl
theorem dX10_isAhead_157 : decode cX10_isAhead 157 = .ok (.if_icmp .ge 7, 3) := de_a2 tX10_isAhead_157 (by decide +kernel)
def tX10_isAhead_160 := Bt_3 (q := 160) tX10_isAhead_157 rfl
theorem dX10_isAhead_160 : decode cX10_isAhead 160 = .ok (.iconst 1, 1) := de_04 tX10_isAhead_160
def tX10_isAhead_161 := Bt_1 (q := 161) tX10_isAhead_160 rfl
theorem dX10_isAhead_161 : decode cX10_isAhead 161 = .ok (.goto 17, 3) := de_a7 tX10_isAhead_161 (by decide +kernel)
def tX10_isAhead_164 := Bt_3 (q := 164) tX10_isAhead_161 rfl
theorem dX10_isAhead_164 : decode cX10_isAhead 164 = .ok (.iconst 0, 1) := de_03 tX10_isAhead_164
def tX10_isAhead_165 := Bt_1 (q := 165) tX10_isAhead_164 rfl
theorem dX10_isAhead_165 : decode cX10_isAhead 165 = .ok (.goto 13, 3) := de_a7 tX10_isAhead_165 (by decide +kernel)
def tX10_isAhead_168 := Bt_3 (q := 168) tX10_isAhead_165 rfl
theorem dX10_isAhead_168 : decode cX10_isAhead 168 = .ok (.iload_n 1, 1) := de_1b tX10_isAhead_168
def tX10_isAhead_169 := Bt_1 (q := 169) tX10_isAhead_168 rfl
theorem dX10_isAhead_169 : decode cX10_isAhead 169 = .ok (.iload_n 2, 1) := de_1c tX10_isAhead_169
def tX10_isAhead_170 := Bt_1 (q := 170) tX10_isAhead_169 rfl
theorem dX10_isAhead_170 : decode cX10_isAhead 170 = .ok (.if_icmp .ge 7, 3) := de_a2 tX10_isAhead_170 (by decide +kernel)
def tX10_isAhead_173 := Bt_3 (q := 173) tX10_isAhead_170 rfl
theorem dX10_isAhead_173 : decode cX10_isAhead 173 = .ok (.iconst 1, 1) := de_04 tX10_isAhead_173
def tX10_isAhead_174 := Bt_1 (q := 174) tX10_isAhead_173 rfl
theorem dX10_isAhead_174 : decode cX10_isAhead 174 = .ok (.goto 4, 3) := de_a7 tX10_isAhead_174 (by decide +kernel)
def tX10_isAhead_177 := Bt_3 (q := 177) tX10_isAhead_174 rfl
theorem dX10_isAhead_177 : decode cX10_isAhead 177 = .ok (.iconst 0, 1) := de_03 tX10_isAhead_177
def tX10_isAhead_178 := Bt_1 (q := 178) tX10_isAhead_177 rfl
theorem dX10_isAhead_178 : decode cX10_isAhead 178 = .ok (.ireturn, 1) := de_ac tX10_isAhead_178
def tX10_findOrder_0 := Bt_0 cX10_findOrder
theorem dX10_findOrder_0 : decode cX10_findOrder 0 = .ok (.aload_n 0, 1) := de_2a tX10_findOrder_0
def tX10_findOrder_1 := Bt_1 (q := 1) tX10_findOrder_0 rfl
theorem dX10_findOrder_1 : decode cX10_findOrder 1 = .ok (.iconst 0, 1) := de_03 tX10_findOrder_1
def tX10_findOrder_2 := Bt_1 (q := 2) tX10_findOrder_1 rfl
theorem dX10_findOrder_2 : decode cX10_findOrder 2 = .ok (.putfield 315, 3) := de_b5 tX10_findOrder_2 (by decide +kernel)
def tX10_findOrder_5 := Bt_3 (q := 5) tX10_findOrder_2 rfl
theorem dX10_findOrder_5 : decode cX10_findOrder 5 = .ok (.iconst 0, 1) := de_03 tX10_findOrder_5
def tX10_findOrder_6 := Bt_1 (q := 6) tX10_findOrder_5 rfl
theorem dX10_findOrder_6 : decode cX10_findOrder 6 = .ok (.istore_n 2, 1) := de_3d tX10_findOrder_6
def tX10_findOrder_7 := Bt_1 (q := 7) tX10_findOrder_6 rfl
theorem dX10_findOrder_7 : decode cX10_findOrder 7 = .ok (.iload_n 2, 1) := de_1c tX10_findOrder_7
def tX10_findOrder_8 := Bt_1 (q := 8) tX10_findOrder_7 rfl
theorem dX10_findOrder_8 : decode cX10_findOrder 8 = .ok (.bipush 8, 2) := de_10 tX10_findOrder_8 (by decide +kernel)
def tX10_findOrder_10 := Bt_2 (q := 10) tX10_findOrder_8 rfl
theorem dX10_findOrder_10 : decode cX10_findOrder 10 = .ok (.if_icmp .ge 108, 3) := de_a2 tX10_findOrder_10 (by decide +kernel)
def tX10_findOrder_13 := Bt_3 (q := 13) tX10_findOrder_10 rfl
theorem dX10_findOrder_13 : decode cX10_findOrder 13 = .ok (.bipush 8, 2) := de_10 tX10_findOrder_13 (by decide +kernel)
def tX10_findOrder_15 := Bt_2 (q := 15) tX10_findOrder_13 rfl
theorem dX10_findOrder_15 : decode cX10_findOrder 15 = .ok (.iload_n 1, 1) := de_1b tX10_findOrder_15
def tX10_findOrder_16 := Bt_1 (q := 16) tX10_findOrder_15 rfl
theorem dX10_findOrder_16 : decode cX10_findOrder 16 = .ok (.imul, 1) := de_68 tX10_findOrder_16
def tX10_findOrder_17 := Bt_1 (q := 17) tX10_findOrder_16 rfl
theorem dX10_findOrder_17 : decode cX10_findOrder 17 = .ok (.iload_n 2, 1) := de_1c tX10_findOrder_17
def tX10_findOrder_18 := Bt_1 (q := 18) tX10_findOrder_17 rfl
theorem dX10_findOrder_18 : decode cX10_findOrder 18 = .ok (.iadd, 1) := de_60 tX10_findOrder_18
def tX10_findOrder_19 := Bt_1 (q := 19) tX10_findOrder_18 rfl
theorem dX10_findOrder_19 : decode cX10_findOrder 19 = .ok (.istore_n 3, 1) := de_3e tX10_findOrder_19
def tX10_findOrder_20 := Bt_1 (q := 20) tX10_findOrder_19 rfl
theorem dX10_findOrder_20 : decode cX10_findOrder 20 = .ok (.aload_n 0, 1) := de_2a tX10_findOrder_20
def tX10_findOrder_21 := Bt_1 (q := 21) tX10_findOrder_20 rfl
theorem dX10_findOrder_21 : decode cX10_findOrder 21 = .ok (.iload_n 3, 1) := de_1d tX10_findOrder_21
def tX10_findOrder_22 := Bt_1 (q := 22) tX10_findOrder_21 rfl
theorem dX10_findOrder_22 : decode cX10_findOrder 22 = .ok (.invokevirtual 197, 3) := de_b6 tX10_findOrder_22 (by decide +kernel)
def tX10_findOrder_25 := Bt_3 (q := 25) tX10_findOrder_22 rfl
theorem dX10_findOrder_25 : decode cX10_findOrder 25 = .ok (.ifCond .eq 87, 3) := de_99 tX10_findOrder_25 (by decide +kernel)
def tX10_findOrder_28 := Bt_3 (q := 28) tX10_findOrder_25 rfl
theorem dX10_findOrder_28 : decode cX10_findOrder 28 = .ok (.aload_n 0, 1) := de_2a tX10_findOrder_28
def tX10_findOrder_29 := Bt_1 (q := 29) tX10_findOrder_28 rfl
theorem dX10_findOrder_29 : decode cX10_findOrder 29 = .ok (.iload_n 3, 1) := de_1d tX10_findOrder_29
def tX10_findOrder_30 := Bt_1 (q := 30) tX10_findOrder_29 rfl
theorem dX10_findOrder_30 : decode cX10_findOrder 30 = .ok (.iconst 0, 1) := de_03 tX10_findOrder_30
def tX10_findOrder_31 := Bt_1 (q := 31) tX10_findOrder_30 rfl
theorem dX10_findOrder_31 : decode cX10_findOrder 31 = .ok (.iconst (-1), 1) := de_02 tX10_findOrder_31
def tX10_findOrder_32 := Bt_1 (q := 32) tX10_findOrder_31 rfl
theorem dX10_findOrder_32 : decode cX10_findOrder 32 = .ok (.invokevirtual 312, 3) := de_b6 tX10_findOrder_32 (by decide +kernel)
def tX10_findOrder_35 := Bt_3 (q := 35) tX10_findOrder_32 rfl
theorem dX10_findOrder_35 : decode cX10_findOrder 35 = .ok (.ifCond .eq 77, 3) := de_99 tX10_findOrder_35 (by decide +kernel)
def tX10_findOrder_38 := Bt_3 (q := 38) tX10_findOrder_35 rfl
theorem dX10_findOrder_38 : decode cX10_findOrder 38 = .ok (.aload_n 0, 1) := de_2a tX10_findOrder_38
def tX10_findOrder_39 := Bt_1 (q := 39) tX10_findOrder_38 rfl
theorem dX10_findOrder_39 : decode cX10_findOrder 39 = .ok (.getfield 315, 3) := de_b4 tX10_findOrder_39 (by decide +kernel)
def tX10_findOrder_42 := Bt_3 (q := 42) tX10_findOrder_39 rfl
theorem dX10_findOrder_42 : decode cX10_findOrder 42 = .ok (.istore 4, 2) := de_36 tX10_findOrder_42 (by decide +kernel)
def tX10_findOrder_44 := Bt_2 (q := 44) tX10_findOrder_42 rfl
theorem dX10_findOrder_44 : decode cX10_findOrder 44 = .ok (.iload 4, 2) := de_15 tX10_findOrder_44 (by decide +kernel)
def tX10_findOrder_46 := Bt_2 (q := 46) tX10_findOrder_44 rfl
theorem dX10_findOrder_46 : decode cX10_findOrder 46 = .ok (.ifCond .le 48, 3) := de_9e tX10_findOrder_46 (by decide +kernel)
def tX10_findOrder_49 := Bt_3 (q := 49) tX10_findOrder_46 rfl
theorem dX10_findOrder_49 : decode cX10_findOrder 49 = .ok (.aload_n 0, 1) := de_2a tX10_findOrder_49
def tX10_findOrder_50 := Bt_1 (q := 50) tX10_findOrder_49 rfl
theorem dX10_findOrder_50 : decode cX10_findOrder 50 = .ok (.iload_n 3, 1) := de_1d tX10_findOrder_50
def tX10_findOrder_51 := Bt_1 (q := 51) tX10_findOrder_50 rfl
theorem dX10_findOrder_51 : decode cX10_findOrder 51 = .ok (.bipush 8, 2) := de_10 tX10_findOrder_51 (by decide +kernel)
def tX10_findOrder_53 := Bt_2 (q := 53) tX10_findOrder_51 rfl
theorem dX10_findOrder_53 : decode cX10_findOrder 53 = .ok (.iload_n 1, 1) := de_1b tX10_findOrder_53
def tX10_findOrder_54 := Bt_1 (q := 54) tX10_findOrder_53 rfl
theorem dX10_findOrder_54 : decode cX10_findOrder 54 = .ok (.imul, 1) := de_68 tX10_findOrder_54
def tX10_findOrder_55 := Bt_1 (q := 55) tX10_findOrder_54 rfl
theorem dX10_findOrder_55 : decode cX10_findOrder 55 = .ok (.aload_n 0, 1) := de_2a tX10_findOrder_55
def tX10_findOrder_56 := Bt_1 (q := 56) tX10_findOrder_55 rfl
theorem dX10_findOrder_56 : decode cX10_findOrder 56 = .ok (.getfield 76, 3) := de_b4 tX10_findOrder_56 (by decide +kernel)
def tX10_findOrder_59 := Bt_3 (q := 59) tX10_findOrder_56 rfl
theorem dX10_findOrder_59 : decode cX10_findOrder 59 = .ok (.iload 4, 2) := de_15 tX10_findOrder_59 (by decide +kernel)
def tX10_findOrder_61 := Bt_2 (q := 61) tX10_findOrder_59 rfl
theorem dX10_findOrder_61 : decode cX10_findOrder 61 = .ok (.iconst 1, 1) := de_04 tX10_findOrder_61
def tX10_findOrder_62 := Bt_1 (q := 62) tX10_findOrder_61 rfl
theorem dX10_findOrder_62 : decode cX10_findOrder 62 = .ok (.isub, 1) := de_64 tX10_findOrder_62
def tX10_findOrder_63 := Bt_1 (q := 63) tX10_findOrder_62 rfl
theorem dX10_findOrder_63 : decode cX10_findOrder 63 = .ok (.iaload, 1) := de_2e tX10_findOrder_63
def tX10_findOrder_64 := Bt_1 (q := 64) tX10_findOrder_63 rfl
theorem dX10_findOrder_64 : decode cX10_findOrder 64 = .ok (.iadd, 1) := de_60 tX10_findOrder_64
def tX10_findOrder_65 := Bt_1 (q := 65) tX10_findOrder_64 rfl
theorem dX10_findOrder_65 : decode cX10_findOrder 65 = .ok (.iconst (-1), 1) := de_02 tX10_findOrder_65
def tX10_findOrder_66 := Bt_1 (q := 66) tX10_findOrder_65 rfl
theorem dX10_findOrder_66 : decode cX10_findOrder 66 = .ok (.invokevirtual 318, 3) := de_b6 tX10_findOrder_66 (by decide +kernel)
def tX10_findOrder_69 := Bt_3 (q := 69) tX10_findOrder_66 rfl
theorem dX10_findOrder_69 : decode cX10_findOrder 69 = .ok (.ifCond .eq 25, 3) := de_99 tX10_findOrder_69 (by decide +kernel)
def tX10_findOrder_72 := Bt_3 (q := 72) tX10_findOrder_69 rfl
theorem dX10_findOrder_72 : decode cX10_findOrder 72 = .ok (.aload_n 0, 1) := de_2a tX10_findOrder_72
def tX10_findOrder_73 := Bt_1 (q := 73) tX10_findOrder_72 rfl
theorem dX10_findOrder_73 : decode cX10_findOrder 73 = .ok (.getfield 76, 3) := de_b4 tX10_findOrder_73 (by decide +kernel)
def tX10_findOrder_76 := Bt_3 (q := 76) tX10_findOrder_73 rfl
theorem dX10_findOrder_76 : decode cX10_findOrder 76 = .ok (.iload 4, 2) := de_15 tX10_findOrder_76 (by decide +kernel)
def tX10_findOrder_78 := Bt_2 (q := 78) tX10_findOrder_76 rfl
theorem dX10_findOrder_78 : decode cX10_findOrder 78 = .ok (.aload_n 0, 1) := de_2a tX10_findOrder_78
def tX10_findOrder_79 := Bt_1 (q := 79) tX10_findOrder_78 rfl
theorem dX10_findOrder_79 : decode cX10_findOrder 79 = .ok (.getfield 76, 3) := de_b4 tX10_findOrder_79 (by decide +kernel)
def tX10_findOrder_82 := Bt_3 (q := 82) tX10_findOrder_79 rfl
theorem dX10_findOrder_82 : decode cX10_findOrder 82 = .ok (.iload 4, 2) := de_15 tX10_findOrder_82 (by decide +kernel)
def tX10_findOrder_84 := Bt_2 (q := 84) tX10_findOrder_82 rfl
theorem dX10_findOrder_84 : decode cX10_findOrder 84 = .ok (.iconst 1, 1) := de_04 tX10_findOrder_84
def tX10_findOrder_85 := Bt_1 (q := 85) tX10_findOrder_84 rfl
theorem dX10_findOrder_85 : decode cX10_findOrder 85 = .ok (.isub, 1) := de_64 tX10_findOrder_85
def tX10_findOrder_86 := Bt_1 (q := 86) tX10_findOrder_85 rfl
theorem dX10_findOrder_86 : decode cX10_findOrder 86 = .ok (.iaload, 1) := de_2e tX10_findOrder_86
def tX10_findOrder_87 := Bt_1 (q := 87) tX10_findOrder_86 rfl
theorem dX10_findOrder_87 : decode cX10_findOrder 87 = .ok (.iastore, 1) := de_4f tX10_findOrder_87
def tX10_findOrder_88 := Bt_1 (q := 88) tX10_findOrder_87 rfl
theorem dX10_findOrder_88 : decode cX10_findOrder 88 = .ok (.iinc 4 (-1), 3) := de_84 tX10_findOrder_88 (by decide +kernel) (by decide +kernel)
def tX10_findOrder_91 := Bt_3 (q := 91) tX10_findOrder_88 rfl
theorem dX10_findOrder_91 : decode cX10_findOrder 91 = .ok (.goto (-47), 3) := de_a7 tX10_findOrder_91 (by decide +kernel)
def tX10_findOrder_94 := Bt_3 (q := 94) tX10_findOrder_91 rfl
theorem dX10_findOrder_94 : decode cX10_findOrder 94 = .ok (.aload_n 0, 1) := de_2a tX10_findOrder_94
def tX10_findOrder_95 := Bt_1 (q := 95) tX10_findOrder_94 rfl
theorem dX10_findOrder_95 : decode cX10_findOrder 95 = .ok (.getfield 76, 3) := de_b4 tX10_findOrder_95 (by decide +kernel)
def tX10_findOrder_98 := Bt_3 (q := 98) tX10_findOrder_95 rfl
theorem dX10_findOrder_98 : decode cX10_findOrder 98 = .ok (.iload 4, 2) := de_15 tX10_findOrder_98 (by decide +kernel)
def tX10_findOrder_100 := Bt_2 (q := 100) tX10_findOrder_98 rfl
theorem dX10_findOrder_100 : decode cX10_findOrder 100 = .ok (.iload_n 2, 1) := de_1c tX10_findOrder_100
def tX10_findOrder_101 := Bt_1 (q := 101) tX10_findOrder_100 rfl
theorem dX10_findOrder_101 : decode cX10_findOrder 101 = .ok (.iastore, 1) := de_4f tX10_findOrder_101
def tX10_findOrder_102 := Bt_1 (q := 102) tX10_findOrder_101 rfl
theorem dX10_findOrder_102 : decode cX10_findOrder 102 = .ok (.aload_n 0, 1) := de_2a tX10_findOrder_102
def tX10_findOrder_103 := Bt_1 (q := 103) tX10_findOrder_102 rfl
theorem dX10_findOrder_103 : decode cX10_findOrder 103 = .ok (.dup, 1) := de_59 tX10_findOrder_103
def tX10_findOrder_104 := Bt_1 (q := 104) tX10_findOrder_103 rfl
theorem dX10_findOrder_104 : decode cX10_findOrder 104 = .ok (.getfield 315, 3) := de_b4 tX10_findOrder_104 (by decide +kernel)
def tX10_findOrder_107 := Bt_3 (q := 107) tX10_findOrder_104 rfl
theorem dX10_findOrder_107 : decode cX10_findOrder 107 = .ok (.iconst 1, 1) := de_04 tX10_findOrder_107
def tX10_findOrder_108 := Bt_1 (q := 108) tX10_findOrder_107 rfl
theorem dX10_findOrder_108 : decode cX10_findOrder 108 = .ok (.iadd, 1) := de_60 tX10_findOrder_108
def tX10_findOrder_109 := Bt_1 (q := 109) tX10_findOrder_108 rfl
theorem dX10_findOrder_109 : decode cX10_findOrder 109 = .ok (.putfield 315, 3) := de_b5 tX10_findOrder_109 (by decide +kernel)
def tX10_findOrder_112 := Bt_3 (q := 112) tX10_findOrder_109 rfl
theorem dX10_findOrder_112 : decode cX10_findOrder 112 = .ok (.iinc 2 1, 3) := de_84 tX10_findOrder_112 (by decide +kernel) (by decide +kernel)
def tX10_findOrder_115 := Bt_3 (q := 115) tX10_findOrder_112 rfl
theorem dX10_findOrder_115 : decode cX10_findOrder 115 = .ok (.goto (-108), 3) := de_a7 tX10_findOrder_115 (by decide +kernel)
def tX10_findOrder_118 := Bt_3 (q := 118) tX10_findOrder_115 rfl
theorem dX10_findOrder_118 : decode cX10_findOrder 118 = .ok (.return_, 1) := de_b1 tX10_findOrder_118
def tX10_order_0 := Bt_0 cX10_order
theorem dX10_order_0 : decode cX10_order 0 = .ok (.aload_n 0, 1) := de_2a tX10_order_0
def tX10_order_1 := Bt_1 (q := 1) tX10_order_0 rfl
theorem dX10_order_1 : decode cX10_order 1 = .ok (.iload_n 1, 1) := de_1b tX10_order_1
def tX10_order_2 := Bt_1 (q := 2) tX10_order_1 rfl
theorem dX10_order_2 : decode cX10_order 2 = .ok (.invokevirtual 170, 3) := de_b6 tX10_order_2 (by decide +kernel)
def tX10_order_5 := Bt_3 (q := 5) tX10_order_2 rfl
theorem dX10_order_5 : decode cX10_order 5 = .ok (.ifCond .ne 9, 3) := de_9a tX10_order_5 (by decide +kernel)
def tX10_order_8 := Bt_3 (q := 8) tX10_order_5 rfl
theorem dX10_order_8 : decode cX10_order 8 = .ok (.aload_n 0, 1) := de_2a tX10_order_8
def tX10_order_9 := Bt_1 (q := 9) tX10_order_8 rfl
theorem dX10_order_9 : decode cX10_order 9 = .ok (.iconst (-1), 1) := de_02 tX10_order_9
def tX10_order_10 := Bt_1 (q := 10) tX10_order_9 rfl
theorem dX10_order_10 : decode cX10_order 10 = .ok (.invokevirtual 151, 3) := de_b6 tX10_order_10 (by decide +kernel)
def tX10_order_13 := Bt_3 (q := 13) tX10_order_10 rfl
theorem dX10_order_13 : decode cX10_order 13 = .ok (.ireturn, 1) := de_ac tX10_order_13
def tX10_order_14 := Bt_1 (q := 14) tX10_order_13 rfl
theorem dX10_order_14 : decode cX10_order 14 = .ok (.aload_n 0, 1) := de_2a tX10_order_14
def tX10_order_15 := Bt_1 (q := 15) tX10_order_14 rfl
theorem dX10_order_15 : decode cX10_order 15 = .ok (.iload_n 1, 1) := de_1b tX10_order_15
def tX10_order_16 := Bt_1 (q := 16) tX10_order_15 rfl
theorem dX10_order_16 : decode cX10_order 16 = .ok (.invokevirtual 321, 3) := de_b6 tX10_order_16 (by decide +kernel)
def tX10_order_19 := Bt_3 (q := 19) tX10_order_16 rfl
theorem dX10_order_19 : decode cX10_order 19 = .ok (.iload_n 2, 1) := de_1c tX10_order_19
def tX10_order_20 := Bt_1 (q := 20) tX10_order_19 rfl
theorem dX10_order_20 : decode cX10_order 20 = .ok (.iconst 0, 1) := de_03 tX10_order_20
def tX10_order_21 := Bt_1 (q := 21) tX10_order_20 rfl
theorem dX10_order_21 : decode cX10_order 21 = .ok (.aload_n 0, 1) := de_2a tX10_order_21
def tX10_order_22 := Bt_1 (q := 22) tX10_order_21 rfl
theorem dX10_order_22 : decode cX10_order 22 = .ok (.getfield 315, 3) := de_b4 tX10_order_22 (by decide +kernel)
def tX10_order_25 := Bt_3 (q := 25) tX10_order_22 rfl
theorem dX10_order_25 : decode cX10_order 25 = .ok (.iconst 1, 1) := de_04 tX10_order_25
def tX10_order_26 := Bt_1 (q := 26) tX10_order_25 rfl
theorem dX10_order_26 : decode cX10_order 26 = .ok (.isub, 1) := de_64 tX10_order_26
def tX10_order_27 := Bt_1 (q := 27) tX10_order_26 rfl
theorem dX10_order_27 : decode cX10_order 27 = .ok (.invokestatic 144, 3) := de_b8 tX10_order_27 (by decide +kernel)
def tX10_order_30 := Bt_3 (q := 30) tX10_order_27 rfl
theorem dX10_order_30 : decode cX10_order 30 = .ok (.ifCond .eq 12, 3) := de_99 tX10_order_30 (by decide +kernel)
def tX10_order_33 := Bt_3 (q := 33) tX10_order_30 rfl
theorem dX10_order_33 : decode cX10_order 33 = .ok (.aload_n 0, 1) := de_2a tX10_order_33
def tX10_order_34 := Bt_1 (q := 34) tX10_order_33 rfl
theorem dX10_order_34 : decode cX10_order 34 = .ok (.getfield 76, 3) := de_b4 tX10_order_34 (by decide +kernel)
def tX10_order_37 := Bt_3 (q := 37) tX10_order_34 rfl
theorem dX10_order_37 : decode cX10_order 37 = .ok (.iload_n 2, 1) := de_1c tX10_order_37
def tX10_order_38 := Bt_1 (q := 38) tX10_order_37 rfl
theorem dX10_order_38 : decode cX10_order 38 = .ok (.iaload, 1) := de_2e tX10_order_38
def tX10_order_39 := Bt_1 (q := 39) tX10_order_38 rfl
theorem dX10_order_39 : decode cX10_order 39 = .ok (.goto 5, 3) := de_a7 tX10_order_39 (by decide +kernel)
def tX10_order_42 := Bt_3 (q := 42) tX10_order_39 rfl
theorem dX10_order_42 : decode cX10_order 42 = .ok (.bipush (-9), 2) := de_10 tX10_order_42 (by decide +kernel)
def tX10_order_44 := Bt_2 (q := 44) tX10_order_42 rfl
theorem dX10_order_44 : decode cX10_order 44 = .ok (.ireturn, 1) := de_ac tX10_order_44
def tX10_gain_0 := Bt_0 cX10_gain
theorem dX10_gain_0 : decode cX10_gain 0 = .ok (.iload_n 1, 1) := de_1b tX10_gain_0
def tX10_gain_1 := Bt_1 (q := 1) tX10_gain_0 rfl
theorem dX10_gain_1 : decode cX10_gain 1 = .ok (.invokestatic 166, 3) := de_b8 tX10_gain_1 (by decide +kernel)
def tX10_gain_4 := Bt_3 (q := 4) tX10_gain_1 rfl
theorem dX10_gain_4 : decode cX10_gain 4 = .ok (.ifCond .eq 11, 3) := de_99 tX10_gain_4 (by decide +kernel)
def tX10_gain_7 := Bt_3 (q := 7) tX10_gain_4 rfl
theorem dX10_gain_7 : decode cX10_gain 7 = .ok (.aload_n 0, 1) := de_2a tX10_gain_7
def tX10_gain_8 := Bt_1 (q := 8) tX10_gain_7 rfl
theorem dX10_gain_8 : decode cX10_gain 8 = .ok (.iload_n 2, 1) := de_1c tX10_gain_8
def tX10_gain_9 := Bt_1 (q := 9) tX10_gain_8 rfl
theorem dX10_gain_9 : decode cX10_gain 9 = .ok (.invokevirtual 170, 3) := de_b6 tX10_gain_9 (by decide +kernel)
def tX10_gain_12 := Bt_3 (q := 12) tX10_gain_9 rfl
theorem dX10_gain_12 : decode cX10_gain 12 = .ok (.ifCond .ne 9, 3) := de_9a tX10_gain_12 (by decide +kernel)
def tX10_gain_15 := Bt_3 (q := 15) tX10_gain_12 rfl
theorem dX10_gain_15 : decode cX10_gain 15 = .ok (.aload_n 0, 1) := de_2a tX10_gain_15
def tX10_gain_16 := Bt_1 (q := 16) tX10_gain_15 rfl
theorem dX10_gain_16 : decode cX10_gain 16 = .ok (.iconst (-1), 1) := de_02 tX10_gain_16
def tX10_gain_17 := Bt_1 (q := 17) tX10_gain_16 rfl
theorem dX10_gain_17 : decode cX10_gain 17 = .ok (.invokevirtual 308, 3) := de_b6 tX10_gain_17 (by decide +kernel)
def tX10_gain_20 := Bt_3 (q := 20) tX10_gain_17 rfl
theorem dX10_gain_20 : decode cX10_gain 20 = .ok (.lreturn, 1) := de_ad tX10_gain_20
def tX10_gain_21 := Bt_1 (q := 21) tX10_gain_20 rfl
theorem dX10_gain_21 : decode cX10_gain 21 = .ok (.iload 4, 2) := de_15 tX10_gain_21 (by decide +kernel)
def tX10_gain_23 := Bt_2 (q := 23) tX10_gain_21 rfl
theorem dX10_gain_23 : decode cX10_gain 23 = .ok (.iconst 0, 1) := de_03 tX10_gain_23
def tX10_gain_24 := Bt_1 (q := 24) tX10_gain_23 rfl
theorem dX10_gain_24 : decode cX10_gain 24 = .ok (.iconst 1, 1) := de_04 tX10_gain_24
def tX10_gain_25 := Bt_1 (q := 25) tX10_gain_24 rfl
theorem dX10_gain_25 : decode cX10_gain 25 = .ok (.invokestatic 144, 3) := de_b8 tX10_gain_25 (by decide +kernel)
def tX10_gain_28 := Bt_3 (q := 28) tX10_gain_25 rfl
theorem dX10_gain_28 : decode cX10_gain 28 = .ok (.ifCond .ne 10, 3) := de_9a tX10_gain_28 (by decide +kernel)
def tX10_gain_31 := Bt_3 (q := 31) tX10_gain_28 rfl
theorem dX10_gain_31 : decode cX10_gain 31 = .ok (.aload_n 0, 1) := de_2a tX10_gain_31
def tX10_gain_32 := Bt_1 (q := 32) tX10_gain_31 rfl
theorem dX10_gain_32 : decode cX10_gain 32 = .ok (.bipush (-2), 2) := de_10 tX10_gain_32 (by decide +kernel)
def tX10_gain_34 := Bt_2 (q := 34) tX10_gain_32 rfl
theorem dX10_gain_34 : decode cX10_gain 34 = .ok (.invokevirtual 308, 3) := de_b6 tX10_gain_34 (by decide +kernel)
def tX10_gain_37 := Bt_3 (q := 37) tX10_gain_34 rfl
theorem dX10_gain_37 : decode cX10_gain 37 = .ok (.lreturn, 1) := de_ad tX10_gain_37
def tX10_gain_38 := Bt_1 (q := 38) tX10_gain_37 rfl
theorem dX10_gain_38 : decode cX10_gain 38 = .ok (.aload_n 0, 1) := de_2a tX10_gain_38
def tX10_gain_39 := Bt_1 (q := 39) tX10_gain_38 rfl
theorem dX10_gain_39 : decode cX10_gain 39 = .ok (.iload_n 1, 1) := de_1b tX10_gain_39
def tX10_gain_40 := Bt_1 (q := 40) tX10_gain_39 rfl
theorem dX10_gain_40 : decode cX10_gain 40 = .ok (.iload_n 2, 1) := de_1c tX10_gain_40
def tX10_gain_41 := Bt_1 (q := 41) tX10_gain_40 rfl
theorem dX10_gain_41 : decode cX10_gain 41 = .ok (.invokevirtual 203, 3) := de_b6 tX10_gain_41 (by decide +kernel)
def tX10_gain_44 := Bt_3 (q := 44) tX10_gain_41 rfl
theorem dX10_gain_44 : decode cX10_gain 44 = .ok (.ifCond .ge 10, 3) := de_9c tX10_gain_44 (by decide +kernel)
def tX10_gain_47 := Bt_3 (q := 47) tX10_gain_44 rfl
theorem dX10_gain_47 : decode cX10_gain 47 = .ok (.aload_n 0, 1) := de_2a tX10_gain_47
def tX10_gain_48 := Bt_1 (q := 48) tX10_gain_47 rfl
theorem dX10_gain_48 : decode cX10_gain 48 = .ok (.bipush (-5), 2) := de_10 tX10_gain_48 (by decide +kernel)
def tX10_gain_50 := Bt_2 (q := 50) tX10_gain_48 rfl
theorem dX10_gain_50 : decode cX10_gain 50 = .ok (.invokevirtual 308, 3) := de_b6 tX10_gain_50 (by decide +kernel)
def tX10_gain_53 := Bt_3 (q := 53) tX10_gain_50 rfl
theorem dX10_gain_53 : decode cX10_gain 53 = .ok (.lreturn, 1) := de_ad tX10_gain_53
def tX10_gain_54 := Bt_1 (q := 54) tX10_gain_53 rfl
theorem dX10_gain_54 : decode cX10_gain 54 = .ok (.iload_n 3, 1) := de_1d tX10_gain_54
def tX10_gain_55 := Bt_1 (q := 55) tX10_gain_54 rfl
theorem dX10_gain_55 : decode cX10_gain 55 = .ok (.iconst 1, 1) := de_04 tX10_gain_55
def tX10_gain_56 := Bt_1 (q := 56) tX10_gain_55 rfl
theorem dX10_gain_56 : decode cX10_gain 56 = .ok (.if_icmp .ge 10, 3) := de_a2 tX10_gain_56 (by decide +kernel)
def tX10_gain_59 := Bt_3 (q := 59) tX10_gain_56 rfl
theorem dX10_gain_59 : decode cX10_gain 59 = .ok (.aload_n 0, 1) := de_2a tX10_gain_59
def tX10_gain_60 := Bt_1 (q := 60) tX10_gain_59 rfl
theorem dX10_gain_60 : decode cX10_gain 60 = .ok (.bipush (-4), 2) := de_10 tX10_gain_60 (by decide +kernel)
def tX10_gain_62 := Bt_2 (q := 62) tX10_gain_60 rfl
theorem dX10_gain_62 : decode cX10_gain 62 = .ok (.invokevirtual 308, 3) := de_b6 tX10_gain_62 (by decide +kernel)
def tX10_gain_65 := Bt_3 (q := 65) tX10_gain_62 rfl
theorem dX10_gain_65 : decode cX10_gain 65 = .ok (.lreturn, 1) := de_ad tX10_gain_65
def tX10_gain_66 := Bt_1 (q := 66) tX10_gain_65 rfl
theorem dX10_gain_66 : decode cX10_gain 66 = .ok (.iload_n 3, 1) := de_1d tX10_gain_66
def tX10_gain_67 := Bt_1 (q := 67) tX10_gain_66 rfl
theorem dX10_gain_67 : decode cX10_gain 67 = .ok (.ldc 165, 2) := de_12 tX10_gain_67 (by decide +kernel)
def tX10_gain_69 := Bt_2 (q := 69) tX10_gain_67 rfl
theorem dX10_gain_69 : decode cX10_gain 69 = .ok (.if_icmp .le 10, 3) := de_a4 tX10_gain_69 (by decide +kernel)
def tX10_gain_72 := Bt_3 (q := 72) tX10_gain_69 rfl
theorem dX10_gain_72 : decode cX10_gain 72 = .ok (.aload_n 0, 1) := de_2a tX10_gain_72
def tX10_gain_73 := Bt_1 (q := 73) tX10_gain_72 rfl
theorem dX10_gain_73 : decode cX10_gain 73 = .ok (.bipush (-6), 2) := de_10 tX10_gain_73 (by decide +kernel)
def tX10_gain_75 := Bt_2 (q := 75) tX10_gain_73 rfl
theorem dX10_gain_75 : decode cX10_gain 75 = .ok (.invokevirtual 308, 3) := de_b6 tX10_gain_75 (by decide +kernel)
def tX10_gain_78 := Bt_3 (q := 78) tX10_gain_75 rfl
theorem dX10_gain_78 : decode cX10_gain 78 = .ok (.lreturn, 1) := de_ad tX10_gain_78
def tX10_gain_79 := Bt_1 (q := 79) tX10_gain_78 rfl
theorem dX10_gain_79 : decode cX10_gain 79 = .ok (.aload_n 0, 1) := de_2a tX10_gain_79
def tX10_gain_80 := Bt_1 (q := 80) tX10_gain_79 rfl
theorem dX10_gain_80 : decode cX10_gain 80 = .ok (.bipush 8, 2) := de_10 tX10_gain_80 (by decide +kernel)
def tX10_gain_82 := Bt_2 (q := 82) tX10_gain_80 rfl
theorem dX10_gain_82 : decode cX10_gain 82 = .ok (.iload_n 2, 1) := de_1c tX10_gain_82
def tX10_gain_83 := Bt_1 (q := 83) tX10_gain_82 rfl
theorem dX10_gain_83 : decode cX10_gain 83 = .ok (.imul, 1) := de_68 tX10_gain_83
def tX10_gain_84 := Bt_1 (q := 84) tX10_gain_83 rfl
theorem dX10_gain_84 : decode cX10_gain 84 = .ok (.iload_n 1, 1) := de_1b tX10_gain_84
def tX10_gain_85 := Bt_1 (q := 85) tX10_gain_84 rfl
theorem dX10_gain_85 : decode cX10_gain 85 = .ok (.iadd, 1) := de_60 tX10_gain_85
def tX10_gain_86 := Bt_1 (q := 86) tX10_gain_85 rfl
theorem dX10_gain_86 : decode cX10_gain 86 = .ok (.iconst 0, 1) := de_03 tX10_gain_86
def tX10_gain_87 := Bt_1 (q := 87) tX10_gain_86 rfl
theorem dX10_gain_87 : decode cX10_gain 87 = .ok (.iconst (-1), 1) := de_02 tX10_gain_87
def tX10_gain_88 := Bt_1 (q := 88) tX10_gain_87 rfl
theorem dX10_gain_88 : decode cX10_gain 88 = .ok (.invokevirtual 312, 3) := de_b6 tX10_gain_88 (by decide +kernel)
def tX10_gain_91 := Bt_3 (q := 91) tX10_gain_88 rfl
theorem dX10_gain_91 : decode cX10_gain 91 = .ok (.istore 5, 2) := de_36 tX10_gain_91 (by decide +kernel)
def tX10_gain_93 := Bt_2 (q := 93) tX10_gain_91 rfl
theorem dX10_gain_93 : decode cX10_gain 93 = .ok (.aload_n 0, 1) := de_2a tX10_gain_93
def tX10_gain_94 := Bt_1 (q := 94) tX10_gain_93 rfl
theorem dX10_gain_94 : decode cX10_gain 94 = .ok (.getfield 301, 3) := de_b4 tX10_gain_94 (by decide +kernel)
def tX10_gain_97 := Bt_3 (q := 97) tX10_gain_94 rfl
theorem dX10_gain_97 : decode cX10_gain 97 = .ok (.lstore 6, 2) := de_37 tX10_gain_97 (by decide +kernel)
def tX10_gain_99 := Bt_2 (q := 99) tX10_gain_97 rfl
theorem dX10_gain_99 : decode cX10_gain 99 = .ok (.aload_n 0, 1) := de_2a tX10_gain_99
def tX10_gain_100 := Bt_1 (q := 100) tX10_gain_99 rfl
theorem dX10_gain_100 : decode cX10_gain 100 = .ok (.getfield 305, 3) := de_b4 tX10_gain_100 (by decide +kernel)
def tX10_gain_103 := Bt_3 (q := 103) tX10_gain_100 rfl
theorem dX10_gain_103 : decode cX10_gain 103 = .ok (.lstore 8, 2) := de_37 tX10_gain_103 (by decide +kernel)
def tX10_gain_105 := Bt_2 (q := 105) tX10_gain_103 rfl
theorem dX10_gain_105 : decode cX10_gain 105 = .ok (.iload 5, 2) := de_15 tX10_gain_105 (by decide +kernel)
def tX10_gain_107 := Bt_2 (q := 107) tX10_gain_105 rfl
theorem dX10_gain_107 : decode cX10_gain 107 = .ok (.ifCond .eq 18, 3) := de_99 tX10_gain_107 (by decide +kernel)
def tX10_gain_110 := Bt_3 (q := 110) tX10_gain_107 rfl
theorem dX10_gain_110 : decode cX10_gain 110 = .ok (.aload_n 0, 1) := de_2a tX10_gain_110
def tX10_gain_111 := Bt_1 (q := 111) tX10_gain_110 rfl
theorem dX10_gain_111 : decode cX10_gain 111 = .ok (.bipush 8, 2) := de_10 tX10_gain_111 (by decide +kernel)
def tX10_gain_113 := Bt_2 (q := 113) tX10_gain_111 rfl
theorem dX10_gain_113 : decode cX10_gain 113 = .ok (.iload_n 2, 1) := de_1c tX10_gain_113
def tX10_gain_114 := Bt_1 (q := 114) tX10_gain_113 rfl
theorem dX10_gain_114 : decode cX10_gain 114 = .ok (.imul, 1) := de_68 tX10_gain_114
def tX10_gain_115 := Bt_1 (q := 115) tX10_gain_114 rfl
theorem dX10_gain_115 : decode cX10_gain 115 = .ok (.iload_n 1, 1) := de_1b tX10_gain_115
def tX10_gain_116 := Bt_1 (q := 116) tX10_gain_115 rfl
theorem dX10_gain_116 : decode cX10_gain 116 = .ok (.iadd, 1) := de_60 tX10_gain_116
def tX10_gain_117 := Bt_1 (q := 117) tX10_gain_116 rfl
theorem dX10_gain_117 : decode cX10_gain 117 = .ok (.iload_n 3, 1) := de_1d tX10_gain_117
def tX10_gain_118 := Bt_1 (q := 118) tX10_gain_117 rfl
theorem dX10_gain_118 : decode cX10_gain 118 = .ok (.iconst (-1), 1) := de_02 tX10_gain_118
def tX10_gain_119 := Bt_1 (q := 119) tX10_gain_118 rfl
theorem dX10_gain_119 : decode cX10_gain 119 = .ok (.invokevirtual 312, 3) := de_b6 tX10_gain_119 (by decide +kernel)
def tX10_gain_122 := Bt_3 (q := 122) tX10_gain_119 rfl
theorem dX10_gain_122 : decode cX10_gain 122 = .ok (.ifCond .ne 10, 3) := de_9a tX10_gain_122 (by decide +kernel)
def tX10_gain_125 := Bt_3 (q := 125) tX10_gain_122 rfl
theorem dX10_gain_125 : decode cX10_gain 125 = .ok (.aload_n 0, 1) := de_2a tX10_gain_125
def tX10_gain_126 := Bt_1 (q := 126) tX10_gain_125 rfl
theorem dX10_gain_126 : decode cX10_gain 126 = .ok (.bipush (-7), 2) := de_10 tX10_gain_126 (by decide +kernel)
def tX10_gain_128 := Bt_2 (q := 128) tX10_gain_126 rfl
theorem dX10_gain_128 : decode cX10_gain 128 = .ok (.invokevirtual 308, 3) := de_b6 tX10_gain_128 (by decide +kernel)
def tX10_gain_131 := Bt_3 (q := 131) tX10_gain_128 rfl
theorem dX10_gain_131 : decode cX10_gain 131 = .ok (.lreturn, 1) := de_ad tX10_gain_131
def tX10_gain_132 := Bt_1 (q := 132) tX10_gain_131 rfl
theorem dX10_gain_132 : decode cX10_gain 132 = .ok (.aload_n 0, 1) := de_2a tX10_gain_132
def tX10_gain_133 := Bt_1 (q := 133) tX10_gain_132 rfl
theorem dX10_gain_133 : decode cX10_gain 133 = .ok (.getfield 301, 3) := de_b4 tX10_gain_133 (by decide +kernel)
def tX10_gain_136 := Bt_3 (q := 136) tX10_gain_133 rfl
theorem dX10_gain_136 : decode cX10_gain 136 = .ok (.lload 8, 2) := de_16 tX10_gain_136 (by decide +kernel)
def tX10_gain_138 := Bt_2 (q := 138) tX10_gain_136 rfl
theorem dX10_gain_138 : decode cX10_gain 138 = .ok (.lmul, 1) := de_69 tX10_gain_138
def tX10_gain_139 := Bt_1 (q := 139) tX10_gain_138 rfl
theorem dX10_gain_139 : decode cX10_gain 139 = .ok (.lload 6, 2) := de_16 tX10_gain_139 (by decide +kernel)
def tX10_gain_141 := Bt_2 (q := 141) tX10_gain_139 rfl
theorem dX10_gain_141 : decode cX10_gain 141 = .ok (.aload_n 0, 1) := de_2a tX10_gain_141
def tX10_gain_142 := Bt_1 (q := 142) tX10_gain_141 rfl
theorem dX10_gain_142 : decode cX10_gain 142 = .ok (.getfield 305, 3) := de_b4 tX10_gain_142 (by decide +kernel)
def tX10_gain_145 := Bt_3 (q := 145) tX10_gain_142 rfl
theorem dX10_gain_145 : decode cX10_gain 145 = .ok (.lmul, 1) := de_69 tX10_gain_145
def tX10_gain_146 := Bt_1 (q := 146) tX10_gain_145 rfl
theorem dX10_gain_146 : decode cX10_gain 146 = .ok (.lsub, 1) := de_65 tX10_gain_146
def tX10_gain_147 := Bt_1 (q := 147) tX10_gain_146 rfl
theorem dX10_gain_147 : decode cX10_gain 147 = .ok (.lstore 10, 2) := de_37 tX10_gain_147 (by decide +kernel)
def tX10_gain_149 := Bt_2 (q := 149) tX10_gain_147 rfl
theorem dX10_gain_149 : decode cX10_gain 149 = .ok (.aload_n 0, 1) := de_2a tX10_gain_149
def tX10_gain_150 := Bt_1 (q := 150) tX10_gain_149 rfl
theorem dX10_gain_150 : decode cX10_gain 150 = .ok (.getfield 305, 3) := de_b4 tX10_gain_150 (by decide +kernel)
def tX10_gain_153 := Bt_3 (q := 153) tX10_gain_150 rfl
theorem dX10_gain_153 : decode cX10_gain 153 = .ok (.lload 8, 2) := de_16 tX10_gain_153 (by decide +kernel)
def tX10_gain_155 := Bt_2 (q := 155) tX10_gain_153 rfl
theorem dX10_gain_155 : decode cX10_gain 155 = .ok (.lmul, 1) := de_69 tX10_gain_155
def tX10_gain_156 := Bt_1 (q := 156) tX10_gain_155 rfl
theorem dX10_gain_156 : decode cX10_gain 156 = .ok (.lstore 12, 2) := de_37 tX10_gain_156 (by decide +kernel)
def tX10_gain_158 := Bt_2 (q := 158) tX10_gain_156 rfl
theorem dX10_gain_158 : decode cX10_gain 158 = .ok (.lload 10, 2) := de_16 tX10_gain_158 (by decide +kernel)
def tX10_gain_160 := Bt_2 (q := 160) tX10_gain_158 rfl
theorem dX10_gain_160 : decode cX10_gain 160 = .ok (.lload 12, 2) := de_16 tX10_gain_160 (by decide +kernel)
def tX10_gain_162 := Bt_2 (q := 162) tX10_gain_160 rfl
theorem dX10_gain_162 : decode cX10_gain 162 = .ok (.invokestatic 219, 3) := de_b8 tX10_gain_162 (by decide +kernel)
def tX10_gain_165 := Bt_3 (q := 165) tX10_gain_162 rfl
theorem dX10_gain_165 : decode cX10_gain 165 = .ok (.lstore 14, 2) := de_37 tX10_gain_165 (by decide +kernel)
def tX10_gain_167 := Bt_2 (q := 167) tX10_gain_165 rfl
theorem dX10_gain_167 : decode cX10_gain 167 = .ok (.iload 4, 2) := de_15 tX10_gain_167 (by decide +kernel)
def tX10_gain_169 := Bt_2 (q := 169) tX10_gain_167 rfl
theorem dX10_gain_169 : decode cX10_gain 169 = .ok (.ifCond .ne 11, 3) := de_9a tX10_gain_169 (by decide +kernel)
def tX10_gain_172 := Bt_3 (q := 172) tX10_gain_169 rfl
theorem dX10_gain_172 : decode cX10_gain 172 = .ok (.lload 10, 2) := de_16 tX10_gain_172 (by decide +kernel)
def tX10_gain_174 := Bt_2 (q := 174) tX10_gain_172 rfl
theorem dX10_gain_174 : decode cX10_gain 174 = .ok (.lload 14, 2) := de_16 tX10_gain_174 (by decide +kernel)
def tX10_gain_176 := Bt_2 (q := 176) tX10_gain_174 rfl
theorem dX10_gain_176 : decode cX10_gain 176 = .ok (.ldiv, 1) := de_6d tX10_gain_176
def tX10_gain_177 := Bt_1 (q := 177) tX10_gain_176 rfl
theorem dX10_gain_177 : decode cX10_gain 177 = .ok (.goto 8, 3) := de_a7 tX10_gain_177 (by decide +kernel)
def tX10_gain_180 := Bt_3 (q := 180) tX10_gain_177 rfl
theorem dX10_gain_180 : decode cX10_gain 180 = .ok (.lload 12, 2) := de_16 tX10_gain_180 (by decide +kernel)
def tX10_gain_182 := Bt_2 (q := 182) tX10_gain_180 rfl
theorem dX10_gain_182 : decode cX10_gain 182 = .ok (.lload 14, 2) := de_16 tX10_gain_182 (by decide +kernel)
def tX10_gain_184 := Bt_2 (q := 184) tX10_gain_182 rfl
theorem dX10_gain_184 : decode cX10_gain 184 = .ok (.ldiv, 1) := de_6d tX10_gain_184
def tX10_gain_185 := Bt_1 (q := 185) tX10_gain_184 rfl
theorem dX10_gain_185 : decode cX10_gain 185 = .ok (.lreturn, 1) := de_ad tX10_gain_185
def tX10_turned_0 := Bt_0 cX10_turned
theorem dX10_turned_0 : decode cX10_turned 0 = .ok (.aload_n 0, 1) := de_2a tX10_turned_0
def tX10_turned_1 := Bt_1 (q := 1) tX10_turned_0 rfl
theorem dX10_turned_1 : decode cX10_turned 1 = .ok (.iload_n 1, 1) := de_1b tX10_turned_1
def tX10_turned_2 := Bt_1 (q := 2) tX10_turned_1 rfl
theorem dX10_turned_2 : decode cX10_turned 2 = .ok (.invokevirtual 170, 3) := de_b6 tX10_turned_2 (by decide +kernel)
def tX10_turned_5 := Bt_3 (q := 5) tX10_turned_2 rfl
theorem dX10_turned_5 : decode cX10_turned 5 = .ok (.ifCond .eq 22, 3) := de_99 tX10_turned_5 (by decide +kernel)
def tX10_turned_8 := Bt_3 (q := 8) tX10_turned_5 rfl
theorem dX10_turned_8 : decode cX10_turned 8 = .ok (.iload_n 2, 1) := de_1c tX10_turned_8
def tX10_turned_9 := Bt_1 (q := 9) tX10_turned_8 rfl
theorem dX10_turned_9 : decode cX10_turned 9 = .ok (.invokestatic 166, 3) := de_b8 tX10_turned_9 (by decide +kernel)
def tX10_turned_12 := Bt_3 (q := 12) tX10_turned_9 rfl
theorem dX10_turned_12 : decode cX10_turned 12 = .ok (.ifCond .eq 15, 3) := de_99 tX10_turned_12 (by decide +kernel)
def tX10_turned_15 := Bt_3 (q := 15) tX10_turned_12 rfl
theorem dX10_turned_15 : decode cX10_turned 15 = .ok (.iload_n 3, 1) := de_1d tX10_turned_15
def tX10_turned_16 := Bt_1 (q := 16) tX10_turned_15 rfl
theorem dX10_turned_16 : decode cX10_turned 16 = .ok (.invokestatic 166, 3) := de_b8 tX10_turned_16 (by decide +kernel)
def tX10_turned_19 := Bt_3 (q := 19) tX10_turned_16 rfl
theorem dX10_turned_19 : decode cX10_turned 19 = .ok (.ifCond .eq 8, 3) := de_99 tX10_turned_19 (by decide +kernel)
def tX10_turned_22 := Bt_3 (q := 22) tX10_turned_19 rfl
theorem dX10_turned_22 : decode cX10_turned 22 = .ok (.iload_n 2, 1) := de_1c tX10_turned_22
def tX10_turned_23 := Bt_1 (q := 23) tX10_turned_22 rfl
theorem dX10_turned_23 : decode cX10_turned 23 = .ok (.iload_n 3, 1) := de_1d tX10_turned_23
def tX10_turned_24 := Bt_1 (q := 24) tX10_turned_23 rfl
theorem dX10_turned_24 : decode cX10_turned 24 = .ok (.if_icmp .ne 9, 3) := de_a0 tX10_turned_24 (by decide +kernel)
def tX10_turned_27 := Bt_3 (q := 27) tX10_turned_24 rfl
theorem dX10_turned_27 : decode cX10_turned 27 = .ok (.aload_n 0, 1) := de_2a tX10_turned_27
def tX10_turned_28 := Bt_1 (q := 28) tX10_turned_27 rfl
theorem dX10_turned_28 : decode cX10_turned 28 = .ok (.iconst (-1), 1) := de_02 tX10_turned_28
def tX10_turned_29 := Bt_1 (q := 29) tX10_turned_28 rfl
theorem dX10_turned_29 : decode cX10_turned 29 = .ok (.invokevirtual 151, 3) := de_b6 tX10_turned_29 (by decide +kernel)
def tX10_turned_32 := Bt_3 (q := 32) tX10_turned_29 rfl
theorem dX10_turned_32 : decode cX10_turned 32 = .ok (.ireturn, 1) := de_ac tX10_turned_32
def tX10_turned_33 := Bt_1 (q := 33) tX10_turned_32 rfl
theorem dX10_turned_33 : decode cX10_turned 33 = .ok (.bipush 8, 2) := de_10 tX10_turned_33 (by decide +kernel)
def tX10_turned_35 := Bt_2 (q := 35) tX10_turned_33 rfl
theorem dX10_turned_35 : decode cX10_turned 35 = .ok (.iload_n 1, 1) := de_1b tX10_turned_35
def tX10_turned_36 := Bt_1 (q := 36) tX10_turned_35 rfl
theorem dX10_turned_36 : decode cX10_turned 36 = .ok (.imul, 1) := de_68 tX10_turned_36
def tX10_turned_37 := Bt_1 (q := 37) tX10_turned_36 rfl
theorem dX10_turned_37 : decode cX10_turned 37 = .ok (.iload_n 2, 1) := de_1c tX10_turned_37
def tX10_turned_38 := Bt_1 (q := 38) tX10_turned_37 rfl
theorem dX10_turned_38 : decode cX10_turned 38 = .ok (.iadd, 1) := de_60 tX10_turned_38
def tX10_turned_39 := Bt_1 (q := 39) tX10_turned_38 rfl
theorem dX10_turned_39 : decode cX10_turned 39 = .ok (.istore 4, 2) := de_36 tX10_turned_39 (by decide +kernel)
def tX10_turned_41 := Bt_2 (q := 41) tX10_turned_39 rfl
theorem dX10_turned_41 : decode cX10_turned 41 = .ok (.bipush 8, 2) := de_10 tX10_turned_41 (by decide +kernel)
def tX10_turned_43 := Bt_2 (q := 43) tX10_turned_41 rfl
theorem dX10_turned_43 : decode cX10_turned 43 = .ok (.iload_n 1, 1) := de_1b tX10_turned_43
def tX10_turned_44 := Bt_1 (q := 44) tX10_turned_43 rfl
theorem dX10_turned_44 : decode cX10_turned 44 = .ok (.imul, 1) := de_68 tX10_turned_44
def tX10_turned_45 := Bt_1 (q := 45) tX10_turned_44 rfl
theorem dX10_turned_45 : decode cX10_turned 45 = .ok (.iload_n 3, 1) := de_1d tX10_turned_45
def tX10_turned_46 := Bt_1 (q := 46) tX10_turned_45 rfl
theorem dX10_turned_46 : decode cX10_turned 46 = .ok (.iadd, 1) := de_60 tX10_turned_46
def tX10_turned_47 := Bt_1 (q := 47) tX10_turned_46 rfl
theorem dX10_turned_47 : decode cX10_turned 47 = .ok (.istore 5, 2) := de_36 tX10_turned_47 (by decide +kernel)
def tX10_turned_49 := Bt_2 (q := 49) tX10_turned_47 rfl
theorem dX10_turned_49 : decode cX10_turned 49 = .ok (.aload_n 0, 1) := de_2a tX10_turned_49
def tX10_turned_50 := Bt_1 (q := 50) tX10_turned_49 rfl
theorem dX10_turned_50 : decode cX10_turned 50 = .ok (.iload 4, 2) := de_15 tX10_turned_50 (by decide +kernel)
def tX10_turned_52 := Bt_2 (q := 52) tX10_turned_50 rfl
theorem dX10_turned_52 : decode cX10_turned 52 = .ok (.invokevirtual 197, 3) := de_b6 tX10_turned_52 (by decide +kernel)
def tX10_turned_55 := Bt_3 (q := 55) tX10_turned_52 rfl
theorem dX10_turned_55 : decode cX10_turned 55 = .ok (.ifCond .eq 12, 3) := de_99 tX10_turned_55 (by decide +kernel)
def tX10_turned_58 := Bt_3 (q := 58) tX10_turned_55 rfl
theorem dX10_turned_58 : decode cX10_turned 58 = .ok (.aload_n 0, 1) := de_2a tX10_turned_58
def tX10_turned_59 := Bt_1 (q := 59) tX10_turned_58 rfl
theorem dX10_turned_59 : decode cX10_turned 59 = .ok (.iload 5, 2) := de_15 tX10_turned_59 (by decide +kernel)
def tX10_turned_61 := Bt_2 (q := 61) tX10_turned_59 rfl
theorem dX10_turned_61 : decode cX10_turned 61 = .ok (.invokevirtual 197, 3) := de_b6 tX10_turned_61 (by decide +kernel)
def tX10_turned_64 := Bt_3 (q := 64) tX10_turned_61 rfl
theorem dX10_turned_64 : decode cX10_turned 64 = .ok (.ifCond .ne 10, 3) := de_9a tX10_turned_64 (by decide +kernel)
def tX10_turned_67 := Bt_3 (q := 67) tX10_turned_64 rfl
theorem dX10_turned_67 : decode cX10_turned 67 = .ok (.aload_n 0, 1) := de_2a tX10_turned_67
def tX10_turned_68 := Bt_1 (q := 68) tX10_turned_67 rfl
theorem dX10_turned_68 : decode cX10_turned 68 = .ok (.bipush (-5), 2) := de_10 tX10_turned_68 (by decide +kernel)
def tX10_turned_70 := Bt_2 (q := 70) tX10_turned_68 rfl
theorem dX10_turned_70 : decode cX10_turned 70 = .ok (.invokevirtual 151, 3) := de_b6 tX10_turned_70 (by decide +kernel)
def tX10_turned_73 := Bt_3 (q := 73) tX10_turned_70 rfl
theorem dX10_turned_73 : decode cX10_turned 73 = .ok (.ireturn, 1) := de_ac tX10_turned_73
def tX10_turned_74 := Bt_1 (q := 74) tX10_turned_73 rfl
theorem dX10_turned_74 : decode cX10_turned 74 = .ok (.aload_n 0, 1) := de_2a tX10_turned_74
def tX10_turned_75 := Bt_1 (q := 75) tX10_turned_74 rfl
theorem dX10_turned_75 : decode cX10_turned 75 = .ok (.iload 4, 2) := de_15 tX10_turned_75 (by decide +kernel)
def tX10_turned_77 := Bt_2 (q := 77) tX10_turned_75 rfl
theorem dX10_turned_77 : decode cX10_turned 77 = .ok (.iconst 0, 1) := de_03 tX10_turned_77
def tX10_turned_78 := Bt_1 (q := 78) tX10_turned_77 rfl
theorem dX10_turned_78 : decode cX10_turned 78 = .ok (.iconst (-1), 1) := de_02 tX10_turned_78
def tX10_turned_79 := Bt_1 (q := 79) tX10_turned_78 rfl
theorem dX10_turned_79 : decode cX10_turned 79 = .ok (.invokevirtual 312, 3) := de_b6 tX10_turned_79 (by decide +kernel)
def tX10_turned_82 := Bt_3 (q := 82) tX10_turned_79 rfl
theorem dX10_turned_82 : decode cX10_turned 82 = .ok (.ifCond .eq 14, 3) := de_99 tX10_turned_82 (by decide +kernel)
def tX10_turned_85 := Bt_3 (q := 85) tX10_turned_82 rfl
theorem dX10_turned_85 : decode cX10_turned 85 = .ok (.aload_n 0, 1) := de_2a tX10_turned_85
def tX10_turned_86 := Bt_1 (q := 86) tX10_turned_85 rfl
theorem dX10_turned_86 : decode cX10_turned 86 = .ok (.iload 5, 2) := de_15 tX10_turned_86 (by decide +kernel)
def tX10_turned_88 := Bt_2 (q := 88) tX10_turned_86 rfl
theorem dX10_turned_88 : decode cX10_turned 88 = .ok (.iconst 0, 1) := de_03 tX10_turned_88
def tX10_turned_89 := Bt_1 (q := 89) tX10_turned_88 rfl
theorem dX10_turned_89 : decode cX10_turned 89 = .ok (.iconst (-1), 1) := de_02 tX10_turned_89
def tX10_turned_90 := Bt_1 (q := 90) tX10_turned_89 rfl
theorem dX10_turned_90 : decode cX10_turned 90 = .ok (.invokevirtual 312, 3) := de_b6 tX10_turned_90 (by decide +kernel)
def tX10_turned_93 := Bt_3 (q := 93) tX10_turned_90 rfl
theorem dX10_turned_93 : decode cX10_turned 93 = .ok (.ifCond .ne 10, 3) := de_9a tX10_turned_93 (by decide +kernel)
def tX10_turned_96 := Bt_3 (q := 96) tX10_turned_93 rfl
theorem dX10_turned_96 : decode cX10_turned 96 = .ok (.aload_n 0, 1) := de_2a tX10_turned_96
def tX10_turned_97 := Bt_1 (q := 97) tX10_turned_96 rfl
theorem dX10_turned_97 : decode cX10_turned 97 = .ok (.bipush (-7), 2) := de_10 tX10_turned_97 (by decide +kernel)
def tX10_turned_99 := Bt_2 (q := 99) tX10_turned_97 rfl
theorem dX10_turned_99 : decode cX10_turned 99 = .ok (.invokevirtual 151, 3) := de_b6 tX10_turned_99 (by decide +kernel)
def tX10_turned_102 := Bt_3 (q := 102) tX10_turned_99 rfl
theorem dX10_turned_102 : decode cX10_turned 102 = .ok (.ireturn, 1) := de_ac tX10_turned_102
def tX10_turned_103 := Bt_1 (q := 103) tX10_turned_102 rfl
theorem dX10_turned_103 : decode cX10_turned 103 = .ok (.aload_n 0, 1) := de_2a tX10_turned_103
def tX10_turned_104 := Bt_1 (q := 104) tX10_turned_103 rfl
theorem dX10_turned_104 : decode cX10_turned 104 = .ok (.iload 4, 2) := de_15 tX10_turned_104 (by decide +kernel)
def tX10_turned_106 := Bt_2 (q := 106) tX10_turned_104 rfl
theorem dX10_turned_106 : decode cX10_turned 106 = .ok (.iload 5, 2) := de_15 tX10_turned_106 (by decide +kernel)
def tX10_turned_108 := Bt_2 (q := 108) tX10_turned_106 rfl
theorem dX10_turned_108 : decode cX10_turned 108 = .ok (.iconst (-1), 1) := de_02 tX10_turned_108
def tX10_turned_109 := Bt_1 (q := 109) tX10_turned_108 rfl
theorem dX10_turned_109 : decode cX10_turned 109 = .ok (.invokevirtual 318, 3) := de_b6 tX10_turned_109 (by decide +kernel)
def tX10_turned_112 := Bt_3 (q := 112) tX10_turned_109 rfl
theorem dX10_turned_112 : decode cX10_turned 112 = .ok (.ifCond .ne 10, 3) := de_9a tX10_turned_112 (by decide +kernel)
def tX10_turned_115 := Bt_3 (q := 115) tX10_turned_112 rfl
theorem dX10_turned_115 : decode cX10_turned 115 = .ok (.aload_n 0, 1) := de_2a tX10_turned_115
def tX10_turned_116 := Bt_1 (q := 116) tX10_turned_115 rfl
theorem dX10_turned_116 : decode cX10_turned 116 = .ok (.bipush (-3), 2) := de_10 tX10_turned_116 (by decide +kernel)
def tX10_turned_118 := Bt_2 (q := 118) tX10_turned_116 rfl
theorem dX10_turned_118 : decode cX10_turned 118 = .ok (.invokevirtual 151, 3) := de_b6 tX10_turned_118 (by decide +kernel)
def tX10_turned_121 := Bt_3 (q := 121) tX10_turned_118 rfl
theorem dX10_turned_121 : decode cX10_turned 121 = .ok (.ireturn, 1) := de_ac tX10_turned_121
def tX10_turned_122 := Bt_1 (q := 122) tX10_turned_121 rfl
theorem dX10_turned_122 : decode cX10_turned 122 = .ok (.iconst 0, 1) := de_03 tX10_turned_122
def tX10_turned_123 := Bt_1 (q := 123) tX10_turned_122 rfl
theorem dX10_turned_123 : decode cX10_turned 123 = .ok (.istore 6, 2) := de_36 tX10_turned_123 (by decide +kernel)
def tX10_turned_125 := Bt_2 (q := 125) tX10_turned_123 rfl
theorem dX10_turned_125 : decode cX10_turned 125 = .ok (.iload 6, 2) := de_15 tX10_turned_125 (by decide +kernel)
def tX10_turned_127 := Bt_2 (q := 127) tX10_turned_125 rfl
theorem dX10_turned_127 : decode cX10_turned 127 = .ok (.bipush 8, 2) := de_10 tX10_turned_127 (by decide +kernel)
def tX10_turned_129 := Bt_2 (q := 129) tX10_turned_127 rfl
theorem dX10_turned_129 : decode cX10_turned 129 = .ok (.if_icmp .ge 87, 3) := de_a2 tX10_turned_129 (by decide +kernel)
def tX10_turned_132 := Bt_3 (q := 132) tX10_turned_129 rfl
theorem dX10_turned_132 : decode cX10_turned 132 = .ok (.iload 6, 2) := de_15 tX10_turned_132 (by decide +kernel)
def tX10_turned_134 := Bt_2 (q := 134) tX10_turned_132 rfl
theorem dX10_turned_134 : decode cX10_turned 134 = .ok (.iload_n 2, 1) := de_1c tX10_turned_134
def tX10_turned_135 := Bt_1 (q := 135) tX10_turned_134 rfl
theorem dX10_turned_135 : decode cX10_turned 135 = .ok (.if_icmp .eq 27, 3) := de_9f tX10_turned_135 (by decide +kernel)
def tX10_turned_138 := Bt_3 (q := 138) tX10_turned_135 rfl
theorem dX10_turned_138 : decode cX10_turned 138 = .ok (.iload 6, 2) := de_15 tX10_turned_138 (by decide +kernel)
def tX10_turned_140 := Bt_2 (q := 140) tX10_turned_138 rfl
theorem dX10_turned_140 : decode cX10_turned 140 = .ok (.iload_n 3, 1) := de_1d tX10_turned_140
def tX10_turned_141 := Bt_1 (q := 141) tX10_turned_140 rfl
theorem dX10_turned_141 : decode cX10_turned 141 = .ok (.if_icmp .eq 21, 3) := de_9f tX10_turned_141 (by decide +kernel)
def tX10_turned_144 := Bt_3 (q := 144) tX10_turned_141 rfl
theorem dX10_turned_144 : decode cX10_turned 144 = .ok (.aload_n 0, 1) := de_2a tX10_turned_144
def tX10_turned_145 := Bt_1 (q := 145) tX10_turned_144 rfl
theorem dX10_turned_145 : decode cX10_turned 145 = .ok (.bipush 8, 2) := de_10 tX10_turned_145 (by decide +kernel)
def tX10_turned_147 := Bt_2 (q := 147) tX10_turned_145 rfl
theorem dX10_turned_147 : decode cX10_turned 147 = .ok (.iload_n 1, 1) := de_1b tX10_turned_147
def tX10_turned_148 := Bt_1 (q := 148) tX10_turned_147 rfl
theorem dX10_turned_148 : decode cX10_turned 148 = .ok (.imul, 1) := de_68 tX10_turned_148
def tX10_turned_149 := Bt_1 (q := 149) tX10_turned_148 rfl
theorem dX10_turned_149 : decode cX10_turned 149 = .ok (.iload 6, 2) := de_15 tX10_turned_149 (by decide +kernel)
def tX10_turned_151 := Bt_2 (q := 151) tX10_turned_149 rfl
theorem dX10_turned_151 : decode cX10_turned 151 = .ok (.iadd, 1) := de_60 tX10_turned_151
def tX10_turned_152 := Bt_1 (q := 152) tX10_turned_151 rfl
theorem dX10_turned_152 : decode cX10_turned 152 = .ok (.invokevirtual 197, 3) := de_b6 tX10_turned_152 (by decide +kernel)
def tX10_turned_155 := Bt_3 (q := 155) tX10_turned_152 rfl
theorem dX10_turned_155 : decode cX10_turned 155 = .ok (.ifCond .eq 7, 3) := de_99 tX10_turned_155 (by decide +kernel)
def tX10_turned_158 := Bt_3 (q := 158) tX10_turned_155 rfl
theorem dX10_turned_158 : decode cX10_turned 158 = .ok (.iconst 1, 1) := de_04 tX10_turned_158
def tX10_turned_159 := Bt_1 (q := 159) tX10_turned_158 rfl
theorem dX10_turned_159 : decode cX10_turned 159 = .ok (.goto 4, 3) := de_a7 tX10_turned_159 (by decide +kernel)
def tX10_turned_162 := Bt_3 (q := 162) tX10_turned_159 rfl
theorem dX10_turned_162 : decode cX10_turned 162 = .ok (.iconst 0, 1) := de_03 tX10_turned_162
def tX10_turned_163 := Bt_1 (q := 163) tX10_turned_162 rfl
theorem dX10_turned_163 : decode cX10_turned 163 = .ok (.istore 7, 2) := de_36 tX10_turned_163 (by decide +kernel)
def tX10_turned_165 := Bt_2 (q := 165) tX10_turned_163 rfl
theorem dX10_turned_165 : decode cX10_turned 165 = .ok (.iload 7, 2) := de_15 tX10_turned_165 (by decide +kernel)
def tX10_turned_167 := Bt_2 (q := 167) tX10_turned_165 rfl
theorem dX10_turned_167 : decode cX10_turned 167 = .ok (.ifCond .eq 43, 3) := de_99 tX10_turned_167 (by decide +kernel)
def tX10_turned_170 := Bt_3 (q := 170) tX10_turned_167 rfl
theorem dX10_turned_170 : decode cX10_turned 170 = .ok (.aload_n 0, 1) := de_2a tX10_turned_170
def tX10_turned_171 := Bt_1 (q := 171) tX10_turned_170 rfl
theorem dX10_turned_171 : decode cX10_turned 171 = .ok (.iload 4, 2) := de_15 tX10_turned_171 (by decide +kernel)
def tX10_turned_173 := Bt_2 (q := 173) tX10_turned_171 rfl
theorem dX10_turned_173 : decode cX10_turned 173 = .ok (.iconst 0, 1) := de_03 tX10_turned_173
def tX10_turned_174 := Bt_1 (q := 174) tX10_turned_173 rfl
theorem dX10_turned_174 : decode cX10_turned 174 = .ok (.iload 6, 2) := de_15 tX10_turned_174 (by decide +kernel)
def tX10_turned_176 := Bt_2 (q := 176) tX10_turned_174 rfl
theorem dX10_turned_176 : decode cX10_turned 176 = .ok (.invokevirtual 312, 3) := de_b6 tX10_turned_176 (by decide +kernel)
def tX10_turned_179 := Bt_3 (q := 179) tX10_turned_176 rfl
theorem dX10_turned_179 : decode cX10_turned 179 = .ok (.ifCond .eq 31, 3) := de_99 tX10_turned_179 (by decide +kernel)
def tX10_turned_182 := Bt_3 (q := 182) tX10_turned_179 rfl
theorem dX10_turned_182 : decode cX10_turned 182 = .ok (.aload_n 0, 1) := de_2a tX10_turned_182
def tX10_turned_183 := Bt_1 (q := 183) tX10_turned_182 rfl
theorem dX10_turned_183 : decode cX10_turned 183 = .ok (.iload 5, 2) := de_15 tX10_turned_183 (by decide +kernel)
def tX10_turned_185 := Bt_2 (q := 185) tX10_turned_183 rfl
theorem dX10_turned_185 : decode cX10_turned 185 = .ok (.iconst 0, 1) := de_03 tX10_turned_185
def tX10_turned_186 := Bt_1 (q := 186) tX10_turned_185 rfl
theorem dX10_turned_186 : decode cX10_turned 186 = .ok (.iload 6, 2) := de_15 tX10_turned_186 (by decide +kernel)
def tX10_turned_188 := Bt_2 (q := 188) tX10_turned_186 rfl
theorem dX10_turned_188 : decode cX10_turned 188 = .ok (.invokevirtual 312, 3) := de_b6 tX10_turned_188 (by decide +kernel)
def tX10_turned_191 := Bt_3 (q := 191) tX10_turned_188 rfl
theorem dX10_turned_191 : decode cX10_turned 191 = .ok (.ifCond .eq 19, 3) := de_99 tX10_turned_191 (by decide +kernel)
def tX10_turned_194 := Bt_3 (q := 194) tX10_turned_191 rfl
theorem dX10_turned_194 : decode cX10_turned 194 = .ok (.aload_n 0, 1) := de_2a tX10_turned_194
def tX10_turned_195 := Bt_1 (q := 195) tX10_turned_194 rfl
theorem dX10_turned_195 : decode cX10_turned 195 = .ok (.iload 5, 2) := de_15 tX10_turned_195 (by decide +kernel)
def tX10_turned_197 := Bt_2 (q := 197) tX10_turned_195 rfl
theorem dX10_turned_197 : decode cX10_turned 197 = .ok (.iload 4, 2) := de_15 tX10_turned_197 (by decide +kernel)
def tX10_turned_199 := Bt_2 (q := 199) tX10_turned_197 rfl
theorem dX10_turned_199 : decode cX10_turned 199 = .ok (.iload 6, 2) := de_15 tX10_turned_199 (by decide +kernel)
def tX10_turned_201 := Bt_2 (q := 201) tX10_turned_199 rfl
theorem dX10_turned_201 : decode cX10_turned 201 = .ok (.invokevirtual 318, 3) := de_b6 tX10_turned_201 (by decide +kernel)
def tX10_turned_204 := Bt_3 (q := 204) tX10_turned_201 rfl
theorem dX10_turned_204 : decode cX10_turned 204 = .ok (.ifCond .eq 6, 3) := de_99 tX10_turned_204 (by decide +kernel)
def tX10_turned_207 := Bt_3 (q := 207) tX10_turned_204 rfl
theorem dX10_turned_207 : decode cX10_turned 207 = .ok (.iload 6, 2) := de_15 tX10_turned_207 (by decide +kernel)
def tX10_turned_209 := Bt_2 (q := 209) tX10_turned_207 rfl
theorem dX10_turned_209 : decode cX10_turned 209 = .ok (.ireturn, 1) := de_ac tX10_turned_209
def tX10_turned_210 := Bt_1 (q := 210) tX10_turned_209 rfl
theorem dX10_turned_210 : decode cX10_turned 210 = .ok (.iinc 6 1, 3) := de_84 tX10_turned_210 (by decide +kernel) (by decide +kernel)
def tX10_turned_213 := Bt_3 (q := 213) tX10_turned_210 rfl
theorem dX10_turned_213 : decode cX10_turned 213 = .ok (.goto (-88), 3) := de_a7 tX10_turned_213 (by decide +kernel)
def tX10_turned_216 := Bt_3 (q := 216) tX10_turned_213 rfl
theorem dX10_turned_216 : decode cX10_turned 216 = .ok (.bipush (-9), 2) := de_10 tX10_turned_216 (by decide +kernel)
def tX10_turned_218 := Bt_2 (q := 218) tX10_turned_216 rfl
theorem dX10_turned_218 : decode cX10_turned 218 = .ok (.ireturn, 1) := de_ac tX10_turned_218
def tX10_isLow_0 := Bt_0 cX10_isLow
theorem dX10_isLow_0 : decode cX10_isLow 0 = .ok (.lconst 0, 1) := de_09 tX10_isLow_0
def tX10_isLow_1 := Bt_1 (q := 1) tX10_isLow_0 rfl
theorem dX10_isLow_1 : decode cX10_isLow 1 = .ok (.lstore_n 2, 1) := de_41 tX10_isLow_1
def tX10_isLow_2 := Bt_1 (q := 2) tX10_isLow_1 rfl
theorem dX10_isLow_2 : decode cX10_isLow 2 = .ok (.iconst 0, 1) := de_03 tX10_isLow_2
def tX10_isLow_3 := Bt_1 (q := 3) tX10_isLow_2 rfl
theorem dX10_isLow_3 : decode cX10_isLow 3 = .ok (.istore 4, 2) := de_36 tX10_isLow_3 (by decide +kernel)
def tX10_isLow_5 := Bt_2 (q := 5) tX10_isLow_3 rfl
theorem dX10_isLow_5 : decode cX10_isLow 5 = .ok (.iconst 0, 1) := de_03 tX10_isLow_5
def tX10_isLow_6 := Bt_1 (q := 6) tX10_isLow_5 rfl
theorem dX10_isLow_6 : decode cX10_isLow 6 = .ok (.istore 5, 2) := de_36 tX10_isLow_6 (by decide +kernel)
def tX10_isLow_8 := Bt_2 (q := 8) tX10_isLow_6 rfl
theorem dX10_isLow_8 : decode cX10_isLow 8 = .ok (.iload 5, 2) := de_15 tX10_isLow_8 (by decide +kernel)
def tX10_isLow_10 := Bt_2 (q := 10) tX10_isLow_8 rfl
theorem dX10_isLow_10 : decode cX10_isLow 10 = .ok (.bipush 8, 2) := de_10 tX10_isLow_10 (by decide +kernel)
def tX10_isLow_12 := Bt_2 (q := 12) tX10_isLow_10 rfl
theorem dX10_isLow_12 : decode cX10_isLow 12 = .ok (.if_icmp .ge 49, 3) := de_a2 tX10_isLow_12 (by decide +kernel)
def tX10_isLow_15 := Bt_3 (q := 15) tX10_isLow_12 rfl
theorem dX10_isLow_15 : decode cX10_isLow 15 = .ok (.bipush 8, 2) := de_10 tX10_isLow_15 (by decide +kernel)
def tX10_isLow_17 := Bt_2 (q := 17) tX10_isLow_15 rfl
theorem dX10_isLow_17 : decode cX10_isLow 17 = .ok (.iload_n 1, 1) := de_1b tX10_isLow_17
def tX10_isLow_18 := Bt_1 (q := 18) tX10_isLow_17 rfl
theorem dX10_isLow_18 : decode cX10_isLow 18 = .ok (.bipush 8, 2) := de_10 tX10_isLow_18 (by decide +kernel)
def tX10_isLow_20 := Bt_2 (q := 20) tX10_isLow_18 rfl
theorem dX10_isLow_20 : decode cX10_isLow 20 = .ok (.idiv, 1) := de_6c tX10_isLow_20
def tX10_isLow_21 := Bt_1 (q := 21) tX10_isLow_20 rfl
theorem dX10_isLow_21 : decode cX10_isLow 21 = .ok (.imul, 1) := de_68 tX10_isLow_21
def tX10_isLow_22 := Bt_1 (q := 22) tX10_isLow_21 rfl
theorem dX10_isLow_22 : decode cX10_isLow 22 = .ok (.iload 5, 2) := de_15 tX10_isLow_22 (by decide +kernel)
def tX10_isLow_24 := Bt_2 (q := 24) tX10_isLow_22 rfl
theorem dX10_isLow_24 : decode cX10_isLow 24 = .ok (.iadd, 1) := de_60 tX10_isLow_24
def tX10_isLow_25 := Bt_1 (q := 25) tX10_isLow_24 rfl
theorem dX10_isLow_25 : decode cX10_isLow 25 = .ok (.istore 6, 2) := de_36 tX10_isLow_25 (by decide +kernel)
def tX10_isLow_27 := Bt_2 (q := 27) tX10_isLow_25 rfl
theorem dX10_isLow_27 : decode cX10_isLow 27 = .ok (.iload 6, 2) := de_15 tX10_isLow_27 (by decide +kernel)
def tX10_isLow_29 := Bt_2 (q := 29) tX10_isLow_27 rfl
theorem dX10_isLow_29 : decode cX10_isLow 29 = .ok (.iload_n 1, 1) := de_1b tX10_isLow_29
def tX10_isLow_30 := Bt_1 (q := 30) tX10_isLow_29 rfl
theorem dX10_isLow_30 : decode cX10_isLow 30 = .ok (.if_icmp .eq 25, 3) := de_9f tX10_isLow_30 (by decide +kernel)
def tX10_isLow_33 := Bt_3 (q := 33) tX10_isLow_30 rfl
theorem dX10_isLow_33 : decode cX10_isLow 33 = .ok (.aload_n 0, 1) := de_2a tX10_isLow_33
def tX10_isLow_34 := Bt_1 (q := 34) tX10_isLow_33 rfl
theorem dX10_isLow_34 : decode cX10_isLow 34 = .ok (.iload 6, 2) := de_15 tX10_isLow_34 (by decide +kernel)
def tX10_isLow_36 := Bt_2 (q := 36) tX10_isLow_34 rfl
theorem dX10_isLow_36 : decode cX10_isLow 36 = .ok (.invokevirtual 197, 3) := de_b6 tX10_isLow_36 (by decide +kernel)
def tX10_isLow_39 := Bt_3 (q := 39) tX10_isLow_36 rfl
theorem dX10_isLow_39 : decode cX10_isLow 39 = .ok (.ifCond .eq 16, 3) := de_99 tX10_isLow_39 (by decide +kernel)
def tX10_isLow_42 := Bt_3 (q := 42) tX10_isLow_39 rfl
theorem dX10_isLow_42 : decode cX10_isLow 42 = .ok (.lload_n 2, 1) := de_20 tX10_isLow_42
def tX10_isLow_43 := Bt_1 (q := 43) tX10_isLow_42 rfl
theorem dX10_isLow_43 : decode cX10_isLow 43 = .ok (.aload_n 0, 1) := de_2a tX10_isLow_43
def tX10_isLow_44 := Bt_1 (q := 44) tX10_isLow_43 rfl
theorem dX10_isLow_44 : decode cX10_isLow 44 = .ok (.iload 6, 2) := de_15 tX10_isLow_44 (by decide +kernel)
def tX10_isLow_46 := Bt_2 (q := 46) tX10_isLow_44 rfl
theorem dX10_isLow_46 : decode cX10_isLow 46 = .ok (.invokevirtual 191, 3) := de_b6 tX10_isLow_46 (by decide +kernel)
def tX10_isLow_49 := Bt_3 (q := 49) tX10_isLow_46 rfl
theorem dX10_isLow_49 : decode cX10_isLow 49 = .ok (.i2l, 1) := de_85 tX10_isLow_49
def tX10_isLow_50 := Bt_1 (q := 50) tX10_isLow_49 rfl
theorem dX10_isLow_50 : decode cX10_isLow 50 = .ok (.ladd, 1) := de_61 tX10_isLow_50
def tX10_isLow_51 := Bt_1 (q := 51) tX10_isLow_50 rfl
theorem dX10_isLow_51 : decode cX10_isLow 51 = .ok (.lstore_n 2, 1) := de_41 tX10_isLow_51
def tX10_isLow_52 := Bt_1 (q := 52) tX10_isLow_51 rfl
theorem dX10_isLow_52 : decode cX10_isLow 52 = .ok (.iinc 4 1, 3) := de_84 tX10_isLow_52 (by decide +kernel) (by decide +kernel)
def tX10_isLow_55 := Bt_3 (q := 55) tX10_isLow_52 rfl
theorem dX10_isLow_55 : decode cX10_isLow 55 = .ok (.iinc 5 1, 3) := de_84 tX10_isLow_55 (by decide +kernel) (by decide +kernel)
def tX10_isLow_58 := Bt_3 (q := 58) tX10_isLow_55 rfl
theorem dX10_isLow_58 : decode cX10_isLow 58 = .ok (.goto (-50), 3) := de_a7 tX10_isLow_58 (by decide +kernel)
def tX10_isLow_61 := Bt_3 (q := 61) tX10_isLow_58 rfl
theorem dX10_isLow_61 : decode cX10_isLow 61 = .ok (.iload 4, 2) := de_15 tX10_isLow_61 (by decide +kernel)
def tX10_isLow_63 := Bt_2 (q := 63) tX10_isLow_61 rfl
theorem dX10_isLow_63 : decode cX10_isLow 63 = .ok (.ifCond .le 34, 3) := de_9e tX10_isLow_63 (by decide +kernel)
def tX10_isLow_66 := Bt_3 (q := 66) tX10_isLow_63 rfl
theorem dX10_isLow_66 : decode cX10_isLow 66 = .ok (.ldc2_w 187, 3) := de_14 tX10_isLow_66 (by decide +kernel)
def tX10_isLow_69 := Bt_3 (q := 69) tX10_isLow_66 rfl
theorem dX10_isLow_69 : decode cX10_isLow 69 = .ok (.aload_n 0, 1) := de_2a tX10_isLow_69
def tX10_isLow_70 := Bt_1 (q := 70) tX10_isLow_69 rfl
theorem dX10_isLow_70 : decode cX10_isLow 70 = .ok (.iload_n 1, 1) := de_1b tX10_isLow_70
def tX10_isLow_71 := Bt_1 (q := 71) tX10_isLow_70 rfl
theorem dX10_isLow_71 : decode cX10_isLow 71 = .ok (.invokevirtual 191, 3) := de_b6 tX10_isLow_71 (by decide +kernel)
def tX10_isLow_74 := Bt_3 (q := 74) tX10_isLow_71 rfl
theorem dX10_isLow_74 : decode cX10_isLow 74 = .ok (.i2l, 1) := de_85 tX10_isLow_74
def tX10_isLow_75 := Bt_1 (q := 75) tX10_isLow_74 rfl
theorem dX10_isLow_75 : decode cX10_isLow 75 = .ok (.lmul, 1) := de_69 tX10_isLow_75
def tX10_isLow_76 := Bt_1 (q := 76) tX10_isLow_75 rfl
theorem dX10_isLow_76 : decode cX10_isLow 76 = .ok (.iload 4, 2) := de_15 tX10_isLow_76 (by decide +kernel)
def tX10_isLow_78 := Bt_2 (q := 78) tX10_isLow_76 rfl
theorem dX10_isLow_78 : decode cX10_isLow 78 = .ok (.i2l, 1) := de_85 tX10_isLow_78
def tX10_isLow_79 := Bt_1 (q := 79) tX10_isLow_78 rfl
theorem dX10_isLow_79 : decode cX10_isLow 79 = .ok (.lmul, 1) := de_69 tX10_isLow_79
def tX10_isLow_80 := Bt_1 (q := 80) tX10_isLow_79 rfl
theorem dX10_isLow_80 : decode cX10_isLow 80 = .ok (.aload_n 0, 1) := de_2a tX10_isLow_80
def tX10_isLow_81 := Bt_1 (q := 81) tX10_isLow_80 rfl
theorem dX10_isLow_81 : decode cX10_isLow 81 = .ok (.getfield 42, 3) := de_b4 tX10_isLow_81 (by decide +kernel)
def tX10_isLow_84 := Bt_3 (q := 84) tX10_isLow_81 rfl
theorem dX10_isLow_84 : decode cX10_isLow 84 = .ok (.iconst 2, 1) := de_05 tX10_isLow_84
def tX10_isLow_85 := Bt_1 (q := 85) tX10_isLow_84 rfl
theorem dX10_isLow_85 : decode cX10_isLow 85 = .ok (.iaload, 1) := de_2e tX10_isLow_85
def tX10_isLow_86 := Bt_1 (q := 86) tX10_isLow_85 rfl
theorem dX10_isLow_86 : decode cX10_isLow 86 = .ok (.i2l, 1) := de_85 tX10_isLow_86
def tX10_isLow_87 := Bt_1 (q := 87) tX10_isLow_86 rfl
theorem dX10_isLow_87 : decode cX10_isLow 87 = .ok (.lload_n 2, 1) := de_20 tX10_isLow_87
def tX10_isLow_88 := Bt_1 (q := 88) tX10_isLow_87 rfl
theorem dX10_isLow_88 : decode cX10_isLow 88 = .ok (.lmul, 1) := de_69 tX10_isLow_88
def tX10_isLow_89 := Bt_1 (q := 89) tX10_isLow_88 rfl
theorem dX10_isLow_89 : decode cX10_isLow 89 = .ok (.lcmp, 1) := de_94 tX10_isLow_89
def tX10_isLow_90 := Bt_1 (q := 90) tX10_isLow_89 rfl
theorem dX10_isLow_90 : decode cX10_isLow 90 = .ok (.ifCond .ge 7, 3) := de_9c tX10_isLow_90 (by decide +kernel)
def tX10_isLow_93 := Bt_3 (q := 93) tX10_isLow_90 rfl
theorem dX10_isLow_93 : decode cX10_isLow 93 = .ok (.iconst 1, 1) := de_04 tX10_isLow_93
def tX10_isLow_94 := Bt_1 (q := 94) tX10_isLow_93 rfl
theorem dX10_isLow_94 : decode cX10_isLow 94 = .ok (.goto 4, 3) := de_a7 tX10_isLow_94 (by decide +kernel)
def tX10_isLow_97 := Bt_3 (q := 97) tX10_isLow_94 rfl
theorem dX10_isLow_97 : decode cX10_isLow 97 = .ok (.iconst 0, 1) := de_03 tX10_isLow_97
def tX10_isLow_98 := Bt_1 (q := 98) tX10_isLow_97 rfl
theorem dX10_isLow_98 : decode cX10_isLow 98 = .ok (.ireturn, 1) := de_ac tX10_isLow_98
def tX10_low_0 := Bt_0 cX10_low
theorem dX10_low_0 : decode cX10_low 0 = .ok (.aload_n 0, 1) := de_2a tX10_low_0
def tX10_low_1 := Bt_1 (q := 1) tX10_low_0 rfl
theorem dX10_low_1 : decode cX10_low 1 = .ok (.iload_n 1, 1) := de_1b tX10_low_1
def tX10_low_2 := Bt_1 (q := 2) tX10_low_1 rfl
theorem dX10_low_2 : decode cX10_low 2 = .ok (.iload_n 2, 1) := de_1c tX10_low_2
def tX10_low_3 := Bt_1 (q := 3) tX10_low_2 rfl
theorem dX10_low_3 : decode cX10_low 3 = .ok (.invokevirtual 203, 3) := de_b6 tX10_low_3 (by decide +kernel)
def tX10_low_6 := Bt_3 (q := 6) tX10_low_3 rfl
theorem dX10_low_6 : decode cX10_low 6 = .ok (.istore_n 3, 1) := de_3e tX10_low_6
def tX10_low_7 := Bt_1 (q := 7) tX10_low_6 rfl
theorem dX10_low_7 : decode cX10_low 7 = .ok (.iload_n 3, 1) := de_1d tX10_low_7
def tX10_low_8 := Bt_1 (q := 8) tX10_low_7 rfl
theorem dX10_low_8 : decode cX10_low 8 = .ok (.ifCond .ge 11, 3) := de_9c tX10_low_8 (by decide +kernel)
def tX10_low_11 := Bt_3 (q := 11) tX10_low_8 rfl
theorem dX10_low_11 : decode cX10_low 11 = .ok (.aload_n 0, 1) := de_2a tX10_low_11
def tX10_low_12 := Bt_1 (q := 12) tX10_low_11 rfl
theorem dX10_low_12 : decode cX10_low 12 = .ok (.iload_n 3, 1) := de_1d tX10_low_12
def tX10_low_13 := Bt_1 (q := 13) tX10_low_12 rfl
theorem dX10_low_13 : decode cX10_low 13 = .ok (.invokevirtual 151, 3) := de_b6 tX10_low_13 (by decide +kernel)
def tX10_low_16 := Bt_3 (q := 16) tX10_low_13 rfl
theorem dX10_low_16 : decode cX10_low 16 = .ok (.goto 21, 3) := de_a7 tX10_low_16 (by decide +kernel)
def tX10_low_19 := Bt_3 (q := 19) tX10_low_16 rfl
theorem dX10_low_19 : decode cX10_low 19 = .ok (.aload_n 0, 1) := de_2a tX10_low_19
def tX10_low_20 := Bt_1 (q := 20) tX10_low_19 rfl
theorem dX10_low_20 : decode cX10_low 20 = .ok (.bipush 8, 2) := de_10 tX10_low_20 (by decide +kernel)
def tX10_low_22 := Bt_2 (q := 22) tX10_low_20 rfl
theorem dX10_low_22 : decode cX10_low 22 = .ok (.iload_n 2, 1) := de_1c tX10_low_22
def tX10_low_23 := Bt_1 (q := 23) tX10_low_22 rfl
theorem dX10_low_23 : decode cX10_low 23 = .ok (.imul, 1) := de_68 tX10_low_23
def tX10_low_24 := Bt_1 (q := 24) tX10_low_23 rfl
theorem dX10_low_24 : decode cX10_low 24 = .ok (.iload_n 1, 1) := de_1b tX10_low_24
def tX10_low_25 := Bt_1 (q := 25) tX10_low_24 rfl
theorem dX10_low_25 : decode cX10_low 25 = .ok (.iadd, 1) := de_60 tX10_low_25
def tX10_low_26 := Bt_1 (q := 26) tX10_low_25 rfl
theorem dX10_low_26 : decode cX10_low 26 = .ok (.invokevirtual 324, 3) := de_b6 tX10_low_26 (by decide +kernel)
def tX10_low_29 := Bt_3 (q := 29) tX10_low_26 rfl
theorem dX10_low_29 : decode cX10_low 29 = .ok (.ifCond .eq 7, 3) := de_99 tX10_low_29 (by decide +kernel)
def tX10_low_32 := Bt_3 (q := 32) tX10_low_29 rfl
theorem dX10_low_32 : decode cX10_low 32 = .ok (.iconst 1, 1) := de_04 tX10_low_32
def tX10_low_33 := Bt_1 (q := 33) tX10_low_32 rfl
theorem dX10_low_33 : decode cX10_low 33 = .ok (.goto 4, 3) := de_a7 tX10_low_33 (by decide +kernel)
def tX10_low_36 := Bt_3 (q := 36) tX10_low_33 rfl
theorem dX10_low_36 : decode cX10_low 36 = .ok (.iconst 0, 1) := de_03 tX10_low_36
def tX10_low_37 := Bt_1 (q := 37) tX10_low_36 rfl
theorem dX10_low_37 : decode cX10_low 37 = .ok (.ireturn, 1) := de_ac tX10_low_37
def tX10_ask_0 := Bt_0 cX10_ask
theorem dX10_ask_0 : decode cX10_ask 0 = .ok (.aload_n 0, 1) := de_2a tX10_ask_0
def tX10_ask_1 := Bt_1 (q := 1) tX10_ask_0 rfl
theorem dX10_ask_1 : decode cX10_ask 1 = .ok (.iload_n 1, 1) := de_1b tX10_ask_1
def tX10_ask_2 := Bt_1 (q := 2) tX10_ask_1 rfl
theorem dX10_ask_2 : decode cX10_ask 2 = .ok (.iload_n 2, 1) := de_1c tX10_ask_2
def tX10_ask_3 := Bt_1 (q := 3) tX10_ask_2 rfl
theorem dX10_ask_3 : decode cX10_ask 3 = .ok (.invokevirtual 203, 3) := de_b6 tX10_ask_3 (by decide +kernel)
def tX10_ask_6 := Bt_3 (q := 6) tX10_ask_3 rfl
theorem dX10_ask_6 : decode cX10_ask 6 = .ok (.istore 4, 2) := de_36 tX10_ask_6 (by decide +kernel)
def tX10_ask_8 := Bt_2 (q := 8) tX10_ask_6 rfl
theorem dX10_ask_8 : decode cX10_ask 8 = .ok (.iload 4, 2) := de_15 tX10_ask_8 (by decide +kernel)
def tX10_ask_10 := Bt_2 (q := 10) tX10_ask_8 rfl
theorem dX10_ask_10 : decode cX10_ask 10 = .ok (.ifCond .ge 10, 3) := de_9c tX10_ask_10 (by decide +kernel)
def tX10_ask_13 := Bt_3 (q := 13) tX10_ask_10 rfl
theorem dX10_ask_13 : decode cX10_ask 13 = .ok (.aload_n 0, 1) := de_2a tX10_ask_13
def tX10_ask_14 := Bt_1 (q := 14) tX10_ask_13 rfl
theorem dX10_ask_14 : decode cX10_ask 14 = .ok (.iload 4, 2) := de_15 tX10_ask_14 (by decide +kernel)
def tX10_ask_16 := Bt_2 (q := 16) tX10_ask_14 rfl
theorem dX10_ask_16 : decode cX10_ask 16 = .ok (.invokevirtual 151, 3) := de_b6 tX10_ask_16 (by decide +kernel)
def tX10_ask_19 := Bt_3 (q := 19) tX10_ask_16 rfl
theorem dX10_ask_19 : decode cX10_ask 19 = .ok (.ireturn, 1) := de_ac tX10_ask_19
def tX10_ask_20 := Bt_1 (q := 20) tX10_ask_19 rfl
theorem dX10_ask_20 : decode cX10_ask 20 = .ok (.bipush 8, 2) := de_10 tX10_ask_20 (by decide +kernel)
def tX10_ask_22 := Bt_2 (q := 22) tX10_ask_20 rfl
theorem dX10_ask_22 : decode cX10_ask 22 = .ok (.iload_n 2, 1) := de_1c tX10_ask_22
def tX10_ask_23 := Bt_1 (q := 23) tX10_ask_22 rfl
theorem dX10_ask_23 : decode cX10_ask 23 = .ok (.imul, 1) := de_68 tX10_ask_23
def tX10_ask_24 := Bt_1 (q := 24) tX10_ask_23 rfl
theorem dX10_ask_24 : decode cX10_ask 24 = .ok (.iload_n 1, 1) := de_1b tX10_ask_24
def tX10_ask_25 := Bt_1 (q := 25) tX10_ask_24 rfl
theorem dX10_ask_25 : decode cX10_ask 25 = .ok (.iadd, 1) := de_60 tX10_ask_25
def tX10_ask_26 := Bt_1 (q := 26) tX10_ask_25 rfl
theorem dX10_ask_26 : decode cX10_ask 26 = .ok (.istore 5, 2) := de_36 tX10_ask_26 (by decide +kernel)
def tX10_ask_28 := Bt_2 (q := 28) tX10_ask_26 rfl
theorem dX10_ask_28 : decode cX10_ask 28 = .ok (.aload_n 0, 1) := de_2a tX10_ask_28
def tX10_ask_29 := Bt_1 (q := 29) tX10_ask_28 rfl
theorem dX10_ask_29 : decode cX10_ask 29 = .ok (.iload 5, 2) := de_15 tX10_ask_29 (by decide +kernel)
def tX10_ask_31 := Bt_2 (q := 31) tX10_ask_29 rfl
theorem dX10_ask_31 : decode cX10_ask 31 = .ok (.invokevirtual 324, 3) := de_b6 tX10_ask_31 (by decide +kernel)
def tX10_ask_34 := Bt_3 (q := 34) tX10_ask_31 rfl
theorem dX10_ask_34 : decode cX10_ask 34 = .ok (.ifCond .eq 13, 3) := de_99 tX10_ask_34 (by decide +kernel)
def tX10_ask_37 := Bt_3 (q := 37) tX10_ask_34 rfl
theorem dX10_ask_37 : decode cX10_ask 37 = .ok (.aload_n 0, 1) := de_2a tX10_ask_37
def tX10_ask_38 := Bt_1 (q := 38) tX10_ask_37 rfl
theorem dX10_ask_38 : decode cX10_ask 38 = .ok (.getfield 39, 3) := de_b4 tX10_ask_38 (by decide +kernel)
def tX10_ask_41 := Bt_3 (q := 41) tX10_ask_38 rfl
theorem dX10_ask_41 : decode cX10_ask 41 = .ok (.iload 5, 2) := de_15 tX10_ask_41 (by decide +kernel)
def tX10_ask_43 := Bt_2 (q := 43) tX10_ask_41 rfl
theorem dX10_ask_43 : decode cX10_ask 43 = .ok (.iaload, 1) := de_2e tX10_ask_43
def tX10_ask_44 := Bt_1 (q := 44) tX10_ask_43 rfl
theorem dX10_ask_44 : decode cX10_ask 44 = .ok (.ifCond .lt 10, 3) := de_9b tX10_ask_44 (by decide +kernel)
def tX10_ask_47 := Bt_3 (q := 47) tX10_ask_44 rfl
theorem dX10_ask_47 : decode cX10_ask 47 = .ok (.aload_n 0, 1) := de_2a tX10_ask_47
def tX10_ask_48 := Bt_1 (q := 48) tX10_ask_47 rfl
theorem dX10_ask_48 : decode cX10_ask 48 = .ok (.bipush (-3), 2) := de_10 tX10_ask_48 (by decide +kernel)
def tX10_ask_50 := Bt_2 (q := 50) tX10_ask_48 rfl
theorem dX10_ask_50 : decode cX10_ask 50 = .ok (.invokevirtual 151, 3) := de_b6 tX10_ask_50 (by decide +kernel)
def tX10_ask_53 := Bt_3 (q := 53) tX10_ask_50 rfl
theorem dX10_ask_53 : decode cX10_ask 53 = .ok (.ireturn, 1) := de_ac tX10_ask_53
def tX10_ask_54 := Bt_1 (q := 54) tX10_ask_53 rfl
theorem dX10_ask_54 : decode cX10_ask 54 = .ok (.iload_n 3, 1) := de_1d tX10_ask_54
def tX10_ask_55 := Bt_1 (q := 55) tX10_ask_54 rfl
theorem dX10_ask_55 : decode cX10_ask 55 = .ok (.aload_n 0, 1) := de_2a tX10_ask_55
def tX10_ask_56 := Bt_1 (q := 56) tX10_ask_55 rfl
theorem dX10_ask_56 : decode cX10_ask 56 = .ok (.getfield 148, 3) := de_b4 tX10_ask_56 (by decide +kernel)
def tX10_ask_59 := Bt_3 (q := 59) tX10_ask_56 rfl
theorem dX10_ask_59 : decode cX10_ask 59 = .ok (.if_icmp .gt 10, 3) := de_a3 tX10_ask_59 (by decide +kernel)
def tX10_ask_62 := Bt_3 (q := 62) tX10_ask_59 rfl
theorem dX10_ask_62 : decode cX10_ask 62 = .ok (.aload_n 0, 1) := de_2a tX10_ask_62
def tX10_ask_63 := Bt_1 (q := 63) tX10_ask_62 rfl
theorem dX10_ask_63 : decode cX10_ask 63 = .ok (.bipush (-4), 2) := de_10 tX10_ask_63 (by decide +kernel)
def tX10_ask_65 := Bt_2 (q := 65) tX10_ask_63 rfl
theorem dX10_ask_65 : decode cX10_ask 65 = .ok (.invokevirtual 151, 3) := de_b6 tX10_ask_65 (by decide +kernel)
def tX10_ask_68 := Bt_3 (q := 68) tX10_ask_65 rfl
theorem dX10_ask_68 : decode cX10_ask 68 = .ok (.ireturn, 1) := de_ac tX10_ask_68
def tX10_ask_69 := Bt_1 (q := 69) tX10_ask_68 rfl
theorem dX10_ask_69 : decode cX10_ask 69 = .ok (.iload_n 3, 1) := de_1d tX10_ask_69
def tX10_ask_70 := Bt_1 (q := 70) tX10_ask_69 rfl
theorem dX10_ask_70 : decode cX10_ask 70 = .ok (.ldc 155, 2) := de_12 tX10_ask_70 (by decide +kernel)
def tX10_ask_72 := Bt_2 (q := 72) tX10_ask_70 rfl
theorem dX10_ask_72 : decode cX10_ask 72 = .ok (.if_icmp .le 10, 3) := de_a4 tX10_ask_72 (by decide +kernel)
def tX10_ask_75 := Bt_3 (q := 75) tX10_ask_72 rfl
theorem dX10_ask_75 : decode cX10_ask 75 = .ok (.aload_n 0, 1) := de_2a tX10_ask_75
def tX10_ask_76 := Bt_1 (q := 76) tX10_ask_75 rfl
theorem dX10_ask_76 : decode cX10_ask 76 = .ok (.bipush (-6), 2) := de_10 tX10_ask_76 (by decide +kernel)
def tX10_ask_78 := Bt_2 (q := 78) tX10_ask_76 rfl
theorem dX10_ask_78 : decode cX10_ask 78 = .ok (.invokevirtual 151, 3) := de_b6 tX10_ask_78 (by decide +kernel)
def tX10_ask_81 := Bt_3 (q := 81) tX10_ask_78 rfl
theorem dX10_ask_81 : decode cX10_ask 81 = .ok (.ireturn, 1) := de_ac tX10_ask_81
def tX10_ask_82 := Bt_1 (q := 82) tX10_ask_81 rfl
theorem dX10_ask_82 : decode cX10_ask 82 = .ok (.aload_n 0, 1) := de_2a tX10_ask_82
def tX10_ask_83 := Bt_1 (q := 83) tX10_ask_82 rfl
theorem dX10_ask_83 : decode cX10_ask 83 = .ok (.getfield 39, 3) := de_b4 tX10_ask_83 (by decide +kernel)
def tX10_ask_86 := Bt_3 (q := 86) tX10_ask_83 rfl
theorem dX10_ask_86 : decode cX10_ask 86 = .ok (.iload 5, 2) := de_15 tX10_ask_86 (by decide +kernel)
def tX10_ask_88 := Bt_2 (q := 88) tX10_ask_86 rfl
theorem dX10_ask_88 : decode cX10_ask 88 = .ok (.iload_n 3, 1) := de_1d tX10_ask_88
def tX10_ask_89 := Bt_1 (q := 89) tX10_ask_88 rfl
theorem dX10_ask_89 : decode cX10_ask 89 = .ok (.iastore, 1) := de_4f tX10_ask_89
def tX10_ask_90 := Bt_1 (q := 90) tX10_ask_89 rfl
theorem dX10_ask_90 : decode cX10_ask 90 = .ok (.aload_n 0, 1) := de_2a tX10_ask_90
def tX10_ask_91 := Bt_1 (q := 91) tX10_ask_90 rfl
theorem dX10_ask_91 : decode cX10_ask 91 = .ok (.iconst 0, 1) := de_03 tX10_ask_91
def tX10_ask_92 := Bt_1 (q := 92) tX10_ask_91 rfl
theorem dX10_ask_92 : decode cX10_ask 92 = .ok (.putfield 156, 3) := de_b5 tX10_ask_92 (by decide +kernel)
def tX10_ask_95 := Bt_3 (q := 95) tX10_ask_92 rfl
theorem dX10_ask_95 : decode cX10_ask 95 = .ok (.iconst 1, 1) := de_04 tX10_ask_95
def tX10_ask_96 := Bt_1 (q := 96) tX10_ask_95 rfl
theorem dX10_ask_96 : decode cX10_ask 96 = .ok (.ireturn, 1) := de_ac tX10_ask_96
def tX10_answer_0 := Bt_0 cX10_answer
theorem dX10_answer_0 : decode cX10_answer 0 = .ok (.aload_n 0, 1) := de_2a tX10_answer_0
def tX10_answer_1 := Bt_1 (q := 1) tX10_answer_0 rfl
theorem dX10_answer_1 : decode cX10_answer 1 = .ok (.iload_n 1, 1) := de_1b tX10_answer_1
def tX10_answer_2 := Bt_1 (q := 2) tX10_answer_1 rfl
theorem dX10_answer_2 : decode cX10_answer 2 = .ok (.iload_n 2, 1) := de_1c tX10_answer_2
def tX10_answer_3 := Bt_1 (q := 3) tX10_answer_2 rfl
theorem dX10_answer_3 : decode cX10_answer 3 = .ok (.invokevirtual 203, 3) := de_b6 tX10_answer_3 (by decide +kernel)
def tX10_answer_6 := Bt_3 (q := 6) tX10_answer_3 rfl
theorem dX10_answer_6 : decode cX10_answer 6 = .ok (.istore_n 3, 1) := de_3e tX10_answer_6
def tX10_answer_7 := Bt_1 (q := 7) tX10_answer_6 rfl
theorem dX10_answer_7 : decode cX10_answer 7 = .ok (.iload_n 3, 1) := de_1d tX10_answer_7
def tX10_answer_8 := Bt_1 (q := 8) tX10_answer_7 rfl
theorem dX10_answer_8 : decode cX10_answer 8 = .ok (.ifCond .ge 9, 3) := de_9c tX10_answer_8 (by decide +kernel)
def tX10_answer_11 := Bt_3 (q := 11) tX10_answer_8 rfl
theorem dX10_answer_11 : decode cX10_answer 11 = .ok (.aload_n 0, 1) := de_2a tX10_answer_11
def tX10_answer_12 := Bt_1 (q := 12) tX10_answer_11 rfl
theorem dX10_answer_12 : decode cX10_answer 12 = .ok (.iload_n 3, 1) := de_1d tX10_answer_12
def tX10_answer_13 := Bt_1 (q := 13) tX10_answer_12 rfl
theorem dX10_answer_13 : decode cX10_answer 13 = .ok (.invokevirtual 151, 3) := de_b6 tX10_answer_13 (by decide +kernel)
def tX10_answer_16 := Bt_3 (q := 16) tX10_answer_13 rfl
theorem dX10_answer_16 : decode cX10_answer 16 = .ok (.ireturn, 1) := de_ac tX10_answer_16
def tX10_answer_17 := Bt_1 (q := 17) tX10_answer_16 rfl
theorem dX10_answer_17 : decode cX10_answer 17 = .ok (.bipush 8, 2) := de_10 tX10_answer_17 (by decide +kernel)
def tX10_answer_19 := Bt_2 (q := 19) tX10_answer_17 rfl
theorem dX10_answer_19 : decode cX10_answer 19 = .ok (.iload_n 2, 1) := de_1c tX10_answer_19
def tX10_answer_20 := Bt_1 (q := 20) tX10_answer_19 rfl
theorem dX10_answer_20 : decode cX10_answer 20 = .ok (.imul, 1) := de_68 tX10_answer_20
def tX10_answer_21 := Bt_1 (q := 21) tX10_answer_20 rfl
theorem dX10_answer_21 : decode cX10_answer 21 = .ok (.iload_n 1, 1) := de_1b tX10_answer_21
def tX10_answer_22 := Bt_1 (q := 22) tX10_answer_21 rfl
theorem dX10_answer_22 : decode cX10_answer 22 = .ok (.iadd, 1) := de_60 tX10_answer_22
def tX10_answer_23 := Bt_1 (q := 23) tX10_answer_22 rfl
theorem dX10_answer_23 : decode cX10_answer 23 = .ok (.istore 4, 2) := de_36 tX10_answer_23 (by decide +kernel)
def tX10_answer_25 := Bt_2 (q := 25) tX10_answer_23 rfl
theorem dX10_answer_25 : decode cX10_answer 25 = .ok (.aload_n 0, 1) := de_2a tX10_answer_25
def tX10_answer_26 := Bt_1 (q := 26) tX10_answer_25 rfl
theorem dX10_answer_26 : decode cX10_answer 26 = .ok (.getfield 39, 3) := de_b4 tX10_answer_26 (by decide +kernel)
def tX10_answer_29 := Bt_3 (q := 29) tX10_answer_26 rfl
theorem dX10_answer_29 : decode cX10_answer 29 = .ok (.iload 4, 2) := de_15 tX10_answer_29 (by decide +kernel)
def tX10_answer_31 := Bt_2 (q := 31) tX10_answer_29 rfl
theorem dX10_answer_31 : decode cX10_answer 31 = .ok (.iaload, 1) := de_2e tX10_answer_31
def tX10_answer_32 := Bt_1 (q := 32) tX10_answer_31 rfl
theorem dX10_answer_32 : decode cX10_answer 32 = .ok (.ifCond .ge 10, 3) := de_9c tX10_answer_32 (by decide +kernel)
def tX10_answer_35 := Bt_3 (q := 35) tX10_answer_32 rfl
theorem dX10_answer_35 : decode cX10_answer 35 = .ok (.aload_n 0, 1) := de_2a tX10_answer_35
def tX10_answer_36 := Bt_1 (q := 36) tX10_answer_35 rfl
theorem dX10_answer_36 : decode cX10_answer 36 = .ok (.bipush (-3), 2) := de_10 tX10_answer_36 (by decide +kernel)
def tX10_answer_38 := Bt_2 (q := 38) tX10_answer_36 rfl
theorem dX10_answer_38 : decode cX10_answer 38 = .ok (.invokevirtual 151, 3) := de_b6 tX10_answer_38 (by decide +kernel)
def tX10_answer_41 := Bt_3 (q := 41) tX10_answer_38 rfl
theorem dX10_answer_41 : decode cX10_answer 41 = .ok (.ireturn, 1) := de_ac tX10_answer_41
def tX10_answer_42 := Bt_1 (q := 42) tX10_answer_41 rfl
theorem dX10_answer_42 : decode cX10_answer 42 = .ok (.aload_n 0, 1) := de_2a tX10_answer_42
def tX10_answer_43 := Bt_1 (q := 43) tX10_answer_42 rfl
theorem dX10_answer_43 : decode cX10_answer 43 = .ok (.getfield 39, 3) := de_b4 tX10_answer_43 (by decide +kernel)
def tX10_answer_46 := Bt_3 (q := 46) tX10_answer_43 rfl
theorem dX10_answer_46 : decode cX10_answer 46 = .ok (.iload 4, 2) := de_15 tX10_answer_46 (by decide +kernel)
def tX10_answer_48 := Bt_2 (q := 48) tX10_answer_46 rfl
theorem dX10_answer_48 : decode cX10_answer 48 = .ok (.iconst (-1), 1) := de_02 tX10_answer_48
def tX10_answer_49 := Bt_1 (q := 49) tX10_answer_48 rfl
theorem dX10_answer_49 : decode cX10_answer 49 = .ok (.iastore, 1) := de_4f tX10_answer_49
def tX10_answer_50 := Bt_1 (q := 50) tX10_answer_49 rfl
theorem dX10_answer_50 : decode cX10_answer 50 = .ok (.iconst 1, 1) := de_04 tX10_answer_50
def tX10_answer_51 := Bt_1 (q := 51) tX10_answer_50 rfl
theorem dX10_answer_51 : decode cX10_answer 51 = .ok (.ireturn, 1) := de_ac tX10_answer_51
def tX10_out_0 := Bt_0 cX10_out
theorem dX10_out_0 : decode cX10_out 0 = .ok (.iload_n 1, 1) := de_1b tX10_out_0
def tX10_out_1 := Bt_1 (q := 1) tX10_out_0 rfl
theorem dX10_out_1 : decode cX10_out 1 = .ok (.invokestatic 166, 3) := de_b8 tX10_out_1 (by decide +kernel)
def tX10_out_4 := Bt_3 (q := 4) tX10_out_1 rfl
theorem dX10_out_4 : decode cX10_out 4 = .ok (.ifCond .eq 11, 3) := de_99 tX10_out_4 (by decide +kernel)
def tX10_out_7 := Bt_3 (q := 7) tX10_out_4 rfl
theorem dX10_out_7 : decode cX10_out 7 = .ok (.aload_n 0, 1) := de_2a tX10_out_7
def tX10_out_8 := Bt_1 (q := 8) tX10_out_7 rfl
theorem dX10_out_8 : decode cX10_out 8 = .ok (.iload_n 2, 1) := de_1c tX10_out_8
def tX10_out_9 := Bt_1 (q := 9) tX10_out_8 rfl
theorem dX10_out_9 : decode cX10_out 9 = .ok (.invokevirtual 170, 3) := de_b6 tX10_out_9 (by decide +kernel)
def tX10_out_12 := Bt_3 (q := 12) tX10_out_9 rfl
theorem dX10_out_12 : decode cX10_out 12 = .ok (.ifCond .ne 9, 3) := de_9a tX10_out_12 (by decide +kernel)
def tX10_out_15 := Bt_3 (q := 15) tX10_out_12 rfl
theorem dX10_out_15 : decode cX10_out 15 = .ok (.aload_n 0, 1) := de_2a tX10_out_15
def tX10_out_16 := Bt_1 (q := 16) tX10_out_15 rfl
theorem dX10_out_16 : decode cX10_out 16 = .ok (.iconst (-1), 1) := de_02 tX10_out_16
def tX10_out_17 := Bt_1 (q := 17) tX10_out_16 rfl
theorem dX10_out_17 : decode cX10_out 17 = .ok (.invokevirtual 151, 3) := de_b6 tX10_out_17 (by decide +kernel)
def tX10_out_20 := Bt_3 (q := 20) tX10_out_17 rfl
theorem dX10_out_20 : decode cX10_out 20 = .ok (.ireturn, 1) := de_ac tX10_out_20
def tX10_out_21 := Bt_1 (q := 21) tX10_out_20 rfl
theorem dX10_out_21 : decode cX10_out 21 = .ok (.bipush 8, 2) := de_10 tX10_out_21 (by decide +kernel)
def tX10_out_23 := Bt_2 (q := 23) tX10_out_21 rfl
theorem dX10_out_23 : decode cX10_out 23 = .ok (.iload_n 2, 1) := de_1c tX10_out_23
def tX10_out_24 := Bt_1 (q := 24) tX10_out_23 rfl
theorem dX10_out_24 : decode cX10_out 24 = .ok (.imul, 1) := de_68 tX10_out_24
def tX10_out_25 := Bt_1 (q := 25) tX10_out_24 rfl
theorem dX10_out_25 : decode cX10_out 25 = .ok (.iload_n 1, 1) := de_1b tX10_out_25
def tX10_out_26 := Bt_1 (q := 26) tX10_out_25 rfl
theorem dX10_out_26 : decode cX10_out 26 = .ok (.iadd, 1) := de_60 tX10_out_26
def tX10_out_27 := Bt_1 (q := 27) tX10_out_26 rfl
theorem dX10_out_27 : decode cX10_out 27 = .ok (.istore 4, 2) := de_36 tX10_out_27 (by decide +kernel)
def tX10_out_29 := Bt_2 (q := 29) tX10_out_27 rfl
theorem dX10_out_29 : decode cX10_out 29 = .ok (.aload_n 0, 1) := de_2a tX10_out_29
def tX10_out_30 := Bt_1 (q := 30) tX10_out_29 rfl
theorem dX10_out_30 : decode cX10_out 30 = .ok (.getfield 36, 3) := de_b4 tX10_out_30 (by decide +kernel)
def tX10_out_33 := Bt_3 (q := 33) tX10_out_30 rfl
theorem dX10_out_33 : decode cX10_out 33 = .ok (.iload 4, 2) := de_15 tX10_out_33 (by decide +kernel)
def tX10_out_35 := Bt_2 (q := 35) tX10_out_33 rfl
theorem dX10_out_35 : decode cX10_out 35 = .ok (.baload, 1) := de_33 tX10_out_35
def tX10_out_36 := Bt_1 (q := 36) tX10_out_35 rfl
theorem dX10_out_36 : decode cX10_out 36 = .ok (.ifCond .ne 12, 3) := de_9a tX10_out_36 (by decide +kernel)
def tX10_out_39 := Bt_3 (q := 39) tX10_out_36 rfl
theorem dX10_out_39 : decode cX10_out 39 = .ok (.aload_n 0, 1) := de_2a tX10_out_39
def tX10_out_40 := Bt_1 (q := 40) tX10_out_39 rfl
theorem dX10_out_40 : decode cX10_out 40 = .ok (.iload 4, 2) := de_15 tX10_out_40 (by decide +kernel)
def tX10_out_42 := Bt_2 (q := 42) tX10_out_40 rfl
theorem dX10_out_42 : decode cX10_out 42 = .ok (.invokevirtual 194, 3) := de_b6 tX10_out_42 (by decide +kernel)
def tX10_out_45 := Bt_3 (q := 45) tX10_out_42 rfl
theorem dX10_out_45 : decode cX10_out 45 = .ok (.ifCond .eq 7, 3) := de_99 tX10_out_45 (by decide +kernel)
def tX10_out_48 := Bt_3 (q := 48) tX10_out_45 rfl
theorem dX10_out_48 : decode cX10_out 48 = .ok (.iconst 1, 1) := de_04 tX10_out_48
def tX10_out_49 := Bt_1 (q := 49) tX10_out_48 rfl
theorem dX10_out_49 : decode cX10_out 49 = .ok (.goto 4, 3) := de_a7 tX10_out_49 (by decide +kernel)
def tX10_out_52 := Bt_3 (q := 52) tX10_out_49 rfl
theorem dX10_out_52 : decode cX10_out 52 = .ok (.iconst 0, 1) := de_03 tX10_out_52
def tX10_out_53 := Bt_1 (q := 53) tX10_out_52 rfl
theorem dX10_out_53 : decode cX10_out 53 = .ok (.istore 5, 2) := de_36 tX10_out_53 (by decide +kernel)
def tX10_out_55 := Bt_2 (q := 55) tX10_out_53 rfl
theorem dX10_out_55 : decode cX10_out 55 = .ok (.aload_n 0, 1) := de_2a tX10_out_55
def tX10_out_56 := Bt_1 (q := 56) tX10_out_55 rfl
theorem dX10_out_56 : decode cX10_out 56 = .ok (.getfield 39, 3) := de_b4 tX10_out_56 (by decide +kernel)
def tX10_out_59 := Bt_3 (q := 59) tX10_out_56 rfl
theorem dX10_out_59 : decode cX10_out 59 = .ok (.iload 4, 2) := de_15 tX10_out_59 (by decide +kernel)
def tX10_out_61 := Bt_2 (q := 61) tX10_out_59 rfl
theorem dX10_out_61 : decode cX10_out 61 = .ok (.iload_n 3, 1) := de_1d tX10_out_61
def tX10_out_62 := Bt_1 (q := 62) tX10_out_61 rfl
theorem dX10_out_62 : decode cX10_out 62 = .ok (.ifCond .ne 16, 3) := de_9a tX10_out_62 (by decide +kernel)
def tX10_out_65 := Bt_3 (q := 65) tX10_out_62 rfl
theorem dX10_out_65 : decode cX10_out 65 = .ok (.aload_n 0, 1) := de_2a tX10_out_65
def tX10_out_66 := Bt_1 (q := 66) tX10_out_65 rfl
theorem dX10_out_66 : decode cX10_out 66 = .ok (.iload 4, 2) := de_15 tX10_out_66 (by decide +kernel)
def tX10_out_68 := Bt_2 (q := 68) tX10_out_66 rfl
theorem dX10_out_68 : decode cX10_out 68 = .ok (.invokevirtual 194, 3) := de_b6 tX10_out_68 (by decide +kernel)
def tX10_out_71 := Bt_3 (q := 71) tX10_out_68 rfl
theorem dX10_out_71 : decode cX10_out 71 = .ok (.ifCond .eq 7, 3) := de_99 tX10_out_71 (by decide +kernel)
def tX10_out_74 := Bt_3 (q := 74) tX10_out_71 rfl
theorem dX10_out_74 : decode cX10_out 74 = .ok (.iconst (-1), 1) := de_02 tX10_out_74
def tX10_out_75 := Bt_1 (q := 75) tX10_out_74 rfl
theorem dX10_out_75 : decode cX10_out 75 = .ok (.goto 10, 3) := de_a7 tX10_out_75 (by decide +kernel)
def tX10_out_78 := Bt_3 (q := 78) tX10_out_75 rfl
theorem dX10_out_78 : decode cX10_out 78 = .ok (.aload_n 0, 1) := de_2a tX10_out_78
def tX10_out_79 := Bt_1 (q := 79) tX10_out_78 rfl
theorem dX10_out_79 : decode cX10_out 79 = .ok (.getfield 39, 3) := de_b4 tX10_out_79 (by decide +kernel)
def tX10_out_82 := Bt_3 (q := 82) tX10_out_79 rfl
theorem dX10_out_82 : decode cX10_out 82 = .ok (.iload 4, 2) := de_15 tX10_out_82 (by decide +kernel)
def tX10_out_84 := Bt_2 (q := 84) tX10_out_82 rfl
theorem dX10_out_84 : decode cX10_out 84 = .ok (.iaload, 1) := de_2e tX10_out_84
def tX10_out_85 := Bt_1 (q := 85) tX10_out_84 rfl
theorem dX10_out_85 : decode cX10_out 85 = .ok (.iastore, 1) := de_4f tX10_out_85
def tX10_out_86 := Bt_1 (q := 86) tX10_out_85 rfl
theorem dX10_out_86 : decode cX10_out 86 = .ok (.aload_n 0, 1) := de_2a tX10_out_86
def tX10_out_87 := Bt_1 (q := 87) tX10_out_86 rfl
theorem dX10_out_87 : decode cX10_out 87 = .ok (.getfield 36, 3) := de_b4 tX10_out_87 (by decide +kernel)
def tX10_out_90 := Bt_3 (q := 90) tX10_out_87 rfl
theorem dX10_out_90 : decode cX10_out 90 = .ok (.iload 4, 2) := de_15 tX10_out_90 (by decide +kernel)
def tX10_out_92 := Bt_2 (q := 92) tX10_out_90 rfl
theorem dX10_out_92 : decode cX10_out 92 = .ok (.iload_n 3, 1) := de_1d tX10_out_92
def tX10_out_93 := Bt_1 (q := 93) tX10_out_92 rfl
theorem dX10_out_93 : decode cX10_out 93 = .ok (.bastore, 1) := de_54 tX10_out_93
def tX10_out_94 := Bt_1 (q := 94) tX10_out_93 rfl
theorem dX10_out_94 : decode cX10_out 94 = .ok (.aload_n 0, 1) := de_2a tX10_out_94
def tX10_out_95 := Bt_1 (q := 95) tX10_out_94 rfl
theorem dX10_out_95 : decode cX10_out 95 = .ok (.iconst 0, 1) := de_03 tX10_out_95
def tX10_out_96 := Bt_1 (q := 96) tX10_out_95 rfl
theorem dX10_out_96 : decode cX10_out 96 = .ok (.putfield 156, 3) := de_b5 tX10_out_96 (by decide +kernel)
def tX10_out_99 := Bt_3 (q := 99) tX10_out_96 rfl
theorem dX10_out_99 : decode cX10_out 99 = .ok (.iload 5, 2) := de_15 tX10_out_99 (by decide +kernel)
def tX10_out_101 := Bt_2 (q := 101) tX10_out_99 rfl
theorem dX10_out_101 : decode cX10_out 101 = .ok (.iload_n 3, 1) := de_1d tX10_out_101
def tX10_out_102 := Bt_1 (q := 102) tX10_out_101 rfl
theorem dX10_out_102 : decode cX10_out 102 = .ok (.if_icmp .ne 7, 3) := de_a0 tX10_out_102 (by decide +kernel)
def tX10_out_105 := Bt_3 (q := 105) tX10_out_102 rfl
theorem dX10_out_105 : decode cX10_out 105 = .ok (.iconst 0, 1) := de_03 tX10_out_105
def tX10_out_106 := Bt_1 (q := 106) tX10_out_105 rfl
theorem dX10_out_106 : decode cX10_out 106 = .ok (.goto 4, 3) := de_a7 tX10_out_106 (by decide +kernel)
def tX10_out_109 := Bt_3 (q := 109) tX10_out_106 rfl
theorem dX10_out_109 : decode cX10_out 109 = .ok (.iconst 1, 1) := de_04 tX10_out_109
def tX10_out_110 := Bt_1 (q := 110) tX10_out_109 rfl
theorem dX10_out_110 : decode cX10_out 110 = .ok (.ireturn, 1) := de_ac tX10_out_110
def tX10_most_0 := Bt_0 cX10_most
theorem dX10_most_0 : decode cX10_most 0 = .ok (.iload_n 1, 1) := de_1b tX10_most_0
def tX10_most_1 := Bt_1 (q := 1) tX10_most_0 rfl
theorem dX10_most_1 : decode cX10_most 1 = .ok (.invokestatic 166, 3) := de_b8 tX10_most_1 (by decide +kernel)
def tX10_most_4 := Bt_3 (q := 4) tX10_most_1 rfl
theorem dX10_most_4 : decode cX10_most 4 = .ok (.ifCond .ne 9, 3) := de_9a tX10_most_4 (by decide +kernel)
def tX10_most_7 := Bt_3 (q := 7) tX10_most_4 rfl
theorem dX10_most_7 : decode cX10_most 7 = .ok (.aload_n 0, 1) := de_2a tX10_most_7
def tX10_most_8 := Bt_1 (q := 8) tX10_most_7 rfl
theorem dX10_most_8 : decode cX10_most 8 = .ok (.iconst (-1), 1) := de_02 tX10_most_8
def tX10_most_9 := Bt_1 (q := 9) tX10_most_8 rfl
theorem dX10_most_9 : decode cX10_most 9 = .ok (.invokevirtual 151, 3) := de_b6 tX10_most_9 (by decide +kernel)
def tX10_most_12 := Bt_3 (q := 12) tX10_most_9 rfl
theorem dX10_most_12 : decode cX10_most 12 = .ok (.ireturn, 1) := de_ac tX10_most_12
def tX10_most_13 := Bt_1 (q := 13) tX10_most_12 rfl
theorem dX10_most_13 : decode cX10_most 13 = .ok (.iload_n 2, 1) := de_1c tX10_most_13
def tX10_most_14 := Bt_1 (q := 14) tX10_most_13 rfl
theorem dX10_most_14 : decode cX10_most 14 = .ok (.ifCond .ge 10, 3) := de_9c tX10_most_14 (by decide +kernel)
def tX10_most_17 := Bt_3 (q := 17) tX10_most_14 rfl
theorem dX10_most_17 : decode cX10_most 17 = .ok (.aload_n 0, 1) := de_2a tX10_most_17
def tX10_most_18 := Bt_1 (q := 18) tX10_most_17 rfl
theorem dX10_most_18 : decode cX10_most 18 = .ok (.bipush (-4), 2) := de_10 tX10_most_18 (by decide +kernel)
def tX10_most_20 := Bt_2 (q := 20) tX10_most_18 rfl
theorem dX10_most_20 : decode cX10_most 20 = .ok (.invokevirtual 151, 3) := de_b6 tX10_most_20 (by decide +kernel)
def tX10_most_23 := Bt_3 (q := 23) tX10_most_20 rfl
theorem dX10_most_23 : decode cX10_most 23 = .ok (.ireturn, 1) := de_ac tX10_most_23
def tX10_most_24 := Bt_1 (q := 24) tX10_most_23 rfl
theorem dX10_most_24 : decode cX10_most 24 = .ok (.iload_n 2, 1) := de_1c tX10_most_24
def tX10_most_25 := Bt_1 (q := 25) tX10_most_24 rfl
theorem dX10_most_25 : decode cX10_most 25 = .ok (.bipush 6, 2) := de_10 tX10_most_25 (by decide +kernel)
def tX10_most_27 := Bt_2 (q := 27) tX10_most_25 rfl
theorem dX10_most_27 : decode cX10_most 27 = .ok (.if_icmp .le 10, 3) := de_a4 tX10_most_27 (by decide +kernel)
def tX10_most_30 := Bt_3 (q := 30) tX10_most_27 rfl
theorem dX10_most_30 : decode cX10_most 30 = .ok (.aload_n 0, 1) := de_2a tX10_most_30
def tX10_most_31 := Bt_1 (q := 31) tX10_most_30 rfl
theorem dX10_most_31 : decode cX10_most 31 = .ok (.bipush (-6), 2) := de_10 tX10_most_31 (by decide +kernel)
def tX10_most_33 := Bt_2 (q := 33) tX10_most_31 rfl
theorem dX10_most_33 : decode cX10_most 33 = .ok (.invokevirtual 151, 3) := de_b6 tX10_most_33 (by decide +kernel)
def tX10_most_36 := Bt_3 (q := 36) tX10_most_33 rfl
theorem dX10_most_36 : decode cX10_most 36 = .ok (.ireturn, 1) := de_ac tX10_most_36
def tX10_most_37 := Bt_1 (q := 37) tX10_most_36 rfl
theorem dX10_most_37 : decode cX10_most 37 = .ok (.aload_n 0, 1) := de_2a tX10_most_37
def tX10_most_38 := Bt_1 (q := 38) tX10_most_37 rfl
theorem dX10_most_38 : decode cX10_most 38 = .ok (.getfield 79, 3) := de_b4 tX10_most_38 (by decide +kernel)
def tX10_most_41 := Bt_3 (q := 41) tX10_most_38 rfl
theorem dX10_most_41 : decode cX10_most 41 = .ok (.iload_n 1, 1) := de_1b tX10_most_41
def tX10_most_42 := Bt_1 (q := 42) tX10_most_41 rfl
theorem dX10_most_42 : decode cX10_most 42 = .ok (.iaload, 1) := de_2e tX10_most_42
def tX10_most_43 := Bt_1 (q := 43) tX10_most_42 rfl
theorem dX10_most_43 : decode cX10_most 43 = .ok (.istore_n 3, 1) := de_3e tX10_most_43
def tX10_most_44 := Bt_1 (q := 44) tX10_most_43 rfl
theorem dX10_most_44 : decode cX10_most 44 = .ok (.aload_n 0, 1) := de_2a tX10_most_44
def tX10_most_45 := Bt_1 (q := 45) tX10_most_44 rfl
theorem dX10_most_45 : decode cX10_most 45 = .ok (.getfield 79, 3) := de_b4 tX10_most_45 (by decide +kernel)
def tX10_most_48 := Bt_3 (q := 48) tX10_most_45 rfl
theorem dX10_most_48 : decode cX10_most 48 = .ok (.iload_n 1, 1) := de_1b tX10_most_48
def tX10_most_49 := Bt_1 (q := 49) tX10_most_48 rfl
theorem dX10_most_49 : decode cX10_most 49 = .ok (.iload_n 2, 1) := de_1c tX10_most_49
def tX10_most_50 := Bt_1 (q := 50) tX10_most_49 rfl
theorem dX10_most_50 : decode cX10_most 50 = .ok (.iastore, 1) := de_4f tX10_most_50
def tX10_most_51 := Bt_1 (q := 51) tX10_most_50 rfl
theorem dX10_most_51 : decode cX10_most 51 = .ok (.aload_n 0, 1) := de_2a tX10_most_51
def tX10_most_52 := Bt_1 (q := 52) tX10_most_51 rfl
theorem dX10_most_52 : decode cX10_most 52 = .ok (.iconst 0, 1) := de_03 tX10_most_52
def tX10_most_53 := Bt_1 (q := 53) tX10_most_52 rfl
theorem dX10_most_53 : decode cX10_most 53 = .ok (.putfield 156, 3) := de_b5 tX10_most_53 (by decide +kernel)
def tX10_most_56 := Bt_3 (q := 56) tX10_most_53 rfl
theorem dX10_most_56 : decode cX10_most 56 = .ok (.iload_n 3, 1) := de_1d tX10_most_56
def tX10_most_57 := Bt_1 (q := 57) tX10_most_56 rfl
theorem dX10_most_57 : decode cX10_most 57 = .ok (.ireturn, 1) := de_ac tX10_most_57
def tX10_rebate_0 := Bt_0 cX10_rebate
theorem dX10_rebate_0 : decode cX10_rebate 0 = .ok (.iload_n 1, 1) := de_1b tX10_rebate_0
def tX10_rebate_1 := Bt_1 (q := 1) tX10_rebate_0 rfl
theorem dX10_rebate_1 : decode cX10_rebate 1 = .ok (.invokestatic 166, 3) := de_b8 tX10_rebate_1 (by decide +kernel)
def tX10_rebate_4 := Bt_3 (q := 4) tX10_rebate_1 rfl
theorem dX10_rebate_4 : decode cX10_rebate 4 = .ok (.ifCond .ne 9, 3) := de_9a tX10_rebate_4 (by decide +kernel)
def tX10_rebate_7 := Bt_3 (q := 7) tX10_rebate_4 rfl
theorem dX10_rebate_7 : decode cX10_rebate 7 = .ok (.aload_n 0, 1) := de_2a tX10_rebate_7
def tX10_rebate_8 := Bt_1 (q := 8) tX10_rebate_7 rfl
theorem dX10_rebate_8 : decode cX10_rebate 8 = .ok (.iconst (-1), 1) := de_02 tX10_rebate_8
def tX10_rebate_9 := Bt_1 (q := 9) tX10_rebate_8 rfl
theorem dX10_rebate_9 : decode cX10_rebate 9 = .ok (.invokevirtual 151, 3) := de_b6 tX10_rebate_9 (by decide +kernel)
def tX10_rebate_12 := Bt_3 (q := 12) tX10_rebate_9 rfl
theorem dX10_rebate_12 : decode cX10_rebate 12 = .ok (.ireturn, 1) := de_ac tX10_rebate_12
def tX10_rebate_13 := Bt_1 (q := 13) tX10_rebate_12 rfl
theorem dX10_rebate_13 : decode cX10_rebate 13 = .ok (.iload_n 2, 1) := de_1c tX10_rebate_13
def tX10_rebate_14 := Bt_1 (q := 14) tX10_rebate_13 rfl
theorem dX10_rebate_14 : decode cX10_rebate 14 = .ok (.iconst 1, 1) := de_04 tX10_rebate_14
def tX10_rebate_15 := Bt_1 (q := 15) tX10_rebate_14 rfl
theorem dX10_rebate_15 : decode cX10_rebate 15 = .ok (.if_icmp .lt 7, 3) := de_a1 tX10_rebate_15 (by decide +kernel)
def tX10_rebate_18 := Bt_3 (q := 18) tX10_rebate_15 rfl
theorem dX10_rebate_18 : decode cX10_rebate 18 = .ok (.iload_n 3, 1) := de_1d tX10_rebate_18
def tX10_rebate_19 := Bt_1 (q := 19) tX10_rebate_18 rfl
theorem dX10_rebate_19 : decode cX10_rebate 19 = .ok (.ifCond .ge 10, 3) := de_9c tX10_rebate_19 (by decide +kernel)
def tX10_rebate_22 := Bt_3 (q := 22) tX10_rebate_19 rfl
theorem dX10_rebate_22 : decode cX10_rebate 22 = .ok (.aload_n 0, 1) := de_2a tX10_rebate_22
def tX10_rebate_23 := Bt_1 (q := 23) tX10_rebate_22 rfl
theorem dX10_rebate_23 : decode cX10_rebate 23 = .ok (.bipush (-4), 2) := de_10 tX10_rebate_23 (by decide +kernel)
def tX10_rebate_25 := Bt_2 (q := 25) tX10_rebate_23 rfl
theorem dX10_rebate_25 : decode cX10_rebate 25 = .ok (.invokevirtual 151, 3) := de_b6 tX10_rebate_25 (by decide +kernel)
def tX10_rebate_28 := Bt_3 (q := 28) tX10_rebate_25 rfl
theorem dX10_rebate_28 : decode cX10_rebate 28 = .ok (.ireturn, 1) := de_ac tX10_rebate_28
def tX10_rebate_29 := Bt_1 (q := 29) tX10_rebate_28 rfl
theorem dX10_rebate_29 : decode cX10_rebate 29 = .ok (.iload_n 2, 1) := de_1c tX10_rebate_29
def tX10_rebate_30 := Bt_1 (q := 30) tX10_rebate_29 rfl
theorem dX10_rebate_30 : decode cX10_rebate 30 = .ok (.bipush 6, 2) := de_10 tX10_rebate_30 (by decide +kernel)
def tX10_rebate_32 := Bt_2 (q := 32) tX10_rebate_30 rfl
theorem dX10_rebate_32 : decode cX10_rebate 32 = .ok (.if_icmp .gt 9, 3) := de_a3 tX10_rebate_32 (by decide +kernel)
def tX10_rebate_35 := Bt_3 (q := 35) tX10_rebate_32 rfl
theorem dX10_rebate_35 : decode cX10_rebate 35 = .ok (.iload_n 3, 1) := de_1d tX10_rebate_35
def tX10_rebate_36 := Bt_1 (q := 36) tX10_rebate_35 rfl
theorem dX10_rebate_36 : decode cX10_rebate 36 = .ok (.bipush 50, 2) := de_10 tX10_rebate_36 (by decide +kernel)
def tX10_rebate_38 := Bt_2 (q := 38) tX10_rebate_36 rfl
theorem dX10_rebate_38 : decode cX10_rebate 38 = .ok (.if_icmp .le 10, 3) := de_a4 tX10_rebate_38 (by decide +kernel)
def tX10_rebate_41 := Bt_3 (q := 41) tX10_rebate_38 rfl
theorem dX10_rebate_41 : decode cX10_rebate 41 = .ok (.aload_n 0, 1) := de_2a tX10_rebate_41
def tX10_rebate_42 := Bt_1 (q := 42) tX10_rebate_41 rfl
theorem dX10_rebate_42 : decode cX10_rebate 42 = .ok (.bipush (-6), 2) := de_10 tX10_rebate_42 (by decide +kernel)
def tX10_rebate_44 := Bt_2 (q := 44) tX10_rebate_42 rfl
theorem dX10_rebate_44 : decode cX10_rebate 44 = .ok (.invokevirtual 151, 3) := de_b6 tX10_rebate_44 (by decide +kernel)
def tX10_rebate_47 := Bt_3 (q := 47) tX10_rebate_44 rfl
theorem dX10_rebate_47 : decode cX10_rebate 47 = .ok (.ireturn, 1) := de_ac tX10_rebate_47
def tX10_rebate_48 := Bt_1 (q := 48) tX10_rebate_47 rfl
theorem dX10_rebate_48 : decode cX10_rebate 48 = .ok (.aload_n 0, 1) := de_2a tX10_rebate_48
def tX10_rebate_49 := Bt_1 (q := 49) tX10_rebate_48 rfl
theorem dX10_rebate_49 : decode cX10_rebate 49 = .ok (.getfield 82, 3) := de_b4 tX10_rebate_49 (by decide +kernel)
def tX10_rebate_52 := Bt_3 (q := 52) tX10_rebate_49 rfl
theorem dX10_rebate_52 : decode cX10_rebate 52 = .ok (.bipush 7, 2) := de_10 tX10_rebate_52 (by decide +kernel)
def tX10_rebate_54 := Bt_2 (q := 54) tX10_rebate_52 rfl
theorem dX10_rebate_54 : decode cX10_rebate 54 = .ok (.iload_n 1, 1) := de_1b tX10_rebate_54
def tX10_rebate_55 := Bt_1 (q := 55) tX10_rebate_54 rfl
theorem dX10_rebate_55 : decode cX10_rebate 55 = .ok (.imul, 1) := de_68 tX10_rebate_55
def tX10_rebate_56 := Bt_1 (q := 56) tX10_rebate_55 rfl
theorem dX10_rebate_56 : decode cX10_rebate 56 = .ok (.iload_n 2, 1) := de_1c tX10_rebate_56
def tX10_rebate_57 := Bt_1 (q := 57) tX10_rebate_56 rfl
theorem dX10_rebate_57 : decode cX10_rebate 57 = .ok (.iadd, 1) := de_60 tX10_rebate_57
def tX10_rebate_58 := Bt_1 (q := 58) tX10_rebate_57 rfl
theorem dX10_rebate_58 : decode cX10_rebate 58 = .ok (.iaload, 1) := de_2e tX10_rebate_58
def tX10_rebate_59 := Bt_1 (q := 59) tX10_rebate_58 rfl
theorem dX10_rebate_59 : decode cX10_rebate 59 = .ok (.istore 4, 2) := de_36 tX10_rebate_59 (by decide +kernel)
def tX10_rebate_61 := Bt_2 (q := 61) tX10_rebate_59 rfl
theorem dX10_rebate_61 : decode cX10_rebate 61 = .ok (.aload_n 0, 1) := de_2a tX10_rebate_61
def tX10_rebate_62 := Bt_1 (q := 62) tX10_rebate_61 rfl
theorem dX10_rebate_62 : decode cX10_rebate 62 = .ok (.getfield 82, 3) := de_b4 tX10_rebate_62 (by decide +kernel)
def tX10_rebate_65 := Bt_3 (q := 65) tX10_rebate_62 rfl
theorem dX10_rebate_65 : decode cX10_rebate 65 = .ok (.bipush 7, 2) := de_10 tX10_rebate_65 (by decide +kernel)
def tX10_rebate_67 := Bt_2 (q := 67) tX10_rebate_65 rfl
theorem dX10_rebate_67 : decode cX10_rebate 67 = .ok (.iload_n 1, 1) := de_1b tX10_rebate_67
def tX10_rebate_68 := Bt_1 (q := 68) tX10_rebate_67 rfl
theorem dX10_rebate_68 : decode cX10_rebate 68 = .ok (.imul, 1) := de_68 tX10_rebate_68
def tX10_rebate_69 := Bt_1 (q := 69) tX10_rebate_68 rfl
theorem dX10_rebate_69 : decode cX10_rebate 69 = .ok (.iload_n 2, 1) := de_1c tX10_rebate_69
def tX10_rebate_70 := Bt_1 (q := 70) tX10_rebate_69 rfl
theorem dX10_rebate_70 : decode cX10_rebate 70 = .ok (.iadd, 1) := de_60 tX10_rebate_70
def tX10_rebate_71 := Bt_1 (q := 71) tX10_rebate_70 rfl
theorem dX10_rebate_71 : decode cX10_rebate 71 = .ok (.iload_n 3, 1) := de_1d tX10_rebate_71
def tX10_rebate_72 := Bt_1 (q := 72) tX10_rebate_71 rfl
theorem dX10_rebate_72 : decode cX10_rebate 72 = .ok (.iastore, 1) := de_4f tX10_rebate_72
def tX10_rebate_73 := Bt_1 (q := 73) tX10_rebate_72 rfl
theorem dX10_rebate_73 : decode cX10_rebate 73 = .ok (.aload_n 0, 1) := de_2a tX10_rebate_73
def tX10_rebate_74 := Bt_1 (q := 74) tX10_rebate_73 rfl
theorem dX10_rebate_74 : decode cX10_rebate 74 = .ok (.iconst 0, 1) := de_03 tX10_rebate_74
def tX10_rebate_75 := Bt_1 (q := 75) tX10_rebate_74 rfl
theorem dX10_rebate_75 : decode cX10_rebate 75 = .ok (.putfield 156, 3) := de_b5 tX10_rebate_75 (by decide +kernel)
def tX10_rebate_78 := Bt_3 (q := 78) tX10_rebate_75 rfl
theorem dX10_rebate_78 : decode cX10_rebate 78 = .ok (.iload 4, 2) := de_15 tX10_rebate_78 (by decide +kernel)
def tX10_rebate_80 := Bt_2 (q := 80) tX10_rebate_78 rfl
theorem dX10_rebate_80 : decode cX10_rebate 80 = .ok (.ireturn, 1) := de_ac tX10_rebate_80
def tX10_valueOf_0 := Bt_0 cX10_valueOf
theorem dX10_valueOf_0 : decode cX10_valueOf 0 = .ok (.aload_n 0, 1) := de_2a tX10_valueOf_0
def tX10_valueOf_1 := Bt_1 (q := 1) tX10_valueOf_0 rfl
theorem dX10_valueOf_1 : decode cX10_valueOf 1 = .ok (.getfield 100, 3) := de_b4 tX10_valueOf_1 (by decide +kernel)
def tX10_valueOf_4 := Bt_3 (q := 4) tX10_valueOf_1 rfl
theorem dX10_valueOf_4 : decode cX10_valueOf 4 = .ok (.iload_n 1, 1) := de_1b tX10_valueOf_4
def tX10_valueOf_5 := Bt_1 (q := 5) tX10_valueOf_4 rfl
theorem dX10_valueOf_5 : decode cX10_valueOf 5 = .ok (.iaload, 1) := de_2e tX10_valueOf_5
def tX10_valueOf_6 := Bt_1 (q := 6) tX10_valueOf_5 rfl
theorem dX10_valueOf_6 : decode cX10_valueOf 6 = .ok (.i2l, 1) := de_85 tX10_valueOf_6
def tX10_valueOf_7 := Bt_1 (q := 7) tX10_valueOf_6 rfl
theorem dX10_valueOf_7 : decode cX10_valueOf 7 = .ok (.bipush 100, 2) := de_10 tX10_valueOf_7 (by decide +kernel)
def tX10_valueOf_9 := Bt_2 (q := 9) tX10_valueOf_7 rfl
theorem dX10_valueOf_9 : decode cX10_valueOf 9 = .ok (.aload_n 0, 1) := de_2a tX10_valueOf_9
def tX10_valueOf_10 := Bt_1 (q := 10) tX10_valueOf_9 rfl
theorem dX10_valueOf_10 : decode cX10_valueOf 10 = .ok (.getfield 82, 3) := de_b4 tX10_valueOf_10 (by decide +kernel)
def tX10_valueOf_13 := Bt_3 (q := 13) tX10_valueOf_10 rfl
theorem dX10_valueOf_13 : decode cX10_valueOf 13 = .ok (.bipush 7, 2) := de_10 tX10_valueOf_13 (by decide +kernel)
def tX10_valueOf_15 := Bt_2 (q := 15) tX10_valueOf_13 rfl
theorem dX10_valueOf_15 : decode cX10_valueOf 15 = .ok (.iload_n 1, 1) := de_1b tX10_valueOf_15
def tX10_valueOf_16 := Bt_1 (q := 16) tX10_valueOf_15 rfl
theorem dX10_valueOf_16 : decode cX10_valueOf 16 = .ok (.imul, 1) := de_68 tX10_valueOf_16
def tX10_valueOf_17 := Bt_1 (q := 17) tX10_valueOf_16 rfl
theorem dX10_valueOf_17 : decode cX10_valueOf 17 = .ok (.aload_n 0, 1) := de_2a tX10_valueOf_17
def tX10_valueOf_18 := Bt_1 (q := 18) tX10_valueOf_17 rfl
theorem dX10_valueOf_18 : decode cX10_valueOf 18 = .ok (.getfield 97, 3) := de_b4 tX10_valueOf_18 (by decide +kernel)
def tX10_valueOf_21 := Bt_3 (q := 21) tX10_valueOf_18 rfl
theorem dX10_valueOf_21 : decode cX10_valueOf 21 = .ok (.iload_n 1, 1) := de_1b tX10_valueOf_21
def tX10_valueOf_22 := Bt_1 (q := 22) tX10_valueOf_21 rfl
theorem dX10_valueOf_22 : decode cX10_valueOf 22 = .ok (.iaload, 1) := de_2e tX10_valueOf_22
def tX10_valueOf_23 := Bt_1 (q := 23) tX10_valueOf_22 rfl
theorem dX10_valueOf_23 : decode cX10_valueOf 23 = .ok (.iadd, 1) := de_60 tX10_valueOf_23
def tX10_valueOf_24 := Bt_1 (q := 24) tX10_valueOf_23 rfl
theorem dX10_valueOf_24 : decode cX10_valueOf 24 = .ok (.iaload, 1) := de_2e tX10_valueOf_24
def tX10_valueOf_25 := Bt_1 (q := 25) tX10_valueOf_24 rfl
theorem dX10_valueOf_25 : decode cX10_valueOf 25 = .ok (.isub, 1) := de_64 tX10_valueOf_25
def tX10_valueOf_26 := Bt_1 (q := 26) tX10_valueOf_25 rfl
theorem dX10_valueOf_26 : decode cX10_valueOf 26 = .ok (.i2l, 1) := de_85 tX10_valueOf_26
def tX10_valueOf_27 := Bt_1 (q := 27) tX10_valueOf_26 rfl
theorem dX10_valueOf_27 : decode cX10_valueOf 27 = .ok (.lmul, 1) := de_69 tX10_valueOf_27
def tX10_valueOf_28 := Bt_1 (q := 28) tX10_valueOf_27 rfl
theorem dX10_valueOf_28 : decode cX10_valueOf 28 = .ok (.ldc2_w 327, 3) := de_14 tX10_valueOf_28 (by decide +kernel)
def tX10_valueOf_31 := Bt_3 (q := 31) tX10_valueOf_28 rfl
theorem dX10_valueOf_31 : decode cX10_valueOf 31 = .ok (.ladd, 1) := de_61 tX10_valueOf_31
def tX10_valueOf_32 := Bt_1 (q := 32) tX10_valueOf_31 rfl
theorem dX10_valueOf_32 : decode cX10_valueOf 32 = .ok (.ldc2_w 187, 3) := de_14 tX10_valueOf_32 (by decide +kernel)
def tX10_valueOf_35 := Bt_3 (q := 35) tX10_valueOf_32 rfl
theorem dX10_valueOf_35 : decode cX10_valueOf 35 = .ok (.ldiv, 1) := de_6d tX10_valueOf_35
def tX10_valueOf_36 := Bt_1 (q := 36) tX10_valueOf_35 rfl
theorem dX10_valueOf_36 : decode cX10_valueOf 36 = .ok (.l2i, 1) := de_88 tX10_valueOf_36
def tX10_valueOf_37 := Bt_1 (q := 37) tX10_valueOf_36 rfl
theorem dX10_valueOf_37 : decode cX10_valueOf 37 = .ok (.ireturn, 1) := de_ac tX10_valueOf_37
def tX10_tryPicks_0 := Bt_0 cX10_tryPicks
theorem dX10_tryPicks_0 : decode cX10_tryPicks 0 = .ok (.iconst 0, 1) := de_03 tX10_tryPicks_0
def tX10_tryPicks_1 := Bt_1 (q := 1) tX10_tryPicks_0 rfl
theorem dX10_tryPicks_1 : decode cX10_tryPicks 1 = .ok (.istore_n 1, 1) := de_3c tX10_tryPicks_1
def tX10_tryPicks_2 := Bt_1 (q := 2) tX10_tryPicks_1 rfl
theorem dX10_tryPicks_2 : decode cX10_tryPicks 2 = .ok (.iconst 0, 1) := de_03 tX10_tryPicks_2
def tX10_tryPicks_3 := Bt_1 (q := 3) tX10_tryPicks_2 rfl
theorem dX10_tryPicks_3 : decode cX10_tryPicks 3 = .ok (.istore_n 2, 1) := de_3d tX10_tryPicks_3
def tX10_tryPicks_4 := Bt_1 (q := 4) tX10_tryPicks_3 rfl
theorem dX10_tryPicks_4 : decode cX10_tryPicks 4 = .ok (.iconst 0, 1) := de_03 tX10_tryPicks_4
def tX10_tryPicks_5 := Bt_1 (q := 5) tX10_tryPicks_4 rfl
theorem dX10_tryPicks_5 : decode cX10_tryPicks 5 = .ok (.istore_n 3, 1) := de_3e tX10_tryPicks_5
def tX10_tryPicks_6 := Bt_1 (q := 6) tX10_tryPicks_5 rfl
theorem dX10_tryPicks_6 : decode cX10_tryPicks 6 = .ok (.iload_n 3, 1) := de_1d tX10_tryPicks_6
def tX10_tryPicks_7 := Bt_1 (q := 7) tX10_tryPicks_6 rfl
theorem dX10_tryPicks_7 : decode cX10_tryPicks 7 = .ok (.bipush 8, 2) := de_10 tX10_tryPicks_7 (by decide +kernel)
def tX10_tryPicks_9 := Bt_2 (q := 9) tX10_tryPicks_7 rfl
theorem dX10_tryPicks_9 : decode cX10_tryPicks 9 = .ok (.if_icmp .ge 23, 3) := de_a2 tX10_tryPicks_9 (by decide +kernel)
def tX10_tryPicks_12 := Bt_3 (q := 12) tX10_tryPicks_9 rfl
theorem dX10_tryPicks_12 : decode cX10_tryPicks 12 = .ok (.aload_n 0, 1) := de_2a tX10_tryPicks_12
def tX10_tryPicks_13 := Bt_1 (q := 13) tX10_tryPicks_12 rfl
theorem dX10_tryPicks_13 : decode cX10_tryPicks 13 = .ok (.getfield 97, 3) := de_b4 tX10_tryPicks_13 (by decide +kernel)
def tX10_tryPicks_16 := Bt_3 (q := 16) tX10_tryPicks_13 rfl
theorem dX10_tryPicks_16 : decode cX10_tryPicks 16 = .ok (.iload_n 3, 1) := de_1d tX10_tryPicks_16
def tX10_tryPicks_17 := Bt_1 (q := 17) tX10_tryPicks_16 rfl
theorem dX10_tryPicks_17 : decode cX10_tryPicks 17 = .ok (.iconst 0, 1) := de_03 tX10_tryPicks_17
def tX10_tryPicks_18 := Bt_1 (q := 18) tX10_tryPicks_17 rfl
theorem dX10_tryPicks_18 : decode cX10_tryPicks 18 = .ok (.iastore, 1) := de_4f tX10_tryPicks_18
def tX10_tryPicks_19 := Bt_1 (q := 19) tX10_tryPicks_18 rfl
theorem dX10_tryPicks_19 : decode cX10_tryPicks 19 = .ok (.aload_n 0, 1) := de_2a tX10_tryPicks_19
def tX10_tryPicks_20 := Bt_1 (q := 20) tX10_tryPicks_19 rfl
theorem dX10_tryPicks_20 : decode cX10_tryPicks 20 = .ok (.getfield 100, 3) := de_b4 tX10_tryPicks_20 (by decide +kernel)
def tX10_tryPicks_23 := Bt_3 (q := 23) tX10_tryPicks_20 rfl
theorem dX10_tryPicks_23 : decode cX10_tryPicks 23 = .ok (.iload_n 3, 1) := de_1d tX10_tryPicks_23
def tX10_tryPicks_24 := Bt_1 (q := 24) tX10_tryPicks_23 rfl
theorem dX10_tryPicks_24 : decode cX10_tryPicks 24 = .ok (.iconst 0, 1) := de_03 tX10_tryPicks_24
def tX10_tryPicks_25 := Bt_1 (q := 25) tX10_tryPicks_24 rfl
theorem dX10_tryPicks_25 : decode cX10_tryPicks 25 = .ok (.iastore, 1) := de_4f tX10_tryPicks_25
def tX10_tryPicks_26 := Bt_1 (q := 26) tX10_tryPicks_25 rfl
theorem dX10_tryPicks_26 : decode cX10_tryPicks 26 = .ok (.iinc 3 1, 3) := de_84 tX10_tryPicks_26 (by decide +kernel) (by decide +kernel)
def tX10_tryPicks_29 := Bt_3 (q := 29) tX10_tryPicks_26 rfl
theorem dX10_tryPicks_29 : decode cX10_tryPicks 29 = .ok (.goto (-23), 3) := de_a7 tX10_tryPicks_29 (by decide +kernel)
def tX10_tryPicks_32 := Bt_3 (q := 32) tX10_tryPicks_29 rfl
theorem dX10_tryPicks_32 : decode cX10_tryPicks 32 = .ok (.iconst 0, 1) := de_03 tX10_tryPicks_32
def tX10_tryPicks_33 := Bt_1 (q := 33) tX10_tryPicks_32 rfl
theorem dX10_tryPicks_33 : decode cX10_tryPicks 33 = .ok (.istore_n 3, 1) := de_3e tX10_tryPicks_33
def tX10_tryPicks_34 := Bt_1 (q := 34) tX10_tryPicks_33 rfl
theorem dX10_tryPicks_34 : decode cX10_tryPicks 34 = .ok (.iload_n 3, 1) := de_1d tX10_tryPicks_34
def tX10_tryPicks_35 := Bt_1 (q := 35) tX10_tryPicks_34 rfl
theorem dX10_tryPicks_35 : decode cX10_tryPicks 35 = .ok (.aload_n 0, 1) := de_2a tX10_tryPicks_35
def tX10_tryPicks_36 := Bt_1 (q := 36) tX10_tryPicks_35 rfl
theorem dX10_tryPicks_36 : decode cX10_tryPicks 36 = .ok (.getfield 17, 3) := de_b4 tX10_tryPicks_36 (by decide +kernel)
def tX10_tryPicks_39 := Bt_3 (q := 39) tX10_tryPicks_36 rfl
theorem dX10_tryPicks_39 : decode cX10_tryPicks 39 = .ok (.if_icmp .ge 86, 3) := de_a2 tX10_tryPicks_39 (by decide +kernel)
def tX10_tryPicks_42 := Bt_3 (q := 42) tX10_tryPicks_39 rfl
theorem dX10_tryPicks_42 : decode cX10_tryPicks 42 = .ok (.aload_n 0, 1) := de_2a tX10_tryPicks_42
def tX10_tryPicks_43 := Bt_1 (q := 43) tX10_tryPicks_42 rfl
theorem dX10_tryPicks_43 : decode cX10_tryPicks 43 = .ok (.getfield 94, 3) := de_b4 tX10_tryPicks_43 (by decide +kernel)
def tX10_tryPicks_46 := Bt_3 (q := 46) tX10_tryPicks_43 rfl
theorem dX10_tryPicks_46 : decode cX10_tryPicks 46 = .ok (.iload_n 3, 1) := de_1d tX10_tryPicks_46
def tX10_tryPicks_47 := Bt_1 (q := 47) tX10_tryPicks_46 rfl
theorem dX10_tryPicks_47 : decode cX10_tryPicks 47 = .ok (.iaload, 1) := de_2e tX10_tryPicks_47
def tX10_tryPicks_48 := Bt_1 (q := 48) tX10_tryPicks_47 rfl
theorem dX10_tryPicks_48 : decode cX10_tryPicks 48 = .ok (.aload_n 0, 1) := de_2a tX10_tryPicks_48
def tX10_tryPicks_49 := Bt_1 (q := 49) tX10_tryPicks_48 rfl
theorem dX10_tryPicks_49 : decode cX10_tryPicks 49 = .ok (.getfield 91, 3) := de_b4 tX10_tryPicks_49 (by decide +kernel)
def tX10_tryPicks_52 := Bt_3 (q := 52) tX10_tryPicks_49 rfl
theorem dX10_tryPicks_52 : decode cX10_tryPicks 52 = .ok (.iload_n 3, 1) := de_1d tX10_tryPicks_52
def tX10_tryPicks_53 := Bt_1 (q := 53) tX10_tryPicks_52 rfl
theorem dX10_tryPicks_53 : decode cX10_tryPicks 53 = .ok (.iaload, 1) := de_2e tX10_tryPicks_53
def tX10_tryPicks_54 := Bt_1 (q := 54) tX10_tryPicks_53 rfl
theorem dX10_tryPicks_54 : decode cX10_tryPicks 54 = .ok (.if_icmp .ge 65, 3) := de_a2 tX10_tryPicks_54 (by decide +kernel)
def tX10_tryPicks_57 := Bt_3 (q := 57) tX10_tryPicks_54 rfl
theorem dX10_tryPicks_57 : decode cX10_tryPicks 57 = .ok (.aload_n 0, 1) := de_2a tX10_tryPicks_57
def tX10_tryPicks_58 := Bt_1 (q := 58) tX10_tryPicks_57 rfl
theorem dX10_tryPicks_58 : decode cX10_tryPicks 58 = .ok (.getfield 88, 3) := de_b4 tX10_tryPicks_58 (by decide +kernel)
def tX10_tryPicks_61 := Bt_3 (q := 61) tX10_tryPicks_58 rfl
theorem dX10_tryPicks_61 : decode cX10_tryPicks 61 = .ok (.bipush 8, 2) := de_10 tX10_tryPicks_61 (by decide +kernel)
def tX10_tryPicks_63 := Bt_2 (q := 63) tX10_tryPicks_61 rfl
theorem dX10_tryPicks_63 : decode cX10_tryPicks 63 = .ok (.iload_n 3, 1) := de_1d tX10_tryPicks_63
def tX10_tryPicks_64 := Bt_1 (q := 64) tX10_tryPicks_63 rfl
theorem dX10_tryPicks_64 : decode cX10_tryPicks 64 = .ok (.imul, 1) := de_68 tX10_tryPicks_64
def tX10_tryPicks_65 := Bt_1 (q := 65) tX10_tryPicks_64 rfl
theorem dX10_tryPicks_65 : decode cX10_tryPicks 65 = .ok (.aload_n 0, 1) := de_2a tX10_tryPicks_65
def tX10_tryPicks_66 := Bt_1 (q := 66) tX10_tryPicks_65 rfl
theorem dX10_tryPicks_66 : decode cX10_tryPicks 66 = .ok (.getfield 94, 3) := de_b4 tX10_tryPicks_66 (by decide +kernel)
def tX10_tryPicks_69 := Bt_3 (q := 69) tX10_tryPicks_66 rfl
theorem dX10_tryPicks_69 : decode cX10_tryPicks 69 = .ok (.iload_n 3, 1) := de_1d tX10_tryPicks_69
def tX10_tryPicks_70 := Bt_1 (q := 70) tX10_tryPicks_69 rfl
theorem dX10_tryPicks_70 : decode cX10_tryPicks 70 = .ok (.iaload, 1) := de_2e tX10_tryPicks_70
def tX10_tryPicks_71 := Bt_1 (q := 71) tX10_tryPicks_70 rfl
theorem dX10_tryPicks_71 : decode cX10_tryPicks 71 = .ok (.iadd, 1) := de_60 tX10_tryPicks_71
def tX10_tryPicks_72 := Bt_1 (q := 72) tX10_tryPicks_71 rfl
theorem dX10_tryPicks_72 : decode cX10_tryPicks 72 = .ok (.iaload, 1) := de_2e tX10_tryPicks_72
def tX10_tryPicks_73 := Bt_1 (q := 73) tX10_tryPicks_72 rfl
theorem dX10_tryPicks_73 : decode cX10_tryPicks 73 = .ok (.istore 4, 2) := de_36 tX10_tryPicks_73 (by decide +kernel)
def tX10_tryPicks_75 := Bt_2 (q := 75) tX10_tryPicks_73 rfl
theorem dX10_tryPicks_75 : decode cX10_tryPicks 75 = .ok (.aload_n 0, 1) := de_2a tX10_tryPicks_75
def tX10_tryPicks_76 := Bt_1 (q := 76) tX10_tryPicks_75 rfl
theorem dX10_tryPicks_76 : decode cX10_tryPicks 76 = .ok (.getfield 97, 3) := de_b4 tX10_tryPicks_76 (by decide +kernel)
def tX10_tryPicks_79 := Bt_3 (q := 79) tX10_tryPicks_76 rfl
theorem dX10_tryPicks_79 : decode cX10_tryPicks 79 = .ok (.iload 4, 2) := de_15 tX10_tryPicks_79 (by decide +kernel)
def tX10_tryPicks_81 := Bt_2 (q := 81) tX10_tryPicks_79 rfl
theorem dX10_tryPicks_81 : decode cX10_tryPicks 81 = .ok (.dup2, 1) := de_5c tX10_tryPicks_81
def tX10_tryPicks_82 := Bt_1 (q := 82) tX10_tryPicks_81 rfl
theorem dX10_tryPicks_82 : decode cX10_tryPicks 82 = .ok (.iaload, 1) := de_2e tX10_tryPicks_82
def tX10_tryPicks_83 := Bt_1 (q := 83) tX10_tryPicks_82 rfl
theorem dX10_tryPicks_83 : decode cX10_tryPicks 83 = .ok (.iconst 1, 1) := de_04 tX10_tryPicks_83
def tX10_tryPicks_84 := Bt_1 (q := 84) tX10_tryPicks_83 rfl
theorem dX10_tryPicks_84 : decode cX10_tryPicks 84 = .ok (.iadd, 1) := de_60 tX10_tryPicks_84
def tX10_tryPicks_85 := Bt_1 (q := 85) tX10_tryPicks_84 rfl
theorem dX10_tryPicks_85 : decode cX10_tryPicks 85 = .ok (.iastore, 1) := de_4f tX10_tryPicks_85
def tX10_tryPicks_86 := Bt_1 (q := 86) tX10_tryPicks_85 rfl
theorem dX10_tryPicks_86 : decode cX10_tryPicks 86 = .ok (.aload_n 0, 1) := de_2a tX10_tryPicks_86
def tX10_tryPicks_87 := Bt_1 (q := 87) tX10_tryPicks_86 rfl
theorem dX10_tryPicks_87 : decode cX10_tryPicks 87 = .ok (.getfield 100, 3) := de_b4 tX10_tryPicks_87 (by decide +kernel)
def tX10_tryPicks_90 := Bt_3 (q := 90) tX10_tryPicks_87 rfl
theorem dX10_tryPicks_90 : decode cX10_tryPicks 90 = .ok (.iload 4, 2) := de_15 tX10_tryPicks_90 (by decide +kernel)
def tX10_tryPicks_92 := Bt_2 (q := 92) tX10_tryPicks_90 rfl
theorem dX10_tryPicks_92 : decode cX10_tryPicks 92 = .ok (.dup2, 1) := de_5c tX10_tryPicks_92
def tX10_tryPicks_93 := Bt_1 (q := 93) tX10_tryPicks_92 rfl
theorem dX10_tryPicks_93 : decode cX10_tryPicks 93 = .ok (.iaload, 1) := de_2e tX10_tryPicks_93
def tX10_tryPicks_94 := Bt_1 (q := 94) tX10_tryPicks_93 rfl
theorem dX10_tryPicks_94 : decode cX10_tryPicks 94 = .ok (.aload_n 0, 1) := de_2a tX10_tryPicks_94
def tX10_tryPicks_95 := Bt_1 (q := 95) tX10_tryPicks_94 rfl
theorem dX10_tryPicks_95 : decode cX10_tryPicks 95 = .ok (.bipush 8, 2) := de_10 tX10_tryPicks_95 (by decide +kernel)
def tX10_tryPicks_97 := Bt_2 (q := 97) tX10_tryPicks_95 rfl
theorem dX10_tryPicks_97 : decode cX10_tryPicks 97 = .ok (.iload_n 3, 1) := de_1d tX10_tryPicks_97
def tX10_tryPicks_98 := Bt_1 (q := 98) tX10_tryPicks_97 rfl
theorem dX10_tryPicks_98 : decode cX10_tryPicks 98 = .ok (.imul, 1) := de_68 tX10_tryPicks_98
def tX10_tryPicks_99 := Bt_1 (q := 99) tX10_tryPicks_98 rfl
theorem dX10_tryPicks_99 : decode cX10_tryPicks 99 = .ok (.iload 4, 2) := de_15 tX10_tryPicks_99 (by decide +kernel)
def tX10_tryPicks_101 := Bt_2 (q := 101) tX10_tryPicks_99 rfl
theorem dX10_tryPicks_101 : decode cX10_tryPicks 101 = .ok (.iadd, 1) := de_60 tX10_tryPicks_101
def tX10_tryPicks_102 := Bt_1 (q := 102) tX10_tryPicks_101 rfl
theorem dX10_tryPicks_102 : decode cX10_tryPicks 102 = .ok (.invokevirtual 191, 3) := de_b6 tX10_tryPicks_102 (by decide +kernel)
def tX10_tryPicks_105 := Bt_3 (q := 105) tX10_tryPicks_102 rfl
theorem dX10_tryPicks_105 : decode cX10_tryPicks 105 = .ok (.iadd, 1) := de_60 tX10_tryPicks_105
def tX10_tryPicks_106 := Bt_1 (q := 106) tX10_tryPicks_105 rfl
theorem dX10_tryPicks_106 : decode cX10_tryPicks 106 = .ok (.iastore, 1) := de_4f tX10_tryPicks_106
def tX10_tryPicks_107 := Bt_1 (q := 107) tX10_tryPicks_106 rfl
theorem dX10_tryPicks_107 : decode cX10_tryPicks 107 = .ok (.iload_n 2, 1) := de_1c tX10_tryPicks_107
def tX10_tryPicks_108 := Bt_1 (q := 108) tX10_tryPicks_107 rfl
theorem dX10_tryPicks_108 : decode cX10_tryPicks 108 = .ok (.aload_n 0, 1) := de_2a tX10_tryPicks_108
def tX10_tryPicks_109 := Bt_1 (q := 109) tX10_tryPicks_108 rfl
theorem dX10_tryPicks_109 : decode cX10_tryPicks 109 = .ok (.getfield 94, 3) := de_b4 tX10_tryPicks_109 (by decide +kernel)
def tX10_tryPicks_112 := Bt_3 (q := 112) tX10_tryPicks_109 rfl
theorem dX10_tryPicks_112 : decode cX10_tryPicks 112 = .ok (.iload_n 3, 1) := de_1d tX10_tryPicks_112
def tX10_tryPicks_113 := Bt_1 (q := 113) tX10_tryPicks_112 rfl
theorem dX10_tryPicks_113 : decode cX10_tryPicks 113 = .ok (.iaload, 1) := de_2e tX10_tryPicks_113
def tX10_tryPicks_114 := Bt_1 (q := 114) tX10_tryPicks_113 rfl
theorem dX10_tryPicks_114 : decode cX10_tryPicks 114 = .ok (.iadd, 1) := de_60 tX10_tryPicks_114
def tX10_tryPicks_115 := Bt_1 (q := 115) tX10_tryPicks_114 rfl
theorem dX10_tryPicks_115 : decode cX10_tryPicks 115 = .ok (.istore_n 2, 1) := de_3d tX10_tryPicks_115
def tX10_tryPicks_116 := Bt_1 (q := 116) tX10_tryPicks_115 rfl
theorem dX10_tryPicks_116 : decode cX10_tryPicks 116 = .ok (.iinc 1 1, 3) := de_84 tX10_tryPicks_116 (by decide +kernel) (by decide +kernel)
def tX10_tryPicks_119 := Bt_3 (q := 119) tX10_tryPicks_116 rfl
theorem dX10_tryPicks_119 : decode cX10_tryPicks 119 = .ok (.iinc 3 1, 3) := de_84 tX10_tryPicks_119 (by decide +kernel) (by decide +kernel)
def tX10_tryPicks_122 := Bt_3 (q := 122) tX10_tryPicks_119 rfl
theorem dX10_tryPicks_122 : decode cX10_tryPicks 122 = .ok (.goto (-88), 3) := de_a7 tX10_tryPicks_122 (by decide +kernel)
def tX10_tryPicks_125 := Bt_3 (q := 125) tX10_tryPicks_122 rfl
theorem dX10_tryPicks_125 : decode cX10_tryPicks 125 = .ok (.iconst 0, 1) := de_03 tX10_tryPicks_125
def tX10_tryPicks_126 := Bt_1 (q := 126) tX10_tryPicks_125 rfl
theorem dX10_tryPicks_126 : decode cX10_tryPicks 126 = .ok (.istore_n 3, 1) := de_3e tX10_tryPicks_126
def tX10_tryPicks_127 := Bt_1 (q := 127) tX10_tryPicks_126 rfl
theorem dX10_tryPicks_127 : decode cX10_tryPicks 127 = .ok (.iconst 0, 1) := de_03 tX10_tryPicks_127
def tX10_tryPicks_128 := Bt_1 (q := 128) tX10_tryPicks_127 rfl
theorem dX10_tryPicks_128 : decode cX10_tryPicks 128 = .ok (.istore 4, 2) := de_36 tX10_tryPicks_128 (by decide +kernel)
def tX10_tryPicks_130 := Bt_2 (q := 130) tX10_tryPicks_128 rfl
theorem dX10_tryPicks_130 : decode cX10_tryPicks 130 = .ok (.iload 4, 2) := de_15 tX10_tryPicks_130 (by decide +kernel)
def tX10_tryPicks_132 := Bt_2 (q := 132) tX10_tryPicks_130 rfl
theorem dX10_tryPicks_132 : decode cX10_tryPicks 132 = .ok (.bipush 8, 2) := de_10 tX10_tryPicks_132 (by decide +kernel)
def tX10_tryPicks_134 := Bt_2 (q := 134) tX10_tryPicks_132 rfl
theorem dX10_tryPicks_134 : decode cX10_tryPicks 134 = .ok (.if_icmp .ge 50, 3) := de_a2 tX10_tryPicks_134 (by decide +kernel)
def tX10_tryPicks_137 := Bt_3 (q := 137) tX10_tryPicks_134 rfl
theorem dX10_tryPicks_137 : decode cX10_tryPicks 137 = .ok (.aload_n 0, 1) := de_2a tX10_tryPicks_137
def tX10_tryPicks_138 := Bt_1 (q := 138) tX10_tryPicks_137 rfl
theorem dX10_tryPicks_138 : decode cX10_tryPicks 138 = .ok (.getfield 97, 3) := de_b4 tX10_tryPicks_138 (by decide +kernel)
def tX10_tryPicks_141 := Bt_3 (q := 141) tX10_tryPicks_138 rfl
theorem dX10_tryPicks_141 : decode cX10_tryPicks 141 = .ok (.iload 4, 2) := de_15 tX10_tryPicks_141 (by decide +kernel)
def tX10_tryPicks_143 := Bt_2 (q := 143) tX10_tryPicks_141 rfl
theorem dX10_tryPicks_143 : decode cX10_tryPicks 143 = .ok (.iaload, 1) := de_2e tX10_tryPicks_143
def tX10_tryPicks_144 := Bt_1 (q := 144) tX10_tryPicks_143 rfl
theorem dX10_tryPicks_144 : decode cX10_tryPicks 144 = .ok (.aload_n 0, 1) := de_2a tX10_tryPicks_144
def tX10_tryPicks_145 := Bt_1 (q := 145) tX10_tryPicks_144 rfl
theorem dX10_tryPicks_145 : decode cX10_tryPicks 145 = .ok (.getfield 79, 3) := de_b4 tX10_tryPicks_145 (by decide +kernel)
def tX10_tryPicks_148 := Bt_3 (q := 148) tX10_tryPicks_145 rfl
theorem dX10_tryPicks_148 : decode cX10_tryPicks 148 = .ok (.iload 4, 2) := de_15 tX10_tryPicks_148 (by decide +kernel)
def tX10_tryPicks_150 := Bt_2 (q := 150) tX10_tryPicks_148 rfl
theorem dX10_tryPicks_150 : decode cX10_tryPicks 150 = .ok (.iaload, 1) := de_2e tX10_tryPicks_150
def tX10_tryPicks_151 := Bt_1 (q := 151) tX10_tryPicks_150 rfl
theorem dX10_tryPicks_151 : decode cX10_tryPicks 151 = .ok (.if_icmp .le 4, 3) := de_a4 tX10_tryPicks_151 (by decide +kernel)
def tX10_tryPicks_154 := Bt_3 (q := 154) tX10_tryPicks_151 rfl
theorem dX10_tryPicks_154 : decode cX10_tryPicks 154 = .ok (.return_, 1) := de_b1 tX10_tryPicks_154
def tX10_tryPicks_155 := Bt_1 (q := 155) tX10_tryPicks_154 rfl
theorem dX10_tryPicks_155 : decode cX10_tryPicks 155 = .ok (.iload_n 3, 1) := de_1d tX10_tryPicks_155
def tX10_tryPicks_156 := Bt_1 (q := 156) tX10_tryPicks_155 rfl
theorem dX10_tryPicks_156 : decode cX10_tryPicks 156 = .ok (.aload_n 0, 1) := de_2a tX10_tryPicks_156
def tX10_tryPicks_157 := Bt_1 (q := 157) tX10_tryPicks_156 rfl
theorem dX10_tryPicks_157 : decode cX10_tryPicks 157 = .ok (.getfield 97, 3) := de_b4 tX10_tryPicks_157 (by decide +kernel)
def tX10_tryPicks_160 := Bt_3 (q := 160) tX10_tryPicks_157 rfl
theorem dX10_tryPicks_160 : decode cX10_tryPicks 160 = .ok (.iload 4, 2) := de_15 tX10_tryPicks_160 (by decide +kernel)
def tX10_tryPicks_162 := Bt_2 (q := 162) tX10_tryPicks_160 rfl
theorem dX10_tryPicks_162 : decode cX10_tryPicks 162 = .ok (.iaload, 1) := de_2e tX10_tryPicks_162
def tX10_tryPicks_163 := Bt_1 (q := 163) tX10_tryPicks_162 rfl
theorem dX10_tryPicks_163 : decode cX10_tryPicks 163 = .ok (.ifCond .le 12, 3) := de_9e tX10_tryPicks_163 (by decide +kernel)
def tX10_tryPicks_166 := Bt_3 (q := 166) tX10_tryPicks_163 rfl
theorem dX10_tryPicks_166 : decode cX10_tryPicks 166 = .ok (.aload_n 0, 1) := de_2a tX10_tryPicks_166
def tX10_tryPicks_167 := Bt_1 (q := 167) tX10_tryPicks_166 rfl
theorem dX10_tryPicks_167 : decode cX10_tryPicks 167 = .ok (.iload 4, 2) := de_15 tX10_tryPicks_167 (by decide +kernel)
def tX10_tryPicks_169 := Bt_2 (q := 169) tX10_tryPicks_167 rfl
theorem dX10_tryPicks_169 : decode cX10_tryPicks 169 = .ok (.invokevirtual 329, 3) := de_b6 tX10_tryPicks_169 (by decide +kernel)
def tX10_tryPicks_172 := Bt_3 (q := 172) tX10_tryPicks_169 rfl
theorem dX10_tryPicks_172 : decode cX10_tryPicks 172 = .ok (.goto 4, 3) := de_a7 tX10_tryPicks_172 (by decide +kernel)
def tX10_tryPicks_175 := Bt_3 (q := 175) tX10_tryPicks_172 rfl
theorem dX10_tryPicks_175 : decode cX10_tryPicks 175 = .ok (.iconst 0, 1) := de_03 tX10_tryPicks_175
def tX10_tryPicks_176 := Bt_1 (q := 176) tX10_tryPicks_175 rfl
theorem dX10_tryPicks_176 : decode cX10_tryPicks 176 = .ok (.iadd, 1) := de_60 tX10_tryPicks_176
def tX10_tryPicks_177 := Bt_1 (q := 177) tX10_tryPicks_176 rfl
theorem dX10_tryPicks_177 : decode cX10_tryPicks 177 = .ok (.istore_n 3, 1) := de_3e tX10_tryPicks_177
def tX10_tryPicks_178 := Bt_1 (q := 178) tX10_tryPicks_177 rfl
theorem dX10_tryPicks_178 : decode cX10_tryPicks 178 = .ok (.iinc 4 1, 3) := de_84 tX10_tryPicks_178 (by decide +kernel) (by decide +kernel)
def tX10_tryPicks_181 := Bt_3 (q := 181) tX10_tryPicks_178 rfl
theorem dX10_tryPicks_181 : decode cX10_tryPicks 181 = .ok (.goto (-51), 3) := de_a7 tX10_tryPicks_181 (by decide +kernel)
def tX10_tryPicks_184 := Bt_3 (q := 184) tX10_tryPicks_181 rfl
theorem dX10_tryPicks_184 : decode cX10_tryPicks 184 = .ok (.iload_n 1, 1) := de_1b tX10_tryPicks_184
def tX10_tryPicks_185 := Bt_1 (q := 185) tX10_tryPicks_184 rfl
theorem dX10_tryPicks_185 : decode cX10_tryPicks 185 = .ok (.aload_n 0, 1) := de_2a tX10_tryPicks_185
def tX10_tryPicks_186 := Bt_1 (q := 186) tX10_tryPicks_185 rfl
theorem dX10_tryPicks_186 : decode cX10_tryPicks 186 = .ok (.getfield 332, 3) := de_b4 tX10_tryPicks_186 (by decide +kernel)
def tX10_tryPicks_189 := Bt_3 (q := 189) tX10_tryPicks_186 rfl
theorem dX10_tryPicks_189 : decode cX10_tryPicks 189 = .ok (.if_icmp .eq 19, 3) := de_9f tX10_tryPicks_189 (by decide +kernel)
def tX10_tryPicks_192 := Bt_3 (q := 192) tX10_tryPicks_189 rfl
theorem dX10_tryPicks_192 : decode cX10_tryPicks 192 = .ok (.iload_n 1, 1) := de_1b tX10_tryPicks_192
def tX10_tryPicks_193 := Bt_1 (q := 193) tX10_tryPicks_192 rfl
theorem dX10_tryPicks_193 : decode cX10_tryPicks 193 = .ok (.aload_n 0, 1) := de_2a tX10_tryPicks_193
def tX10_tryPicks_194 := Bt_1 (q := 194) tX10_tryPicks_193 rfl
theorem dX10_tryPicks_194 : decode cX10_tryPicks 194 = .ok (.getfield 332, 3) := de_b4 tX10_tryPicks_194 (by decide +kernel)
def tX10_tryPicks_197 := Bt_3 (q := 197) tX10_tryPicks_194 rfl
theorem dX10_tryPicks_197 : decode cX10_tryPicks 197 = .ok (.if_icmp .le 7, 3) := de_a4 tX10_tryPicks_197 (by decide +kernel)
def tX10_tryPicks_200 := Bt_3 (q := 200) tX10_tryPicks_197 rfl
theorem dX10_tryPicks_200 : decode cX10_tryPicks 200 = .ok (.iconst 1, 1) := de_04 tX10_tryPicks_200
def tX10_tryPicks_201 := Bt_1 (q := 201) tX10_tryPicks_200 rfl
theorem dX10_tryPicks_201 : decode cX10_tryPicks 201 = .ok (.goto 59, 3) := de_a7 tX10_tryPicks_201 (by decide +kernel)
def tX10_tryPicks_204 := Bt_3 (q := 204) tX10_tryPicks_201 rfl
theorem dX10_tryPicks_204 : decode cX10_tryPicks 204 = .ok (.iconst 0, 1) := de_03 tX10_tryPicks_204
def tX10_tryPicks_205 := Bt_1 (q := 205) tX10_tryPicks_204 rfl
theorem dX10_tryPicks_205 : decode cX10_tryPicks 205 = .ok (.goto 55, 3) := de_a7 tX10_tryPicks_205 (by decide +kernel)
def tX10_tryPicks_208 := Bt_3 (q := 208) tX10_tryPicks_205 rfl
theorem dX10_tryPicks_208 : decode cX10_tryPicks 208 = .ok (.iload_n 3, 1) := de_1d tX10_tryPicks_208
def tX10_tryPicks_209 := Bt_1 (q := 209) tX10_tryPicks_208 rfl
theorem dX10_tryPicks_209 : decode cX10_tryPicks 209 = .ok (.aload_n 0, 1) := de_2a tX10_tryPicks_209
def tX10_tryPicks_210 := Bt_1 (q := 210) tX10_tryPicks_209 rfl
theorem dX10_tryPicks_210 : decode cX10_tryPicks 210 = .ok (.getfield 335, 3) := de_b4 tX10_tryPicks_210 (by decide +kernel)
def tX10_tryPicks_213 := Bt_3 (q := 213) tX10_tryPicks_210 rfl
theorem dX10_tryPicks_213 : decode cX10_tryPicks 213 = .ok (.if_icmp .eq 19, 3) := de_9f tX10_tryPicks_213 (by decide +kernel)
def tX10_tryPicks_216 := Bt_3 (q := 216) tX10_tryPicks_213 rfl
theorem dX10_tryPicks_216 : decode cX10_tryPicks 216 = .ok (.iload_n 3, 1) := de_1d tX10_tryPicks_216
def tX10_tryPicks_217 := Bt_1 (q := 217) tX10_tryPicks_216 rfl
theorem dX10_tryPicks_217 : decode cX10_tryPicks 217 = .ok (.aload_n 0, 1) := de_2a tX10_tryPicks_217
def tX10_tryPicks_218 := Bt_1 (q := 218) tX10_tryPicks_217 rfl
theorem dX10_tryPicks_218 : decode cX10_tryPicks 218 = .ok (.getfield 335, 3) := de_b4 tX10_tryPicks_218 (by decide +kernel)
def tX10_tryPicks_221 := Bt_3 (q := 221) tX10_tryPicks_218 rfl
theorem dX10_tryPicks_221 : decode cX10_tryPicks 221 = .ok (.if_icmp .ge 7, 3) := de_a2 tX10_tryPicks_221 (by decide +kernel)
def tX10_tryPicks_224 := Bt_3 (q := 224) tX10_tryPicks_221 rfl
theorem dX10_tryPicks_224 : decode cX10_tryPicks 224 = .ok (.iconst 1, 1) := de_04 tX10_tryPicks_224
def tX10_tryPicks_225 := Bt_1 (q := 225) tX10_tryPicks_224 rfl
theorem dX10_tryPicks_225 : decode cX10_tryPicks 225 = .ok (.goto 35, 3) := de_a7 tX10_tryPicks_225 (by decide +kernel)
def tX10_tryPicks_228 := Bt_3 (q := 228) tX10_tryPicks_225 rfl
theorem dX10_tryPicks_228 : decode cX10_tryPicks 228 = .ok (.iconst 0, 1) := de_03 tX10_tryPicks_228
def tX10_tryPicks_229 := Bt_1 (q := 229) tX10_tryPicks_228 rfl
theorem dX10_tryPicks_229 : decode cX10_tryPicks 229 = .ok (.goto 31, 3) := de_a7 tX10_tryPicks_229 (by decide +kernel)
def tX10_tryPicks_232 := Bt_3 (q := 232) tX10_tryPicks_229 rfl
theorem dX10_tryPicks_232 : decode cX10_tryPicks 232 = .ok (.iload_n 2, 1) := de_1c tX10_tryPicks_232
def tX10_tryPicks_233 := Bt_1 (q := 233) tX10_tryPicks_232 rfl
theorem dX10_tryPicks_233 : decode cX10_tryPicks 233 = .ok (.aload_n 0, 1) := de_2a tX10_tryPicks_233
def tX10_tryPicks_234 := Bt_1 (q := 234) tX10_tryPicks_233 rfl
theorem dX10_tryPicks_234 : decode cX10_tryPicks 234 = .ok (.getfield 338, 3) := de_b4 tX10_tryPicks_234 (by decide +kernel)
def tX10_tryPicks_237 := Bt_3 (q := 237) tX10_tryPicks_234 rfl
theorem dX10_tryPicks_237 : decode cX10_tryPicks 237 = .ok (.if_icmp .eq 19, 3) := de_9f tX10_tryPicks_237 (by decide +kernel)
def tX10_tryPicks_240 := Bt_3 (q := 240) tX10_tryPicks_237 rfl
theorem dX10_tryPicks_240 : decode cX10_tryPicks 240 = .ok (.iload_n 2, 1) := de_1c tX10_tryPicks_240
def tX10_tryPicks_241 := Bt_1 (q := 241) tX10_tryPicks_240 rfl
theorem dX10_tryPicks_241 : decode cX10_tryPicks 241 = .ok (.aload_n 0, 1) := de_2a tX10_tryPicks_241
def tX10_tryPicks_242 := Bt_1 (q := 242) tX10_tryPicks_241 rfl
theorem dX10_tryPicks_242 : decode cX10_tryPicks 242 = .ok (.getfield 338, 3) := de_b4 tX10_tryPicks_242 (by decide +kernel)
def tX10_tryPicks_245 := Bt_3 (q := 245) tX10_tryPicks_242 rfl
theorem dX10_tryPicks_245 : decode cX10_tryPicks 245 = .ok (.if_icmp .ge 7, 3) := de_a2 tX10_tryPicks_245 (by decide +kernel)
def tX10_tryPicks_248 := Bt_3 (q := 248) tX10_tryPicks_245 rfl
theorem dX10_tryPicks_248 : decode cX10_tryPicks 248 = .ok (.iconst 1, 1) := de_04 tX10_tryPicks_248
def tX10_tryPicks_249 := Bt_1 (q := 249) tX10_tryPicks_248 rfl
theorem dX10_tryPicks_249 : decode cX10_tryPicks 249 = .ok (.goto 11, 3) := de_a7 tX10_tryPicks_249 (by decide +kernel)
def tX10_tryPicks_252 := Bt_3 (q := 252) tX10_tryPicks_249 rfl
theorem dX10_tryPicks_252 : decode cX10_tryPicks 252 = .ok (.iconst 0, 1) := de_03 tX10_tryPicks_252
def tX10_tryPicks_253 := Bt_1 (q := 253) tX10_tryPicks_252 rfl
theorem dX10_tryPicks_253 : decode cX10_tryPicks 253 = .ok (.goto 7, 3) := de_a7 tX10_tryPicks_253 (by decide +kernel)
def tX10_tryPicks_256 := Bt_3 (q := 256) tX10_tryPicks_253 rfl
theorem dX10_tryPicks_256 : decode cX10_tryPicks 256 = .ok (.aload_n 0, 1) := de_2a tX10_tryPicks_256
def tX10_tryPicks_257 := Bt_1 (q := 257) tX10_tryPicks_256 rfl
theorem dX10_tryPicks_257 : decode cX10_tryPicks 257 = .ok (.invokevirtual 341, 3) := de_b6 tX10_tryPicks_257 (by decide +kernel)
def tX10_tryPicks_260 := Bt_3 (q := 260) tX10_tryPicks_257 rfl
theorem dX10_tryPicks_260 : decode cX10_tryPicks 260 = .ok (.istore 4, 2) := de_36 tX10_tryPicks_260 (by decide +kernel)
def tX10_tryPicks_262 := Bt_2 (q := 262) tX10_tryPicks_260 rfl
theorem dX10_tryPicks_262 : decode cX10_tryPicks 262 = .ok (.iload 4, 2) := de_15 tX10_tryPicks_262 (by decide +kernel)
def tX10_tryPicks_264 := Bt_2 (q := 264) tX10_tryPicks_262 rfl
theorem dX10_tryPicks_264 : decode cX10_tryPicks 264 = .ok (.ifCond .eq 83, 3) := de_99 tX10_tryPicks_264 (by decide +kernel)
def tX10_tryPicks_267 := Bt_3 (q := 267) tX10_tryPicks_264 rfl
theorem dX10_tryPicks_267 : decode cX10_tryPicks 267 = .ok (.aload_n 0, 1) := de_2a tX10_tryPicks_267
def tX10_tryPicks_268 := Bt_1 (q := 268) tX10_tryPicks_267 rfl
theorem dX10_tryPicks_268 : decode cX10_tryPicks 268 = .ok (.iload_n 1, 1) := de_1b tX10_tryPicks_268
def tX10_tryPicks_269 := Bt_1 (q := 269) tX10_tryPicks_268 rfl
theorem dX10_tryPicks_269 : decode cX10_tryPicks 269 = .ok (.putfield 332, 3) := de_b5 tX10_tryPicks_269 (by decide +kernel)
def tX10_tryPicks_272 := Bt_3 (q := 272) tX10_tryPicks_269 rfl
theorem dX10_tryPicks_272 : decode cX10_tryPicks 272 = .ok (.aload_n 0, 1) := de_2a tX10_tryPicks_272
def tX10_tryPicks_273 := Bt_1 (q := 273) tX10_tryPicks_272 rfl
theorem dX10_tryPicks_273 : decode cX10_tryPicks 273 = .ok (.iload_n 3, 1) := de_1d tX10_tryPicks_273
def tX10_tryPicks_274 := Bt_1 (q := 274) tX10_tryPicks_273 rfl
theorem dX10_tryPicks_274 : decode cX10_tryPicks 274 = .ok (.putfield 335, 3) := de_b5 tX10_tryPicks_274 (by decide +kernel)
def tX10_tryPicks_277 := Bt_3 (q := 277) tX10_tryPicks_274 rfl
theorem dX10_tryPicks_277 : decode cX10_tryPicks 277 = .ok (.aload_n 0, 1) := de_2a tX10_tryPicks_277
def tX10_tryPicks_278 := Bt_1 (q := 278) tX10_tryPicks_277 rfl
theorem dX10_tryPicks_278 : decode cX10_tryPicks 278 = .ok (.iload_n 2, 1) := de_1c tX10_tryPicks_278
def tX10_tryPicks_279 := Bt_1 (q := 279) tX10_tryPicks_278 rfl
theorem dX10_tryPicks_279 : decode cX10_tryPicks 279 = .ok (.putfield 338, 3) := de_b5 tX10_tryPicks_279 (by decide +kernel)
def tX10_tryPicks_282 := Bt_3 (q := 282) tX10_tryPicks_279 rfl
theorem dX10_tryPicks_282 : decode cX10_tryPicks 282 = .ok (.iconst 0, 1) := de_03 tX10_tryPicks_282
def tX10_tryPicks_283 := Bt_1 (q := 283) tX10_tryPicks_282 rfl
theorem dX10_tryPicks_283 : decode cX10_tryPicks 283 = .ok (.istore 5, 2) := de_36 tX10_tryPicks_283 (by decide +kernel)
def tX10_tryPicks_285 := Bt_2 (q := 285) tX10_tryPicks_283 rfl
theorem dX10_tryPicks_285 : decode cX10_tryPicks 285 = .ok (.iload 5, 2) := de_15 tX10_tryPicks_285 (by decide +kernel)
def tX10_tryPicks_287 := Bt_2 (q := 287) tX10_tryPicks_285 rfl
theorem dX10_tryPicks_287 : decode cX10_tryPicks 287 = .ok (.aload_n 0, 1) := de_2a tX10_tryPicks_287
def tX10_tryPicks_288 := Bt_1 (q := 288) tX10_tryPicks_287 rfl
theorem dX10_tryPicks_288 : decode cX10_tryPicks 288 = .ok (.getfield 17, 3) := de_b4 tX10_tryPicks_288 (by decide +kernel)
def tX10_tryPicks_291 := Bt_3 (q := 291) tX10_tryPicks_288 rfl
theorem dX10_tryPicks_291 : decode cX10_tryPicks 291 = .ok (.if_icmp .ge 56, 3) := de_a2 tX10_tryPicks_291 (by decide +kernel)
def tX10_tryPicks_294 := Bt_3 (q := 294) tX10_tryPicks_291 rfl
theorem dX10_tryPicks_294 : decode cX10_tryPicks 294 = .ok (.aload_n 0, 1) := de_2a tX10_tryPicks_294
def tX10_tryPicks_295 := Bt_1 (q := 295) tX10_tryPicks_294 rfl
theorem dX10_tryPicks_295 : decode cX10_tryPicks 295 = .ok (.getfield 85, 3) := de_b4 tX10_tryPicks_295 (by decide +kernel)
def tX10_tryPicks_298 := Bt_3 (q := 298) tX10_tryPicks_295 rfl
theorem dX10_tryPicks_298 : decode cX10_tryPicks 298 = .ok (.iload 5, 2) := de_15 tX10_tryPicks_298 (by decide +kernel)
def tX10_tryPicks_300 := Bt_2 (q := 300) tX10_tryPicks_298 rfl
theorem dX10_tryPicks_300 : decode cX10_tryPicks 300 = .ok (.aload_n 0, 1) := de_2a tX10_tryPicks_300
def tX10_tryPicks_301 := Bt_1 (q := 301) tX10_tryPicks_300 rfl
theorem dX10_tryPicks_301 : decode cX10_tryPicks 301 = .ok (.getfield 94, 3) := de_b4 tX10_tryPicks_301 (by decide +kernel)
def tX10_tryPicks_304 := Bt_3 (q := 304) tX10_tryPicks_301 rfl
theorem dX10_tryPicks_304 : decode cX10_tryPicks 304 = .ok (.iload 5, 2) := de_15 tX10_tryPicks_304 (by decide +kernel)
def tX10_tryPicks_306 := Bt_2 (q := 306) tX10_tryPicks_304 rfl
theorem dX10_tryPicks_306 : decode cX10_tryPicks 306 = .ok (.iaload, 1) := de_2e tX10_tryPicks_306
def tX10_tryPicks_307 := Bt_1 (q := 307) tX10_tryPicks_306 rfl
theorem dX10_tryPicks_307 : decode cX10_tryPicks 307 = .ok (.aload_n 0, 1) := de_2a tX10_tryPicks_307
def tX10_tryPicks_308 := Bt_1 (q := 308) tX10_tryPicks_307 rfl
theorem dX10_tryPicks_308 : decode cX10_tryPicks 308 = .ok (.getfield 91, 3) := de_b4 tX10_tryPicks_308 (by decide +kernel)
def tX10_tryPicks_311 := Bt_3 (q := 311) tX10_tryPicks_308 rfl
theorem dX10_tryPicks_311 : decode cX10_tryPicks 311 = .ok (.iload 5, 2) := de_15 tX10_tryPicks_311 (by decide +kernel)
def tX10_tryPicks_313 := Bt_2 (q := 313) tX10_tryPicks_311 rfl
theorem dX10_tryPicks_313 : decode cX10_tryPicks 313 = .ok (.iaload, 1) := de_2e tX10_tryPicks_313
def tX10_tryPicks_314 := Bt_1 (q := 314) tX10_tryPicks_313 rfl
theorem dX10_tryPicks_314 : decode cX10_tryPicks 314 = .ok (.if_icmp .ge 24, 3) := de_a2 tX10_tryPicks_314 (by decide +kernel)
def tX10_tryPicks_317 := Bt_3 (q := 317) tX10_tryPicks_314 rfl
theorem dX10_tryPicks_317 : decode cX10_tryPicks 317 = .ok (.aload_n 0, 1) := de_2a tX10_tryPicks_317
def tX10_tryPicks_318 := Bt_1 (q := 318) tX10_tryPicks_317 rfl
theorem dX10_tryPicks_318 : decode cX10_tryPicks 318 = .ok (.getfield 88, 3) := de_b4 tX10_tryPicks_318 (by decide +kernel)
def tX10_tryPicks_321 := Bt_3 (q := 321) tX10_tryPicks_318 rfl
theorem dX10_tryPicks_321 : decode cX10_tryPicks 321 = .ok (.bipush 8, 2) := de_10 tX10_tryPicks_321 (by decide +kernel)
def tX10_tryPicks_323 := Bt_2 (q := 323) tX10_tryPicks_321 rfl
theorem dX10_tryPicks_323 : decode cX10_tryPicks 323 = .ok (.iload 5, 2) := de_15 tX10_tryPicks_323 (by decide +kernel)
def tX10_tryPicks_325 := Bt_2 (q := 325) tX10_tryPicks_323 rfl
theorem dX10_tryPicks_325 : decode cX10_tryPicks 325 = .ok (.imul, 1) := de_68 tX10_tryPicks_325
def tX10_tryPicks_326 := Bt_1 (q := 326) tX10_tryPicks_325 rfl
theorem dX10_tryPicks_326 : decode cX10_tryPicks 326 = .ok (.aload_n 0, 1) := de_2a tX10_tryPicks_326
def tX10_tryPicks_327 := Bt_1 (q := 327) tX10_tryPicks_326 rfl
theorem dX10_tryPicks_327 : decode cX10_tryPicks 327 = .ok (.getfield 94, 3) := de_b4 tX10_tryPicks_327 (by decide +kernel)
def tX10_tryPicks_330 := Bt_3 (q := 330) tX10_tryPicks_327 rfl
theorem dX10_tryPicks_330 : decode cX10_tryPicks 330 = .ok (.iload 5, 2) := de_15 tX10_tryPicks_330 (by decide +kernel)
def tX10_tryPicks_332 := Bt_2 (q := 332) tX10_tryPicks_330 rfl
theorem dX10_tryPicks_332 : decode cX10_tryPicks 332 = .ok (.iaload, 1) := de_2e tX10_tryPicks_332
def tX10_tryPicks_333 := Bt_1 (q := 333) tX10_tryPicks_332 rfl
theorem dX10_tryPicks_333 : decode cX10_tryPicks 333 = .ok (.iadd, 1) := de_60 tX10_tryPicks_333
def tX10_tryPicks_334 := Bt_1 (q := 334) tX10_tryPicks_333 rfl
theorem dX10_tryPicks_334 : decode cX10_tryPicks 334 = .ok (.iaload, 1) := de_2e tX10_tryPicks_334
def tX10_tryPicks_335 := Bt_1 (q := 335) tX10_tryPicks_334 rfl
theorem dX10_tryPicks_335 : decode cX10_tryPicks 335 = .ok (.goto 5, 3) := de_a7 tX10_tryPicks_335 (by decide +kernel)
def tX10_tryPicks_338 := Bt_3 (q := 338) tX10_tryPicks_335 rfl
theorem dX10_tryPicks_338 : decode cX10_tryPicks 338 = .ok (.bipush (-9), 2) := de_10 tX10_tryPicks_338 (by decide +kernel)
def tX10_tryPicks_340 := Bt_2 (q := 340) tX10_tryPicks_338 rfl
theorem dX10_tryPicks_340 : decode cX10_tryPicks 340 = .ok (.iastore, 1) := de_4f tX10_tryPicks_340
def tX10_tryPicks_341 := Bt_1 (q := 341) tX10_tryPicks_340 rfl
theorem dX10_tryPicks_341 : decode cX10_tryPicks 341 = .ok (.iinc 5 1, 3) := de_84 tX10_tryPicks_341 (by decide +kernel) (by decide +kernel)
def tX10_tryPicks_344 := Bt_3 (q := 344) tX10_tryPicks_341 rfl
theorem dX10_tryPicks_344 : decode cX10_tryPicks 344 = .ok (.goto (-59), 3) := de_a7 tX10_tryPicks_344 (by decide +kernel)
def tX10_tryPicks_347 := Bt_3 (q := 347) tX10_tryPicks_344 rfl
theorem dX10_tryPicks_347 : decode cX10_tryPicks 347 = .ok (.return_, 1) := de_b1 tX10_tryPicks_347
def tX10_isFirst_0 := Bt_0 cX10_isFirst
theorem dX10_isFirst_0 : decode cX10_isFirst 0 = .ok (.iconst 0, 1) := de_03 tX10_isFirst_0
def tX10_isFirst_1 := Bt_1 (q := 1) tX10_isFirst_0 rfl
theorem dX10_isFirst_1 : decode cX10_isFirst 1 = .ok (.istore_n 1, 1) := de_3c tX10_isFirst_1
def tX10_isFirst_2 := Bt_1 (q := 2) tX10_isFirst_1 rfl
theorem dX10_isFirst_2 : decode cX10_isFirst 2 = .ok (.iload_n 1, 1) := de_1b tX10_isFirst_2
def tX10_isFirst_3 := Bt_1 (q := 3) tX10_isFirst_2 rfl
theorem dX10_isFirst_3 : decode cX10_isFirst 3 = .ok (.aload_n 0, 1) := de_2a tX10_isFirst_3
def tX10_isFirst_4 := Bt_1 (q := 4) tX10_isFirst_3 rfl
theorem dX10_isFirst_4 : decode cX10_isFirst 4 = .ok (.getfield 17, 3) := de_b4 tX10_isFirst_4 (by decide +kernel)
def tX10_isFirst_7 := Bt_3 (q := 7) tX10_isFirst_4 rfl
theorem dX10_isFirst_7 : decode cX10_isFirst 7 = .ok (.if_icmp .ge 83, 3) := de_a2 tX10_isFirst_7 (by decide +kernel)
def tX10_isFirst_10 := Bt_3 (q := 10) tX10_isFirst_7 rfl
theorem dX10_isFirst_10 : decode cX10_isFirst 10 = .ok (.aload_n 0, 1) := de_2a tX10_isFirst_10
def tX10_isFirst_11 := Bt_1 (q := 11) tX10_isFirst_10 rfl
theorem dX10_isFirst_11 : decode cX10_isFirst 11 = .ok (.getfield 94, 3) := de_b4 tX10_isFirst_11 (by decide +kernel)
def tX10_isFirst_14 := Bt_3 (q := 14) tX10_isFirst_11 rfl
theorem dX10_isFirst_14 : decode cX10_isFirst 14 = .ok (.iload_n 1, 1) := de_1b tX10_isFirst_14
def tX10_isFirst_15 := Bt_1 (q := 15) tX10_isFirst_14 rfl
theorem dX10_isFirst_15 : decode cX10_isFirst 15 = .ok (.iaload, 1) := de_2e tX10_isFirst_15
def tX10_isFirst_16 := Bt_1 (q := 16) tX10_isFirst_15 rfl
theorem dX10_isFirst_16 : decode cX10_isFirst 16 = .ok (.aload_n 0, 1) := de_2a tX10_isFirst_16
def tX10_isFirst_17 := Bt_1 (q := 17) tX10_isFirst_16 rfl
theorem dX10_isFirst_17 : decode cX10_isFirst 17 = .ok (.getfield 91, 3) := de_b4 tX10_isFirst_17 (by decide +kernel)
def tX10_isFirst_20 := Bt_3 (q := 20) tX10_isFirst_17 rfl
theorem dX10_isFirst_20 : decode cX10_isFirst 20 = .ok (.iload_n 1, 1) := de_1b tX10_isFirst_20
def tX10_isFirst_21 := Bt_1 (q := 21) tX10_isFirst_20 rfl
theorem dX10_isFirst_21 : decode cX10_isFirst 21 = .ok (.iaload, 1) := de_2e tX10_isFirst_21
def tX10_isFirst_22 := Bt_1 (q := 22) tX10_isFirst_21 rfl
theorem dX10_isFirst_22 : decode cX10_isFirst 22 = .ok (.if_icmp .ge 22, 3) := de_a2 tX10_isFirst_22 (by decide +kernel)
def tX10_isFirst_25 := Bt_3 (q := 25) tX10_isFirst_22 rfl
theorem dX10_isFirst_25 : decode cX10_isFirst 25 = .ok (.aload_n 0, 1) := de_2a tX10_isFirst_25
def tX10_isFirst_26 := Bt_1 (q := 26) tX10_isFirst_25 rfl
theorem dX10_isFirst_26 : decode cX10_isFirst 26 = .ok (.getfield 88, 3) := de_b4 tX10_isFirst_26 (by decide +kernel)
def tX10_isFirst_29 := Bt_3 (q := 29) tX10_isFirst_26 rfl
theorem dX10_isFirst_29 : decode cX10_isFirst 29 = .ok (.bipush 8, 2) := de_10 tX10_isFirst_29 (by decide +kernel)
def tX10_isFirst_31 := Bt_2 (q := 31) tX10_isFirst_29 rfl
theorem dX10_isFirst_31 : decode cX10_isFirst 31 = .ok (.iload_n 1, 1) := de_1b tX10_isFirst_31
def tX10_isFirst_32 := Bt_1 (q := 32) tX10_isFirst_31 rfl
theorem dX10_isFirst_32 : decode cX10_isFirst 32 = .ok (.imul, 1) := de_68 tX10_isFirst_32
def tX10_isFirst_33 := Bt_1 (q := 33) tX10_isFirst_32 rfl
theorem dX10_isFirst_33 : decode cX10_isFirst 33 = .ok (.aload_n 0, 1) := de_2a tX10_isFirst_33
def tX10_isFirst_34 := Bt_1 (q := 34) tX10_isFirst_33 rfl
theorem dX10_isFirst_34 : decode cX10_isFirst 34 = .ok (.getfield 94, 3) := de_b4 tX10_isFirst_34 (by decide +kernel)
def tX10_isFirst_37 := Bt_3 (q := 37) tX10_isFirst_34 rfl
theorem dX10_isFirst_37 : decode cX10_isFirst 37 = .ok (.iload_n 1, 1) := de_1b tX10_isFirst_37
def tX10_isFirst_38 := Bt_1 (q := 38) tX10_isFirst_37 rfl
theorem dX10_isFirst_38 : decode cX10_isFirst 38 = .ok (.iaload, 1) := de_2e tX10_isFirst_38
def tX10_isFirst_39 := Bt_1 (q := 39) tX10_isFirst_38 rfl
theorem dX10_isFirst_39 : decode cX10_isFirst 39 = .ok (.iadd, 1) := de_60 tX10_isFirst_39
def tX10_isFirst_40 := Bt_1 (q := 40) tX10_isFirst_39 rfl
theorem dX10_isFirst_40 : decode cX10_isFirst 40 = .ok (.iaload, 1) := de_2e tX10_isFirst_40
def tX10_isFirst_41 := Bt_1 (q := 41) tX10_isFirst_40 rfl
theorem dX10_isFirst_41 : decode cX10_isFirst 41 = .ok (.goto 5, 3) := de_a7 tX10_isFirst_41 (by decide +kernel)
def tX10_isFirst_44 := Bt_3 (q := 44) tX10_isFirst_41 rfl
theorem dX10_isFirst_44 : decode cX10_isFirst 44 = .ok (.bipush 8, 2) := de_10 tX10_isFirst_44 (by decide +kernel)
def tX10_isFirst_46 := Bt_2 (q := 46) tX10_isFirst_44 rfl
theorem dX10_isFirst_46 : decode cX10_isFirst 46 = .ok (.istore_n 2, 1) := de_3d tX10_isFirst_46
def tX10_isFirst_47 := Bt_1 (q := 47) tX10_isFirst_46 rfl
theorem dX10_isFirst_47 : decode cX10_isFirst 47 = .ok (.aload_n 0, 1) := de_2a tX10_isFirst_47
def tX10_isFirst_48 := Bt_1 (q := 48) tX10_isFirst_47 rfl
theorem dX10_isFirst_48 : decode cX10_isFirst 48 = .ok (.getfield 85, 3) := de_b4 tX10_isFirst_48 (by decide +kernel)
def tX10_isFirst_51 := Bt_3 (q := 51) tX10_isFirst_48 rfl
theorem dX10_isFirst_51 : decode cX10_isFirst 51 = .ok (.iload_n 1, 1) := de_1b tX10_isFirst_51
def tX10_isFirst_52 := Bt_1 (q := 52) tX10_isFirst_51 rfl
theorem dX10_isFirst_52 : decode cX10_isFirst 52 = .ok (.iaload, 1) := de_2e tX10_isFirst_52
def tX10_isFirst_53 := Bt_1 (q := 53) tX10_isFirst_52 rfl
theorem dX10_isFirst_53 : decode cX10_isFirst 53 = .ok (.ifCond .ge 8, 3) := de_9c tX10_isFirst_53 (by decide +kernel)
def tX10_isFirst_56 := Bt_3 (q := 56) tX10_isFirst_53 rfl
theorem dX10_isFirst_56 : decode cX10_isFirst 56 = .ok (.bipush 8, 2) := de_10 tX10_isFirst_56 (by decide +kernel)
def tX10_isFirst_58 := Bt_2 (q := 58) tX10_isFirst_56 rfl
theorem dX10_isFirst_58 : decode cX10_isFirst 58 = .ok (.goto 9, 3) := de_a7 tX10_isFirst_58 (by decide +kernel)
def tX10_isFirst_61 := Bt_3 (q := 61) tX10_isFirst_58 rfl
theorem dX10_isFirst_61 : decode cX10_isFirst 61 = .ok (.aload_n 0, 1) := de_2a tX10_isFirst_61
def tX10_isFirst_62 := Bt_1 (q := 62) tX10_isFirst_61 rfl
theorem dX10_isFirst_62 : decode cX10_isFirst 62 = .ok (.getfield 85, 3) := de_b4 tX10_isFirst_62 (by decide +kernel)
def tX10_isFirst_65 := Bt_3 (q := 65) tX10_isFirst_62 rfl
theorem dX10_isFirst_65 : decode cX10_isFirst 65 = .ok (.iload_n 1, 1) := de_1b tX10_isFirst_65
def tX10_isFirst_66 := Bt_1 (q := 66) tX10_isFirst_65 rfl
theorem dX10_isFirst_66 : decode cX10_isFirst 66 = .ok (.iaload, 1) := de_2e tX10_isFirst_66
def tX10_isFirst_67 := Bt_1 (q := 67) tX10_isFirst_66 rfl
theorem dX10_isFirst_67 : decode cX10_isFirst 67 = .ok (.istore_n 3, 1) := de_3e tX10_isFirst_67
def tX10_isFirst_68 := Bt_1 (q := 68) tX10_isFirst_67 rfl
theorem dX10_isFirst_68 : decode cX10_isFirst 68 = .ok (.iload_n 2, 1) := de_1c tX10_isFirst_68
def tX10_isFirst_69 := Bt_1 (q := 69) tX10_isFirst_68 rfl
theorem dX10_isFirst_69 : decode cX10_isFirst 69 = .ok (.iload_n 3, 1) := de_1d tX10_isFirst_69
def tX10_isFirst_70 := Bt_1 (q := 70) tX10_isFirst_69 rfl
theorem dX10_isFirst_70 : decode cX10_isFirst 70 = .ok (.if_icmp .eq 14, 3) := de_9f tX10_isFirst_70 (by decide +kernel)
def tX10_isFirst_73 := Bt_3 (q := 73) tX10_isFirst_70 rfl
theorem dX10_isFirst_73 : decode cX10_isFirst 73 = .ok (.iload_n 2, 1) := de_1c tX10_isFirst_73
def tX10_isFirst_74 := Bt_1 (q := 74) tX10_isFirst_73 rfl
theorem dX10_isFirst_74 : decode cX10_isFirst 74 = .ok (.iload_n 3, 1) := de_1d tX10_isFirst_74
def tX10_isFirst_75 := Bt_1 (q := 75) tX10_isFirst_74 rfl
theorem dX10_isFirst_75 : decode cX10_isFirst 75 = .ok (.if_icmp .ge 7, 3) := de_a2 tX10_isFirst_75 (by decide +kernel)
def tX10_isFirst_78 := Bt_3 (q := 78) tX10_isFirst_75 rfl
theorem dX10_isFirst_78 : decode cX10_isFirst 78 = .ok (.iconst 1, 1) := de_04 tX10_isFirst_78
def tX10_isFirst_79 := Bt_1 (q := 79) tX10_isFirst_78 rfl
theorem dX10_isFirst_79 : decode cX10_isFirst 79 = .ok (.goto 4, 3) := de_a7 tX10_isFirst_79 (by decide +kernel)
def tX10_isFirst_82 := Bt_3 (q := 82) tX10_isFirst_79 rfl
theorem dX10_isFirst_82 : decode cX10_isFirst 82 = .ok (.iconst 0, 1) := de_03 tX10_isFirst_82
def tX10_isFirst_83 := Bt_1 (q := 83) tX10_isFirst_82 rfl
theorem dX10_isFirst_83 : decode cX10_isFirst 83 = .ok (.ireturn, 1) := de_ac tX10_isFirst_83
def tX10_isFirst_84 := Bt_1 (q := 84) tX10_isFirst_83 rfl
theorem dX10_isFirst_84 : decode cX10_isFirst 84 = .ok (.iinc 1 1, 3) := de_84 tX10_isFirst_84 (by decide +kernel) (by decide +kernel)
def tX10_isFirst_87 := Bt_3 (q := 87) tX10_isFirst_84 rfl
theorem dX10_isFirst_87 : decode cX10_isFirst 87 = .ok (.goto (-85), 3) := de_a7 tX10_isFirst_87 (by decide +kernel)
def tX10_isFirst_90 := Bt_3 (q := 90) tX10_isFirst_87 rfl
theorem dX10_isFirst_90 : decode cX10_isFirst 90 = .ok (.iconst 0, 1) := de_03 tX10_isFirst_90
def tX10_isFirst_91 := Bt_1 (q := 91) tX10_isFirst_90 rfl
theorem dX10_isFirst_91 : decode cX10_isFirst 91 = .ok (.ireturn, 1) := de_ac tX10_isFirst_91
def tX10_findWhole_0 := Bt_0 cX10_findWhole
theorem dX10_findWhole_0 : decode cX10_findWhole 0 = .ok (.aload_n 0, 1) := de_2a tX10_findWhole_0
def tX10_findWhole_1 := Bt_1 (q := 1) tX10_findWhole_0 rfl
theorem dX10_findWhole_1 : decode cX10_findWhole 1 = .ok (.getfield 156, 3) := de_b4 tX10_findWhole_1 (by decide +kernel)
def tX10_findWhole_4 := Bt_3 (q := 4) tX10_findWhole_1 rfl
theorem dX10_findWhole_4 : decode cX10_findWhole 4 = .ok (.ifCond .eq 4, 3) := de_99 tX10_findWhole_4 (by decide +kernel)
def tX10_findWhole_7 := Bt_3 (q := 7) tX10_findWhole_4 rfl
theorem dX10_findWhole_7 : decode cX10_findWhole 7 = .ok (.return_, 1) := de_b1 tX10_findWhole_7
def tX10_findWhole_8 := Bt_1 (q := 8) tX10_findWhole_7 rfl
theorem dX10_findWhole_8 : decode cX10_findWhole 8 = .ok (.aload_n 0, 1) := de_2a tX10_findWhole_8
def tX10_findWhole_9 := Bt_1 (q := 9) tX10_findWhole_8 rfl
theorem dX10_findWhole_9 : decode cX10_findWhole 9 = .ok (.iconst 1, 1) := de_04 tX10_findWhole_9
def tX10_findWhole_10 := Bt_1 (q := 10) tX10_findWhole_9 rfl
theorem dX10_findWhole_10 : decode cX10_findWhole 10 = .ok (.putfield 156, 3) := de_b5 tX10_findWhole_10 (by decide +kernel)
def tX10_findWhole_13 := Bt_3 (q := 13) tX10_findWhole_10 rfl
theorem dX10_findWhole_13 : decode cX10_findWhole 13 = .ok (.iconst 0, 1) := de_03 tX10_findWhole_13
def tX10_findWhole_14 := Bt_1 (q := 14) tX10_findWhole_13 rfl
theorem dX10_findWhole_14 : decode cX10_findWhole 14 = .ok (.istore_n 1, 1) := de_3c tX10_findWhole_14
def tX10_findWhole_15 := Bt_1 (q := 15) tX10_findWhole_14 rfl
theorem dX10_findWhole_15 : decode cX10_findWhole 15 = .ok (.iload_n 1, 1) := de_1b tX10_findWhole_15
def tX10_findWhole_16 := Bt_1 (q := 16) tX10_findWhole_15 rfl
theorem dX10_findWhole_16 : decode cX10_findWhole 16 = .ok (.aload_n 0, 1) := de_2a tX10_findWhole_16
def tX10_findWhole_17 := Bt_1 (q := 17) tX10_findWhole_16 rfl
theorem dX10_findWhole_17 : decode cX10_findWhole 17 = .ok (.getfield 17, 3) := de_b4 tX10_findWhole_17 (by decide +kernel)
def tX10_findWhole_20 := Bt_3 (q := 20) tX10_findWhole_17 rfl
theorem dX10_findWhole_20 : decode cX10_findWhole 20 = .ok (.if_icmp .ge 64, 3) := de_a2 tX10_findWhole_20 (by decide +kernel)
def tX10_findWhole_23 := Bt_3 (q := 23) tX10_findWhole_20 rfl
theorem dX10_findWhole_23 : decode cX10_findWhole 23 = .ok (.aload_n 0, 1) := de_2a tX10_findWhole_23
def tX10_findWhole_24 := Bt_1 (q := 24) tX10_findWhole_23 rfl
theorem dX10_findWhole_24 : decode cX10_findWhole 24 = .ok (.iload_n 1, 1) := de_1b tX10_findWhole_24
def tX10_findWhole_25 := Bt_1 (q := 25) tX10_findWhole_24 rfl
theorem dX10_findWhole_25 : decode cX10_findWhole 25 = .ok (.invokevirtual 321, 3) := de_b6 tX10_findWhole_25 (by decide +kernel)
def tX10_findWhole_28 := Bt_3 (q := 28) tX10_findWhole_25 rfl
theorem dX10_findWhole_28 : decode cX10_findWhole 28 = .ok (.aload_n 0, 1) := de_2a tX10_findWhole_28
def tX10_findWhole_29 := Bt_1 (q := 29) tX10_findWhole_28 rfl
theorem dX10_findWhole_29 : decode cX10_findWhole 29 = .ok (.getfield 91, 3) := de_b4 tX10_findWhole_29 (by decide +kernel)
def tX10_findWhole_32 := Bt_3 (q := 32) tX10_findWhole_29 rfl
theorem dX10_findWhole_32 : decode cX10_findWhole 32 = .ok (.iload_n 1, 1) := de_1b tX10_findWhole_32
def tX10_findWhole_33 := Bt_1 (q := 33) tX10_findWhole_32 rfl
theorem dX10_findWhole_33 : decode cX10_findWhole 33 = .ok (.aload_n 0, 1) := de_2a tX10_findWhole_33
def tX10_findWhole_34 := Bt_1 (q := 34) tX10_findWhole_33 rfl
theorem dX10_findWhole_34 : decode cX10_findWhole 34 = .ok (.getfield 315, 3) := de_b4 tX10_findWhole_34 (by decide +kernel)
def tX10_findWhole_37 := Bt_3 (q := 37) tX10_findWhole_34 rfl
theorem dX10_findWhole_37 : decode cX10_findWhole 37 = .ok (.iastore, 1) := de_4f tX10_findWhole_37
def tX10_findWhole_38 := Bt_1 (q := 38) tX10_findWhole_37 rfl
theorem dX10_findWhole_38 : decode cX10_findWhole 38 = .ok (.iconst 0, 1) := de_03 tX10_findWhole_38
def tX10_findWhole_39 := Bt_1 (q := 39) tX10_findWhole_38 rfl
theorem dX10_findWhole_39 : decode cX10_findWhole 39 = .ok (.istore_n 2, 1) := de_3d tX10_findWhole_39
def tX10_findWhole_40 := Bt_1 (q := 40) tX10_findWhole_39 rfl
theorem dX10_findWhole_40 : decode cX10_findWhole 40 = .ok (.iload_n 2, 1) := de_1c tX10_findWhole_40
def tX10_findWhole_41 := Bt_1 (q := 41) tX10_findWhole_40 rfl
theorem dX10_findWhole_41 : decode cX10_findWhole 41 = .ok (.aload_n 0, 1) := de_2a tX10_findWhole_41
def tX10_findWhole_42 := Bt_1 (q := 42) tX10_findWhole_41 rfl
theorem dX10_findWhole_42 : decode cX10_findWhole 42 = .ok (.getfield 315, 3) := de_b4 tX10_findWhole_42 (by decide +kernel)
def tX10_findWhole_45 := Bt_3 (q := 45) tX10_findWhole_42 rfl
theorem dX10_findWhole_45 : decode cX10_findWhole 45 = .ok (.if_icmp .ge 26, 3) := de_a2 tX10_findWhole_45 (by decide +kernel)
def tX10_findWhole_48 := Bt_3 (q := 48) tX10_findWhole_45 rfl
theorem dX10_findWhole_48 : decode cX10_findWhole 48 = .ok (.aload_n 0, 1) := de_2a tX10_findWhole_48
def tX10_findWhole_49 := Bt_1 (q := 49) tX10_findWhole_48 rfl
theorem dX10_findWhole_49 : decode cX10_findWhole 49 = .ok (.getfield 88, 3) := de_b4 tX10_findWhole_49 (by decide +kernel)
def tX10_findWhole_52 := Bt_3 (q := 52) tX10_findWhole_49 rfl
theorem dX10_findWhole_52 : decode cX10_findWhole 52 = .ok (.bipush 8, 2) := de_10 tX10_findWhole_52 (by decide +kernel)
def tX10_findWhole_54 := Bt_2 (q := 54) tX10_findWhole_52 rfl
theorem dX10_findWhole_54 : decode cX10_findWhole 54 = .ok (.iload_n 1, 1) := de_1b tX10_findWhole_54
def tX10_findWhole_55 := Bt_1 (q := 55) tX10_findWhole_54 rfl
theorem dX10_findWhole_55 : decode cX10_findWhole 55 = .ok (.imul, 1) := de_68 tX10_findWhole_55
def tX10_findWhole_56 := Bt_1 (q := 56) tX10_findWhole_55 rfl
theorem dX10_findWhole_56 : decode cX10_findWhole 56 = .ok (.iload_n 2, 1) := de_1c tX10_findWhole_56
def tX10_findWhole_57 := Bt_1 (q := 57) tX10_findWhole_56 rfl
theorem dX10_findWhole_57 : decode cX10_findWhole 57 = .ok (.iadd, 1) := de_60 tX10_findWhole_57
def tX10_findWhole_58 := Bt_1 (q := 58) tX10_findWhole_57 rfl
theorem dX10_findWhole_58 : decode cX10_findWhole 58 = .ok (.aload_n 0, 1) := de_2a tX10_findWhole_58
def tX10_findWhole_59 := Bt_1 (q := 59) tX10_findWhole_58 rfl
theorem dX10_findWhole_59 : decode cX10_findWhole 59 = .ok (.getfield 76, 3) := de_b4 tX10_findWhole_59 (by decide +kernel)
def tX10_findWhole_62 := Bt_3 (q := 62) tX10_findWhole_59 rfl
theorem dX10_findWhole_62 : decode cX10_findWhole 62 = .ok (.iload_n 2, 1) := de_1c tX10_findWhole_62
def tX10_findWhole_63 := Bt_1 (q := 63) tX10_findWhole_62 rfl
theorem dX10_findWhole_63 : decode cX10_findWhole 63 = .ok (.iaload, 1) := de_2e tX10_findWhole_63
def tX10_findWhole_64 := Bt_1 (q := 64) tX10_findWhole_63 rfl
theorem dX10_findWhole_64 : decode cX10_findWhole 64 = .ok (.iastore, 1) := de_4f tX10_findWhole_64
def tX10_findWhole_65 := Bt_1 (q := 65) tX10_findWhole_64 rfl
theorem dX10_findWhole_65 : decode cX10_findWhole 65 = .ok (.iinc 2 1, 3) := de_84 tX10_findWhole_65 (by decide +kernel) (by decide +kernel)
def tX10_findWhole_68 := Bt_3 (q := 68) tX10_findWhole_65 rfl
theorem dX10_findWhole_68 : decode cX10_findWhole 68 = .ok (.goto (-28), 3) := de_a7 tX10_findWhole_68 (by decide +kernel)
def tX10_findWhole_71 := Bt_3 (q := 71) tX10_findWhole_68 rfl
theorem dX10_findWhole_71 : decode cX10_findWhole 71 = .ok (.aload_n 0, 1) := de_2a tX10_findWhole_71
def tX10_findWhole_72 := Bt_1 (q := 72) tX10_findWhole_71 rfl
theorem dX10_findWhole_72 : decode cX10_findWhole 72 = .ok (.getfield 94, 3) := de_b4 tX10_findWhole_72 (by decide +kernel)
def tX10_findWhole_75 := Bt_3 (q := 75) tX10_findWhole_72 rfl
theorem dX10_findWhole_75 : decode cX10_findWhole 75 = .ok (.iload_n 1, 1) := de_1b tX10_findWhole_75
def tX10_findWhole_76 := Bt_1 (q := 76) tX10_findWhole_75 rfl
theorem dX10_findWhole_76 : decode cX10_findWhole 76 = .ok (.iconst 0, 1) := de_03 tX10_findWhole_76
def tX10_findWhole_77 := Bt_1 (q := 77) tX10_findWhole_76 rfl
theorem dX10_findWhole_77 : decode cX10_findWhole 77 = .ok (.iastore, 1) := de_4f tX10_findWhole_77
def tX10_findWhole_78 := Bt_1 (q := 78) tX10_findWhole_77 rfl
theorem dX10_findWhole_78 : decode cX10_findWhole 78 = .ok (.iinc 1 1, 3) := de_84 tX10_findWhole_78 (by decide +kernel) (by decide +kernel)
def tX10_findWhole_81 := Bt_3 (q := 81) tX10_findWhole_78 rfl
theorem dX10_findWhole_81 : decode cX10_findWhole 81 = .ok (.goto (-66), 3) := de_a7 tX10_findWhole_81 (by decide +kernel)
def tX10_findWhole_84 := Bt_3 (q := 84) tX10_findWhole_81 rfl
theorem dX10_findWhole_84 : decode cX10_findWhole 84 = .ok (.aload_n 0, 1) := de_2a tX10_findWhole_84
def tX10_findWhole_85 := Bt_1 (q := 85) tX10_findWhole_84 rfl
theorem dX10_findWhole_85 : decode cX10_findWhole 85 = .ok (.iconst (-1), 1) := de_02 tX10_findWhole_85
def tX10_findWhole_86 := Bt_1 (q := 86) tX10_findWhole_85 rfl
theorem dX10_findWhole_86 : decode cX10_findWhole 86 = .ok (.putfield 332, 3) := de_b5 tX10_findWhole_86 (by decide +kernel)
def tX10_findWhole_89 := Bt_3 (q := 89) tX10_findWhole_86 rfl
theorem dX10_findWhole_89 : decode cX10_findWhole 89 = .ok (.iconst 1, 1) := de_04 tX10_findWhole_89
def tX10_findWhole_90 := Bt_1 (q := 90) tX10_findWhole_89 rfl
theorem dX10_findWhole_90 : decode cX10_findWhole 90 = .ok (.istore_n 1, 1) := de_3c tX10_findWhole_90
def tX10_findWhole_91 := Bt_1 (q := 91) tX10_findWhole_90 rfl
theorem dX10_findWhole_91 : decode cX10_findWhole 91 = .ok (.iload_n 1, 1) := de_1b tX10_findWhole_91
def tX10_findWhole_92 := Bt_1 (q := 92) tX10_findWhole_91 rfl
theorem dX10_findWhole_92 : decode cX10_findWhole 92 = .ok (.ifCond .eq 73, 3) := de_99 tX10_findWhole_92 (by decide +kernel)
def tX10_findWhole_95 := Bt_3 (q := 95) tX10_findWhole_92 rfl
theorem dX10_findWhole_95 : decode cX10_findWhole 95 = .ok (.aload_n 0, 1) := de_2a tX10_findWhole_95
def tX10_findWhole_96 := Bt_1 (q := 96) tX10_findWhole_95 rfl
theorem dX10_findWhole_96 : decode cX10_findWhole 96 = .ok (.invokevirtual 344, 3) := de_b6 tX10_findWhole_96 (by decide +kernel)
def tX10_findWhole_99 := Bt_3 (q := 99) tX10_findWhole_96 rfl
theorem dX10_findWhole_99 : decode cX10_findWhole 99 = .ok (.aload_n 0, 1) := de_2a tX10_findWhole_99
def tX10_findWhole_100 := Bt_1 (q := 100) tX10_findWhole_99 rfl
theorem dX10_findWhole_100 : decode cX10_findWhole 100 = .ok (.getfield 17, 3) := de_b4 tX10_findWhole_100 (by decide +kernel)
def tX10_findWhole_103 := Bt_3 (q := 103) tX10_findWhole_100 rfl
theorem dX10_findWhole_103 : decode cX10_findWhole 103 = .ok (.iconst 1, 1) := de_04 tX10_findWhole_103
def tX10_findWhole_104 := Bt_1 (q := 104) tX10_findWhole_103 rfl
theorem dX10_findWhole_104 : decode cX10_findWhole 104 = .ok (.isub, 1) := de_64 tX10_findWhole_104
def tX10_findWhole_105 := Bt_1 (q := 105) tX10_findWhole_104 rfl
theorem dX10_findWhole_105 : decode cX10_findWhole 105 = .ok (.istore_n 2, 1) := de_3d tX10_findWhole_105
def tX10_findWhole_106 := Bt_1 (q := 106) tX10_findWhole_105 rfl
theorem dX10_findWhole_106 : decode cX10_findWhole 106 = .ok (.iload_n 2, 1) := de_1c tX10_findWhole_106
def tX10_findWhole_107 := Bt_1 (q := 107) tX10_findWhole_106 rfl
theorem dX10_findWhole_107 : decode cX10_findWhole 107 = .ok (.ifCond .lt 31, 3) := de_9b tX10_findWhole_107 (by decide +kernel)
def tX10_findWhole_110 := Bt_3 (q := 110) tX10_findWhole_107 rfl
theorem dX10_findWhole_110 : decode cX10_findWhole 110 = .ok (.aload_n 0, 1) := de_2a tX10_findWhole_110
def tX10_findWhole_111 := Bt_1 (q := 111) tX10_findWhole_110 rfl
theorem dX10_findWhole_111 : decode cX10_findWhole 111 = .ok (.getfield 94, 3) := de_b4 tX10_findWhole_111 (by decide +kernel)
def tX10_findWhole_114 := Bt_3 (q := 114) tX10_findWhole_111 rfl
theorem dX10_findWhole_114 : decode cX10_findWhole 114 = .ok (.iload_n 2, 1) := de_1c tX10_findWhole_114
def tX10_findWhole_115 := Bt_1 (q := 115) tX10_findWhole_114 rfl
theorem dX10_findWhole_115 : decode cX10_findWhole 115 = .ok (.iaload, 1) := de_2e tX10_findWhole_115
def tX10_findWhole_116 := Bt_1 (q := 116) tX10_findWhole_115 rfl
theorem dX10_findWhole_116 : decode cX10_findWhole 116 = .ok (.aload_n 0, 1) := de_2a tX10_findWhole_116
def tX10_findWhole_117 := Bt_1 (q := 117) tX10_findWhole_116 rfl
theorem dX10_findWhole_117 : decode cX10_findWhole 117 = .ok (.getfield 91, 3) := de_b4 tX10_findWhole_117 (by decide +kernel)
def tX10_findWhole_120 := Bt_3 (q := 120) tX10_findWhole_117 rfl
theorem dX10_findWhole_120 : decode cX10_findWhole 120 = .ok (.iload_n 2, 1) := de_1c tX10_findWhole_120
def tX10_findWhole_121 := Bt_1 (q := 121) tX10_findWhole_120 rfl
theorem dX10_findWhole_121 : decode cX10_findWhole 121 = .ok (.iaload, 1) := de_2e tX10_findWhole_121
def tX10_findWhole_122 := Bt_1 (q := 122) tX10_findWhole_121 rfl
theorem dX10_findWhole_122 : decode cX10_findWhole 122 = .ok (.if_icmp .ne 16, 3) := de_a0 tX10_findWhole_122 (by decide +kernel)
def tX10_findWhole_125 := Bt_3 (q := 125) tX10_findWhole_122 rfl
theorem dX10_findWhole_125 : decode cX10_findWhole 125 = .ok (.aload_n 0, 1) := de_2a tX10_findWhole_125
def tX10_findWhole_126 := Bt_1 (q := 126) tX10_findWhole_125 rfl
theorem dX10_findWhole_126 : decode cX10_findWhole 126 = .ok (.getfield 94, 3) := de_b4 tX10_findWhole_126 (by decide +kernel)
def tX10_findWhole_129 := Bt_3 (q := 129) tX10_findWhole_126 rfl
theorem dX10_findWhole_129 : decode cX10_findWhole 129 = .ok (.iload_n 2, 1) := de_1c tX10_findWhole_129
def tX10_findWhole_130 := Bt_1 (q := 130) tX10_findWhole_129 rfl
theorem dX10_findWhole_130 : decode cX10_findWhole 130 = .ok (.iconst 0, 1) := de_03 tX10_findWhole_130
def tX10_findWhole_131 := Bt_1 (q := 131) tX10_findWhole_130 rfl
theorem dX10_findWhole_131 : decode cX10_findWhole 131 = .ok (.iastore, 1) := de_4f tX10_findWhole_131
def tX10_findWhole_132 := Bt_1 (q := 132) tX10_findWhole_131 rfl
theorem dX10_findWhole_132 : decode cX10_findWhole 132 = .ok (.iinc 2 (-1), 3) := de_84 tX10_findWhole_132 (by decide +kernel) (by decide +kernel)
def tX10_findWhole_135 := Bt_3 (q := 135) tX10_findWhole_132 rfl
theorem dX10_findWhole_135 : decode cX10_findWhole 135 = .ok (.goto (-29), 3) := de_a7 tX10_findWhole_135 (by decide +kernel)
def tX10_findWhole_138 := Bt_3 (q := 138) tX10_findWhole_135 rfl
theorem dX10_findWhole_138 : decode cX10_findWhole 138 = .ok (.iload_n 2, 1) := de_1c tX10_findWhole_138
def tX10_findWhole_139 := Bt_1 (q := 139) tX10_findWhole_138 rfl
theorem dX10_findWhole_139 : decode cX10_findWhole 139 = .ok (.ifCond .lt 7, 3) := de_9b tX10_findWhole_139 (by decide +kernel)
def tX10_findWhole_142 := Bt_3 (q := 142) tX10_findWhole_139 rfl
theorem dX10_findWhole_142 : decode cX10_findWhole 142 = .ok (.iconst 1, 1) := de_04 tX10_findWhole_142
def tX10_findWhole_143 := Bt_1 (q := 143) tX10_findWhole_142 rfl
theorem dX10_findWhole_143 : decode cX10_findWhole 143 = .ok (.goto 4, 3) := de_a7 tX10_findWhole_143 (by decide +kernel)
def tX10_findWhole_146 := Bt_3 (q := 146) tX10_findWhole_143 rfl
theorem dX10_findWhole_146 : decode cX10_findWhole 146 = .ok (.iconst 0, 1) := de_03 tX10_findWhole_146
def tX10_findWhole_147 := Bt_1 (q := 147) tX10_findWhole_146 rfl
theorem dX10_findWhole_147 : decode cX10_findWhole 147 = .ok (.istore_n 1, 1) := de_3c tX10_findWhole_147
def tX10_findWhole_148 := Bt_1 (q := 148) tX10_findWhole_147 rfl
theorem dX10_findWhole_148 : decode cX10_findWhole 148 = .ok (.iload_n 1, 1) := de_1b tX10_findWhole_148
def tX10_findWhole_149 := Bt_1 (q := 149) tX10_findWhole_148 rfl
theorem dX10_findWhole_149 : decode cX10_findWhole 149 = .ok (.ifCond .eq 13, 3) := de_99 tX10_findWhole_149 (by decide +kernel)
def tX10_findWhole_152 := Bt_3 (q := 152) tX10_findWhole_149 rfl
theorem dX10_findWhole_152 : decode cX10_findWhole 152 = .ok (.aload_n 0, 1) := de_2a tX10_findWhole_152
def tX10_findWhole_153 := Bt_1 (q := 153) tX10_findWhole_152 rfl
theorem dX10_findWhole_153 : decode cX10_findWhole 153 = .ok (.getfield 94, 3) := de_b4 tX10_findWhole_153 (by decide +kernel)
def tX10_findWhole_156 := Bt_3 (q := 156) tX10_findWhole_153 rfl
theorem dX10_findWhole_156 : decode cX10_findWhole 156 = .ok (.iload_n 2, 1) := de_1c tX10_findWhole_156
def tX10_findWhole_157 := Bt_1 (q := 157) tX10_findWhole_156 rfl
theorem dX10_findWhole_157 : decode cX10_findWhole 157 = .ok (.dup2, 1) := de_5c tX10_findWhole_157
def tX10_findWhole_158 := Bt_1 (q := 158) tX10_findWhole_157 rfl
theorem dX10_findWhole_158 : decode cX10_findWhole 158 = .ok (.iaload, 1) := de_2e tX10_findWhole_158
def tX10_findWhole_159 := Bt_1 (q := 159) tX10_findWhole_158 rfl
theorem dX10_findWhole_159 : decode cX10_findWhole 159 = .ok (.iconst 1, 1) := de_04 tX10_findWhole_159
def tX10_findWhole_160 := Bt_1 (q := 160) tX10_findWhole_159 rfl
theorem dX10_findWhole_160 : decode cX10_findWhole 160 = .ok (.iadd, 1) := de_60 tX10_findWhole_160
def tX10_findWhole_161 := Bt_1 (q := 161) tX10_findWhole_160 rfl
theorem dX10_findWhole_161 : decode cX10_findWhole 161 = .ok (.iastore, 1) := de_4f tX10_findWhole_161
def tX10_findWhole_162 := Bt_1 (q := 162) tX10_findWhole_161 rfl
theorem dX10_findWhole_162 : decode cX10_findWhole 162 = .ok (.goto (-71), 3) := de_a7 tX10_findWhole_162 (by decide +kernel)
def tX10_findWhole_165 := Bt_3 (q := 165) tX10_findWhole_162 rfl
theorem dX10_findWhole_165 : decode cX10_findWhole 165 = .ok (.aload_n 0, 1) := de_2a tX10_findWhole_165
def tX10_findWhole_166 := Bt_1 (q := 166) tX10_findWhole_165 rfl
theorem dX10_findWhole_166 : decode cX10_findWhole 166 = .ok (.aload_n 0, 1) := de_2a tX10_findWhole_166
def tX10_findWhole_167 := Bt_1 (q := 167) tX10_findWhole_166 rfl
theorem dX10_findWhole_167 : decode cX10_findWhole 167 = .ok (.getfield 332, 3) := de_b4 tX10_findWhole_167 (by decide +kernel)
def tX10_findWhole_170 := Bt_3 (q := 170) tX10_findWhole_167 rfl
theorem dX10_findWhole_170 : decode cX10_findWhole 170 = .ok (.putfield 347, 3) := de_b5 tX10_findWhole_170 (by decide +kernel)
def tX10_findWhole_173 := Bt_3 (q := 173) tX10_findWhole_170 rfl
theorem dX10_findWhole_173 : decode cX10_findWhole 173 = .ok (.aload_n 0, 1) := de_2a tX10_findWhole_173
def tX10_findWhole_174 := Bt_1 (q := 174) tX10_findWhole_173 rfl
theorem dX10_findWhole_174 : decode cX10_findWhole 174 = .ok (.aload_n 0, 1) := de_2a tX10_findWhole_174
def tX10_findWhole_175 := Bt_1 (q := 175) tX10_findWhole_174 rfl
theorem dX10_findWhole_175 : decode cX10_findWhole 175 = .ok (.getfield 335, 3) := de_b4 tX10_findWhole_175 (by decide +kernel)
def tX10_findWhole_178 := Bt_3 (q := 178) tX10_findWhole_175 rfl
theorem dX10_findWhole_178 : decode cX10_findWhole 178 = .ok (.putfield 350, 3) := de_b5 tX10_findWhole_178 (by decide +kernel)
def tX10_findWhole_181 := Bt_3 (q := 181) tX10_findWhole_178 rfl
theorem dX10_findWhole_181 : decode cX10_findWhole 181 = .ok (.return_, 1) := de_b1 tX10_findWhole_181
def tX10_whole_0 := Bt_0 cX10_whole
theorem dX10_whole_0 : decode cX10_whole 0 = .ok (.iload_n 1, 1) := de_1b tX10_whole_0
def tX10_whole_1 := Bt_1 (q := 1) tX10_whole_0 rfl
theorem dX10_whole_1 : decode cX10_whole 1 = .ok (.iconst 0, 1) := de_03 tX10_whole_1
def tX10_whole_2 := Bt_1 (q := 2) tX10_whole_1 rfl
theorem dX10_whole_2 : decode cX10_whole 2 = .ok (.iconst 1, 1) := de_04 tX10_whole_2
def tX10_whole_3 := Bt_1 (q := 3) tX10_whole_2 rfl
theorem dX10_whole_3 : decode cX10_whole 3 = .ok (.invokestatic 144, 3) := de_b8 tX10_whole_3 (by decide +kernel)
def tX10_whole_6 := Bt_3 (q := 6) tX10_whole_3 rfl
theorem dX10_whole_6 : decode cX10_whole 6 = .ok (.ifCond .ne 10, 3) := de_9a tX10_whole_6 (by decide +kernel)
def tX10_whole_9 := Bt_3 (q := 9) tX10_whole_6 rfl
theorem dX10_whole_9 : decode cX10_whole 9 = .ok (.aload_n 0, 1) := de_2a tX10_whole_9
def tX10_whole_10 := Bt_1 (q := 10) tX10_whole_9 rfl
theorem dX10_whole_10 : decode cX10_whole 10 = .ok (.bipush (-2), 2) := de_10 tX10_whole_10 (by decide +kernel)
def tX10_whole_12 := Bt_2 (q := 12) tX10_whole_10 rfl
theorem dX10_whole_12 : decode cX10_whole 12 = .ok (.invokevirtual 151, 3) := de_b6 tX10_whole_12 (by decide +kernel)
def tX10_whole_15 := Bt_3 (q := 15) tX10_whole_12 rfl
theorem dX10_whole_15 : decode cX10_whole 15 = .ok (.ireturn, 1) := de_ac tX10_whole_15
def tX10_whole_16 := Bt_1 (q := 16) tX10_whole_15 rfl
theorem dX10_whole_16 : decode cX10_whole 16 = .ok (.aload_n 0, 1) := de_2a tX10_whole_16
def tX10_whole_17 := Bt_1 (q := 17) tX10_whole_16 rfl
theorem dX10_whole_17 : decode cX10_whole 17 = .ok (.invokevirtual 160, 3) := de_b6 tX10_whole_17 (by decide +kernel)
def tX10_whole_20 := Bt_3 (q := 20) tX10_whole_17 rfl
theorem dX10_whole_20 : decode cX10_whole 20 = .ok (.ifCond .eq 10, 3) := de_99 tX10_whole_20 (by decide +kernel)
def tX10_whole_23 := Bt_3 (q := 23) tX10_whole_20 rfl
theorem dX10_whole_23 : decode cX10_whole 23 = .ok (.aload_n 0, 1) := de_2a tX10_whole_23
def tX10_whole_24 := Bt_1 (q := 24) tX10_whole_23 rfl
theorem dX10_whole_24 : decode cX10_whole 24 = .ok (.bipush (-3), 2) := de_10 tX10_whole_24 (by decide +kernel)
def tX10_whole_26 := Bt_2 (q := 26) tX10_whole_24 rfl
theorem dX10_whole_26 : decode cX10_whole 26 = .ok (.invokevirtual 151, 3) := de_b6 tX10_whole_26 (by decide +kernel)
def tX10_whole_29 := Bt_3 (q := 29) tX10_whole_26 rfl
theorem dX10_whole_29 : decode cX10_whole 29 = .ok (.ireturn, 1) := de_ac tX10_whole_29
def tX10_whole_30 := Bt_1 (q := 30) tX10_whole_29 rfl
theorem dX10_whole_30 : decode cX10_whole 30 = .ok (.aload_n 0, 1) := de_2a tX10_whole_30
def tX10_whole_31 := Bt_1 (q := 31) tX10_whole_30 rfl
theorem dX10_whole_31 : decode cX10_whole 31 = .ok (.invokevirtual 353, 3) := de_b6 tX10_whole_31 (by decide +kernel)
def tX10_whole_34 := Bt_3 (q := 34) tX10_whole_31 rfl
theorem dX10_whole_34 : decode cX10_whole 34 = .ok (.iload_n 1, 1) := de_1b tX10_whole_34
def tX10_whole_35 := Bt_1 (q := 35) tX10_whole_34 rfl
theorem dX10_whole_35 : decode cX10_whole 35 = .ok (.ifCond .ne 10, 3) := de_9a tX10_whole_35 (by decide +kernel)
def tX10_whole_38 := Bt_3 (q := 38) tX10_whole_35 rfl
theorem dX10_whole_38 : decode cX10_whole 38 = .ok (.aload_n 0, 1) := de_2a tX10_whole_38
def tX10_whole_39 := Bt_1 (q := 39) tX10_whole_38 rfl
theorem dX10_whole_39 : decode cX10_whole 39 = .ok (.getfield 347, 3) := de_b4 tX10_whole_39 (by decide +kernel)
def tX10_whole_42 := Bt_3 (q := 42) tX10_whole_39 rfl
theorem dX10_whole_42 : decode cX10_whole 42 = .ok (.goto 7, 3) := de_a7 tX10_whole_42 (by decide +kernel)
def tX10_whole_45 := Bt_3 (q := 45) tX10_whole_42 rfl
theorem dX10_whole_45 : decode cX10_whole 45 = .ok (.aload_n 0, 1) := de_2a tX10_whole_45
def tX10_whole_46 := Bt_1 (q := 46) tX10_whole_45 rfl
theorem dX10_whole_46 : decode cX10_whole 46 = .ok (.getfield 350, 3) := de_b4 tX10_whole_46 (by decide +kernel)
def tX10_whole_49 := Bt_3 (q := 49) tX10_whole_46 rfl
theorem dX10_whole_49 : decode cX10_whole 49 = .ok (.ireturn, 1) := de_ac tX10_whole_49
def tX10_winner_0 := Bt_0 cX10_winner
theorem dX10_winner_0 : decode cX10_winner 0 = .ok (.aload_n 0, 1) := de_2a tX10_winner_0
def tX10_winner_1 := Bt_1 (q := 1) tX10_winner_0 rfl
theorem dX10_winner_1 : decode cX10_winner 1 = .ok (.iload_n 1, 1) := de_1b tX10_winner_1
def tX10_winner_2 := Bt_1 (q := 2) tX10_winner_1 rfl
theorem dX10_winner_2 : decode cX10_winner 2 = .ok (.invokevirtual 170, 3) := de_b6 tX10_winner_2 (by decide +kernel)
def tX10_winner_5 := Bt_3 (q := 5) tX10_winner_2 rfl
theorem dX10_winner_5 : decode cX10_winner 5 = .ok (.ifCond .ne 9, 3) := de_9a tX10_winner_5 (by decide +kernel)
def tX10_winner_8 := Bt_3 (q := 8) tX10_winner_5 rfl
theorem dX10_winner_8 : decode cX10_winner 8 = .ok (.aload_n 0, 1) := de_2a tX10_winner_8
def tX10_winner_9 := Bt_1 (q := 9) tX10_winner_8 rfl
theorem dX10_winner_9 : decode cX10_winner 9 = .ok (.iconst (-1), 1) := de_02 tX10_winner_9
def tX10_winner_10 := Bt_1 (q := 10) tX10_winner_9 rfl
theorem dX10_winner_10 : decode cX10_winner 10 = .ok (.invokevirtual 151, 3) := de_b6 tX10_winner_10 (by decide +kernel)
def tX10_winner_13 := Bt_3 (q := 13) tX10_winner_10 rfl
theorem dX10_winner_13 : decode cX10_winner 13 = .ok (.ireturn, 1) := de_ac tX10_winner_13
def tX10_winner_14 := Bt_1 (q := 14) tX10_winner_13 rfl
theorem dX10_winner_14 : decode cX10_winner 14 = .ok (.aload_n 0, 1) := de_2a tX10_winner_14
def tX10_winner_15 := Bt_1 (q := 15) tX10_winner_14 rfl
theorem dX10_winner_15 : decode cX10_winner 15 = .ok (.invokevirtual 160, 3) := de_b6 tX10_winner_15 (by decide +kernel)
def tX10_winner_18 := Bt_3 (q := 18) tX10_winner_15 rfl
theorem dX10_winner_18 : decode cX10_winner 18 = .ok (.ifCond .eq 10, 3) := de_99 tX10_winner_18 (by decide +kernel)
def tX10_winner_21 := Bt_3 (q := 21) tX10_winner_18 rfl
theorem dX10_winner_21 : decode cX10_winner 21 = .ok (.aload_n 0, 1) := de_2a tX10_winner_21
def tX10_winner_22 := Bt_1 (q := 22) tX10_winner_21 rfl
theorem dX10_winner_22 : decode cX10_winner 22 = .ok (.bipush (-3), 2) := de_10 tX10_winner_22 (by decide +kernel)
def tX10_winner_24 := Bt_2 (q := 24) tX10_winner_22 rfl
theorem dX10_winner_24 : decode cX10_winner 24 = .ok (.invokevirtual 151, 3) := de_b6 tX10_winner_24 (by decide +kernel)
def tX10_winner_27 := Bt_3 (q := 27) tX10_winner_24 rfl
theorem dX10_winner_27 : decode cX10_winner 27 = .ok (.ireturn, 1) := de_ac tX10_winner_27
def tX10_winner_28 := Bt_1 (q := 28) tX10_winner_27 rfl
theorem dX10_winner_28 : decode cX10_winner 28 = .ok (.aload_n 0, 1) := de_2a tX10_winner_28
def tX10_winner_29 := Bt_1 (q := 29) tX10_winner_28 rfl
theorem dX10_winner_29 : decode cX10_winner 29 = .ok (.invokevirtual 353, 3) := de_b6 tX10_winner_29 (by decide +kernel)
def tX10_winner_32 := Bt_3 (q := 32) tX10_winner_29 rfl
theorem dX10_winner_32 : decode cX10_winner 32 = .ok (.aload_n 0, 1) := de_2a tX10_winner_32
def tX10_winner_33 := Bt_1 (q := 33) tX10_winner_32 rfl
theorem dX10_winner_33 : decode cX10_winner 33 = .ok (.getfield 85, 3) := de_b4 tX10_winner_33 (by decide +kernel)
def tX10_winner_36 := Bt_3 (q := 36) tX10_winner_33 rfl
theorem dX10_winner_36 : decode cX10_winner 36 = .ok (.iload_n 1, 1) := de_1b tX10_winner_36
def tX10_winner_37 := Bt_1 (q := 37) tX10_winner_36 rfl
theorem dX10_winner_37 : decode cX10_winner 37 = .ok (.iaload, 1) := de_2e tX10_winner_37
def tX10_winner_38 := Bt_1 (q := 38) tX10_winner_37 rfl
theorem dX10_winner_38 : decode cX10_winner 38 = .ok (.ireturn, 1) := de_ac tX10_winner_38
def tX10_award_0 := Bt_0 cX10_award
theorem dX10_award_0 : decode cX10_award 0 = .ok (.iload_n 1, 1) := de_1b tX10_award_0
def tX10_award_1 := Bt_1 (q := 1) tX10_award_0 rfl
theorem dX10_award_1 : decode cX10_award 1 = .ok (.iconst 0, 1) := de_03 tX10_award_1
def tX10_award_2 := Bt_1 (q := 2) tX10_award_1 rfl
theorem dX10_award_2 : decode cX10_award 2 = .ok (.iconst 1, 1) := de_04 tX10_award_2
def tX10_award_3 := Bt_1 (q := 3) tX10_award_2 rfl
theorem dX10_award_3 : decode cX10_award 3 = .ok (.invokestatic 144, 3) := de_b8 tX10_award_3 (by decide +kernel)
def tX10_award_6 := Bt_3 (q := 6) tX10_award_3 rfl
theorem dX10_award_6 : decode cX10_award 6 = .ok (.ifCond .ne 10, 3) := de_9a tX10_award_6 (by decide +kernel)
def tX10_award_9 := Bt_3 (q := 9) tX10_award_6 rfl
theorem dX10_award_9 : decode cX10_award 9 = .ok (.aload_n 0, 1) := de_2a tX10_award_9
def tX10_award_10 := Bt_1 (q := 10) tX10_award_9 rfl
theorem dX10_award_10 : decode cX10_award 10 = .ok (.bipush (-2), 2) := de_10 tX10_award_10 (by decide +kernel)
def tX10_award_12 := Bt_2 (q := 12) tX10_award_10 rfl
theorem dX10_award_12 : decode cX10_award 12 = .ok (.invokevirtual 151, 3) := de_b6 tX10_award_12 (by decide +kernel)
def tX10_award_15 := Bt_3 (q := 15) tX10_award_12 rfl
theorem dX10_award_15 : decode cX10_award 15 = .ok (.ireturn, 1) := de_ac tX10_award_15
def tX10_award_16 := Bt_1 (q := 16) tX10_award_15 rfl
theorem dX10_award_16 : decode cX10_award 16 = .ok (.aload_n 0, 1) := de_2a tX10_award_16
def tX10_award_17 := Bt_1 (q := 17) tX10_award_16 rfl
theorem dX10_award_17 : decode cX10_award 17 = .ok (.invokevirtual 160, 3) := de_b6 tX10_award_17 (by decide +kernel)
def tX10_award_20 := Bt_3 (q := 20) tX10_award_17 rfl
theorem dX10_award_20 : decode cX10_award 20 = .ok (.ifCond .ne 10, 3) := de_9a tX10_award_20 (by decide +kernel)
def tX10_award_23 := Bt_3 (q := 23) tX10_award_20 rfl
theorem dX10_award_23 : decode cX10_award 23 = .ok (.aload_n 0, 1) := de_2a tX10_award_23
def tX10_award_24 := Bt_1 (q := 24) tX10_award_23 rfl
theorem dX10_award_24 : decode cX10_award 24 = .ok (.getfield 356, 3) := de_b4 tX10_award_24 (by decide +kernel)
def tX10_award_27 := Bt_3 (q := 27) tX10_award_24 rfl
theorem dX10_award_27 : decode cX10_award 27 = .ok (.ifCond .eq 10, 3) := de_99 tX10_award_27 (by decide +kernel)
def tX10_award_30 := Bt_3 (q := 30) tX10_award_27 rfl
theorem dX10_award_30 : decode cX10_award 30 = .ok (.aload_n 0, 1) := de_2a tX10_award_30
def tX10_award_31 := Bt_1 (q := 31) tX10_award_30 rfl
theorem dX10_award_31 : decode cX10_award 31 = .ok (.bipush (-3), 2) := de_10 tX10_award_31 (by decide +kernel)
def tX10_award_33 := Bt_2 (q := 33) tX10_award_31 rfl
theorem dX10_award_33 : decode cX10_award 33 = .ok (.invokevirtual 151, 3) := de_b6 tX10_award_33 (by decide +kernel)
def tX10_award_36 := Bt_3 (q := 36) tX10_award_33 rfl
theorem dX10_award_36 : decode cX10_award 36 = .ok (.ireturn, 1) := de_ac tX10_award_36
def tX10_award_37 := Bt_1 (q := 37) tX10_award_36 rfl
theorem dX10_award_37 : decode cX10_award 37 = .ok (.aload_n 0, 1) := de_2a tX10_award_37
def tX10_award_38 := Bt_1 (q := 38) tX10_award_37 rfl
theorem dX10_award_38 : decode cX10_award 38 = .ok (.invokevirtual 353, 3) := de_b6 tX10_award_38 (by decide +kernel)
def tX10_award_41 := Bt_3 (q := 41) tX10_award_38 rfl
theorem dX10_award_41 : decode cX10_award 41 = .ok (.aload_n 0, 1) := de_2a tX10_award_41
def tX10_award_42 := Bt_1 (q := 42) tX10_award_41 rfl
theorem dX10_award_42 : decode cX10_award 42 = .ok (.iconst 1, 1) := de_04 tX10_award_42
def tX10_award_43 := Bt_1 (q := 43) tX10_award_42 rfl
theorem dX10_award_43 : decode cX10_award 43 = .ok (.putfield 356, 3) := de_b5 tX10_award_43 (by decide +kernel)
def tX10_award_46 := Bt_3 (q := 46) tX10_award_43 rfl
theorem dX10_award_46 : decode cX10_award 46 = .ok (.aload_n 0, 1) := de_2a tX10_award_46
def tX10_award_47 := Bt_1 (q := 47) tX10_award_46 rfl
theorem dX10_award_47 : decode cX10_award 47 = .ok (.aload_n 0, 1) := de_2a tX10_award_47
def tX10_award_48 := Bt_1 (q := 48) tX10_award_47 rfl
theorem dX10_award_48 : decode cX10_award 48 = .ok (.getfield 148, 3) := de_b4 tX10_award_48 (by decide +kernel)
def tX10_award_51 := Bt_3 (q := 51) tX10_award_48 rfl
theorem dX10_award_51 : decode cX10_award 51 = .ok (.sipush 1440, 3) := de_11 tX10_award_51 (by decide +kernel)
def tX10_award_54 := Bt_3 (q := 54) tX10_award_51 rfl
theorem dX10_award_54 : decode cX10_award 54 = .ok (.iload_n 1, 1) := de_1b tX10_award_54
def tX10_award_55 := Bt_1 (q := 55) tX10_award_54 rfl
theorem dX10_award_55 : decode cX10_award 55 = .ok (.ifCond .ne 8, 3) := de_9a tX10_award_55 (by decide +kernel)
def tX10_award_58 := Bt_3 (q := 58) tX10_award_55 rfl
theorem dX10_award_58 : decode cX10_award 58 = .ok (.bipush 10, 2) := de_10 tX10_award_58 (by decide +kernel)
def tX10_award_60 := Bt_2 (q := 60) tX10_award_58 rfl
theorem dX10_award_60 : decode cX10_award 60 = .ok (.goto 5, 3) := de_a7 tX10_award_60 (by decide +kernel)
def tX10_award_63 := Bt_3 (q := 63) tX10_award_60 rfl
theorem dX10_award_63 : decode cX10_award 63 = .ok (.bipush 13, 2) := de_10 tX10_award_63 (by decide +kernel)
def tX10_award_65 := Bt_2 (q := 65) tX10_award_63 rfl
theorem dX10_award_65 : decode cX10_award 65 = .ok (.imul, 1) := de_68 tX10_award_65
def tX10_award_66 := Bt_1 (q := 66) tX10_award_65 rfl
theorem dX10_award_66 : decode cX10_award 66 = .ok (.iadd, 1) := de_60 tX10_award_66
def tX10_award_67 := Bt_1 (q := 67) tX10_award_66 rfl
theorem dX10_award_67 : decode cX10_award 67 = .ok (.putfield 359, 3) := de_b5 tX10_award_67 (by decide +kernel)
def tX10_award_70 := Bt_3 (q := 70) tX10_award_67 rfl
theorem dX10_award_70 : decode cX10_award 70 = .ok (.iconst 0, 1) := de_03 tX10_award_70
def tX10_award_71 := Bt_1 (q := 71) tX10_award_70 rfl
theorem dX10_award_71 : decode cX10_award 71 = .ok (.istore_n 2, 1) := de_3d tX10_award_71
def tX10_award_72 := Bt_1 (q := 72) tX10_award_71 rfl
theorem dX10_award_72 : decode cX10_award 72 = .ok (.iload_n 2, 1) := de_1c tX10_award_72
def tX10_award_73 := Bt_1 (q := 73) tX10_award_72 rfl
theorem dX10_award_73 : decode cX10_award 73 = .ok (.bipush 6, 2) := de_10 tX10_award_73 (by decide +kernel)
def tX10_award_75 := Bt_2 (q := 75) tX10_award_73 rfl
theorem dX10_award_75 : decode cX10_award 75 = .ok (.if_icmp .ge 75, 3) := de_a2 tX10_award_75 (by decide +kernel)
def tX10_award_78 := Bt_3 (q := 78) tX10_award_75 rfl
theorem dX10_award_78 : decode cX10_award 78 = .ok (.aload_n 0, 1) := de_2a tX10_award_78
def tX10_award_79 := Bt_1 (q := 79) tX10_award_78 rfl
theorem dX10_award_79 : decode cX10_award 79 = .ok (.getfield 103, 3) := de_b4 tX10_award_79 (by decide +kernel)
def tX10_award_82 := Bt_3 (q := 82) tX10_award_79 rfl
theorem dX10_award_82 : decode cX10_award 82 = .ok (.iload_n 2, 1) := de_1c tX10_award_82
def tX10_award_83 := Bt_1 (q := 83) tX10_award_82 rfl
theorem dX10_award_83 : decode cX10_award 83 = .ok (.iload_n 2, 1) := de_1c tX10_award_83
def tX10_award_84 := Bt_1 (q := 84) tX10_award_83 rfl
theorem dX10_award_84 : decode cX10_award 84 = .ok (.aload_n 0, 1) := de_2a tX10_award_84
def tX10_award_85 := Bt_1 (q := 85) tX10_award_84 rfl
theorem dX10_award_85 : decode cX10_award 85 = .ok (.getfield 17, 3) := de_b4 tX10_award_85 (by decide +kernel)
def tX10_award_88 := Bt_3 (q := 88) tX10_award_85 rfl
theorem dX10_award_88 : decode cX10_award 88 = .ok (.if_icmp .ge 12, 3) := de_a2 tX10_award_88 (by decide +kernel)
def tX10_award_91 := Bt_3 (q := 91) tX10_award_88 rfl
theorem dX10_award_91 : decode cX10_award 91 = .ok (.aload_n 0, 1) := de_2a tX10_award_91
def tX10_award_92 := Bt_1 (q := 92) tX10_award_91 rfl
theorem dX10_award_92 : decode cX10_award 92 = .ok (.getfield 85, 3) := de_b4 tX10_award_92 (by decide +kernel)
def tX10_award_95 := Bt_3 (q := 95) tX10_award_92 rfl
theorem dX10_award_95 : decode cX10_award 95 = .ok (.iload_n 2, 1) := de_1c tX10_award_95
def tX10_award_96 := Bt_1 (q := 96) tX10_award_95 rfl
theorem dX10_award_96 : decode cX10_award 96 = .ok (.iaload, 1) := de_2e tX10_award_96
def tX10_award_97 := Bt_1 (q := 97) tX10_award_96 rfl
theorem dX10_award_97 : decode cX10_award 97 = .ok (.goto 5, 3) := de_a7 tX10_award_97 (by decide +kernel)
def tX10_award_100 := Bt_3 (q := 100) tX10_award_97 rfl
theorem dX10_award_100 : decode cX10_award 100 = .ok (.bipush (-9), 2) := de_10 tX10_award_100 (by decide +kernel)
def tX10_award_102 := Bt_2 (q := 102) tX10_award_100 rfl
theorem dX10_award_102 : decode cX10_award 102 = .ok (.iastore, 1) := de_4f tX10_award_102
def tX10_award_103 := Bt_1 (q := 103) tX10_award_102 rfl
theorem dX10_award_103 : decode cX10_award 103 = .ok (.aload_n 0, 1) := de_2a tX10_award_103
def tX10_award_104 := Bt_1 (q := 104) tX10_award_103 rfl
theorem dX10_award_104 : decode cX10_award 104 = .ok (.getfield 106, 3) := de_b4 tX10_award_104 (by decide +kernel)
def tX10_award_107 := Bt_3 (q := 107) tX10_award_104 rfl
theorem dX10_award_107 : decode cX10_award 107 = .ok (.iload_n 2, 1) := de_1c tX10_award_107
def tX10_award_108 := Bt_1 (q := 108) tX10_award_107 rfl
theorem dX10_award_108 : decode cX10_award 108 = .ok (.aload_n 0, 1) := de_2a tX10_award_108
def tX10_award_109 := Bt_1 (q := 109) tX10_award_108 rfl
theorem dX10_award_109 : decode cX10_award 109 = .ok (.getfield 103, 3) := de_b4 tX10_award_109 (by decide +kernel)
def tX10_award_112 := Bt_3 (q := 112) tX10_award_109 rfl
theorem dX10_award_112 : decode cX10_award 112 = .ok (.iload_n 2, 1) := de_1c tX10_award_112
def tX10_award_113 := Bt_1 (q := 113) tX10_award_112 rfl
theorem dX10_award_113 : decode cX10_award 113 = .ok (.iaload, 1) := de_2e tX10_award_113
def tX10_award_114 := Bt_1 (q := 114) tX10_award_113 rfl
theorem dX10_award_114 : decode cX10_award 114 = .ok (.ifCond .ge 7, 3) := de_9c tX10_award_114 (by decide +kernel)
def tX10_award_117 := Bt_3 (q := 117) tX10_award_114 rfl
theorem dX10_award_117 : decode cX10_award 117 = .ok (.iconst 0, 1) := de_03 tX10_award_117
def tX10_award_118 := Bt_1 (q := 118) tX10_award_117 rfl
theorem dX10_award_118 : decode cX10_award 118 = .ok (.goto 18, 3) := de_a7 tX10_award_118 (by decide +kernel)
def tX10_award_121 := Bt_3 (q := 121) tX10_award_118 rfl
theorem dX10_award_121 : decode cX10_award 121 = .ok (.aload_n 0, 1) := de_2a tX10_award_121
def tX10_award_122 := Bt_1 (q := 122) tX10_award_121 rfl
theorem dX10_award_122 : decode cX10_award 122 = .ok (.bipush 8, 2) := de_10 tX10_award_122 (by decide +kernel)
def tX10_award_124 := Bt_2 (q := 124) tX10_award_122 rfl
theorem dX10_award_124 : decode cX10_award 124 = .ok (.iload_n 2, 1) := de_1c tX10_award_124
def tX10_award_125 := Bt_1 (q := 125) tX10_award_124 rfl
theorem dX10_award_125 : decode cX10_award 125 = .ok (.imul, 1) := de_68 tX10_award_125
def tX10_award_126 := Bt_1 (q := 126) tX10_award_125 rfl
theorem dX10_award_126 : decode cX10_award 126 = .ok (.aload_n 0, 1) := de_2a tX10_award_126
def tX10_award_127 := Bt_1 (q := 127) tX10_award_126 rfl
theorem dX10_award_127 : decode cX10_award 127 = .ok (.getfield 103, 3) := de_b4 tX10_award_127 (by decide +kernel)
def tX10_award_130 := Bt_3 (q := 130) tX10_award_127 rfl
theorem dX10_award_130 : decode cX10_award 130 = .ok (.iload_n 2, 1) := de_1c tX10_award_130
def tX10_award_131 := Bt_1 (q := 131) tX10_award_130 rfl
theorem dX10_award_131 : decode cX10_award 131 = .ok (.iaload, 1) := de_2e tX10_award_131
def tX10_award_132 := Bt_1 (q := 132) tX10_award_131 rfl
theorem dX10_award_132 : decode cX10_award 132 = .ok (.iadd, 1) := de_60 tX10_award_132
def tX10_award_133 := Bt_1 (q := 133) tX10_award_132 rfl
theorem dX10_award_133 : decode cX10_award 133 = .ok (.invokevirtual 191, 3) := de_b6 tX10_award_133 (by decide +kernel)
def tX10_award_136 := Bt_3 (q := 136) tX10_award_133 rfl
theorem dX10_award_136 : decode cX10_award 136 = .ok (.iastore, 1) := de_4f tX10_award_136
def tX10_award_137 := Bt_1 (q := 137) tX10_award_136 rfl
theorem dX10_award_137 : decode cX10_award 137 = .ok (.aload_n 0, 1) := de_2a tX10_award_137
def tX10_award_138 := Bt_1 (q := 138) tX10_award_137 rfl
theorem dX10_award_138 : decode cX10_award 138 = .ok (.getfield 109, 3) := de_b4 tX10_award_138 (by decide +kernel)
def tX10_award_141 := Bt_3 (q := 141) tX10_award_138 rfl
theorem dX10_award_141 : decode cX10_award 141 = .ok (.iload_n 2, 1) := de_1c tX10_award_141
def tX10_award_142 := Bt_1 (q := 142) tX10_award_141 rfl
theorem dX10_award_142 : decode cX10_award 142 = .ok (.iconst 0, 1) := de_03 tX10_award_142
def tX10_award_143 := Bt_1 (q := 143) tX10_award_142 rfl
theorem dX10_award_143 : decode cX10_award 143 = .ok (.iastore, 1) := de_4f tX10_award_143
def tX10_award_144 := Bt_1 (q := 144) tX10_award_143 rfl
theorem dX10_award_144 : decode cX10_award 144 = .ok (.iinc 2 1, 3) := de_84 tX10_award_144 (by decide +kernel) (by decide +kernel)
def tX10_award_147 := Bt_3 (q := 147) tX10_award_144 rfl
theorem dX10_award_147 : decode cX10_award 147 = .ok (.goto (-75), 3) := de_a7 tX10_award_147 (by decide +kernel)
def tX10_award_150 := Bt_3 (q := 150) tX10_award_147 rfl
theorem dX10_award_150 : decode cX10_award 150 = .ok (.aload_n 0, 1) := de_2a tX10_award_150
def tX10_award_151 := Bt_1 (q := 151) tX10_award_150 rfl
theorem dX10_award_151 : decode cX10_award 151 = .ok (.getfield 347, 3) := de_b4 tX10_award_151 (by decide +kernel)
def tX10_award_154 := Bt_3 (q := 154) tX10_award_151 rfl
theorem dX10_award_154 : decode cX10_award 154 = .ok (.ireturn, 1) := de_ac tX10_award_154
def tX10_awarded_0 := Bt_0 cX10_awarded
theorem dX10_awarded_0 : decode cX10_awarded 0 = .ok (.aload_n 0, 1) := de_2a tX10_awarded_0
def tX10_awarded_1 := Bt_1 (q := 1) tX10_awarded_0 rfl
theorem dX10_awarded_1 : decode cX10_awarded 1 = .ok (.iload_n 1, 1) := de_1b tX10_awarded_1
def tX10_awarded_2 := Bt_1 (q := 2) tX10_awarded_1 rfl
theorem dX10_awarded_2 : decode cX10_awarded 2 = .ok (.invokevirtual 170, 3) := de_b6 tX10_awarded_2 (by decide +kernel)
def tX10_awarded_5 := Bt_3 (q := 5) tX10_awarded_2 rfl
theorem dX10_awarded_5 : decode cX10_awarded 5 = .ok (.ifCond .ne 9, 3) := de_9a tX10_awarded_5 (by decide +kernel)
def tX10_awarded_8 := Bt_3 (q := 8) tX10_awarded_5 rfl
theorem dX10_awarded_8 : decode cX10_awarded 8 = .ok (.aload_n 0, 1) := de_2a tX10_awarded_8
def tX10_awarded_9 := Bt_1 (q := 9) tX10_awarded_8 rfl
theorem dX10_awarded_9 : decode cX10_awarded 9 = .ok (.iconst (-1), 1) := de_02 tX10_awarded_9
def tX10_awarded_10 := Bt_1 (q := 10) tX10_awarded_9 rfl
theorem dX10_awarded_10 : decode cX10_awarded 10 = .ok (.invokevirtual 151, 3) := de_b6 tX10_awarded_10 (by decide +kernel)
def tX10_awarded_13 := Bt_3 (q := 13) tX10_awarded_10 rfl
theorem dX10_awarded_13 : decode cX10_awarded 13 = .ok (.ireturn, 1) := de_ac tX10_awarded_13
def tX10_awarded_14 := Bt_1 (q := 14) tX10_awarded_13 rfl
theorem dX10_awarded_14 : decode cX10_awarded 14 = .ok (.aload_n 0, 1) := de_2a tX10_awarded_14
def tX10_awarded_15 := Bt_1 (q := 15) tX10_awarded_14 rfl
theorem dX10_awarded_15 : decode cX10_awarded 15 = .ok (.getfield 356, 3) := de_b4 tX10_awarded_15 (by decide +kernel)
def tX10_awarded_18 := Bt_3 (q := 18) tX10_awarded_15 rfl
theorem dX10_awarded_18 : decode cX10_awarded 18 = .ok (.ifCond .eq 12, 3) := de_99 tX10_awarded_18 (by decide +kernel)
def tX10_awarded_21 := Bt_3 (q := 21) tX10_awarded_18 rfl
theorem dX10_awarded_21 : decode cX10_awarded 21 = .ok (.aload_n 0, 1) := de_2a tX10_awarded_21
def tX10_awarded_22 := Bt_1 (q := 22) tX10_awarded_21 rfl
theorem dX10_awarded_22 : decode cX10_awarded 22 = .ok (.getfield 103, 3) := de_b4 tX10_awarded_22 (by decide +kernel)
def tX10_awarded_25 := Bt_3 (q := 25) tX10_awarded_22 rfl
theorem dX10_awarded_25 : decode cX10_awarded 25 = .ok (.iload_n 1, 1) := de_1b tX10_awarded_25
def tX10_awarded_26 := Bt_1 (q := 26) tX10_awarded_25 rfl
theorem dX10_awarded_26 : decode cX10_awarded 26 = .ok (.iaload, 1) := de_2e tX10_awarded_26
def tX10_awarded_27 := Bt_1 (q := 27) tX10_awarded_26 rfl
theorem dX10_awarded_27 : decode cX10_awarded 27 = .ok (.goto 9, 3) := de_a7 tX10_awarded_27 (by decide +kernel)
def tX10_awarded_30 := Bt_3 (q := 30) tX10_awarded_27 rfl
theorem dX10_awarded_30 : decode cX10_awarded 30 = .ok (.aload_n 0, 1) := de_2a tX10_awarded_30
def tX10_awarded_31 := Bt_1 (q := 31) tX10_awarded_30 rfl
theorem dX10_awarded_31 : decode cX10_awarded 31 = .ok (.bipush (-3), 2) := de_10 tX10_awarded_31 (by decide +kernel)
def tX10_awarded_33 := Bt_2 (q := 33) tX10_awarded_31 rfl
theorem dX10_awarded_33 : decode cX10_awarded 33 = .ok (.invokevirtual 151, 3) := de_b6 tX10_awarded_33 (by decide +kernel)
def tX10_awarded_36 := Bt_3 (q := 36) tX10_awarded_33 rfl
theorem dX10_awarded_36 : decode cX10_awarded 36 = .ok (.ireturn, 1) := de_ac tX10_awarded_36
def tX10_challenge_0 := Bt_0 cX10_challenge
theorem dX10_challenge_0 : decode cX10_challenge 0 = .ok (.aload_n 0, 1) := de_2a tX10_challenge_0
def tX10_challenge_1 := Bt_1 (q := 1) tX10_challenge_0 rfl
theorem dX10_challenge_1 : decode cX10_challenge 1 = .ok (.iload_n 1, 1) := de_1b tX10_challenge_1
def tX10_challenge_2 := Bt_1 (q := 2) tX10_challenge_1 rfl
theorem dX10_challenge_2 : decode cX10_challenge 2 = .ok (.invokevirtual 170, 3) := de_b6 tX10_challenge_2 (by decide +kernel)
def tX10_challenge_5 := Bt_3 (q := 5) tX10_challenge_2 rfl
theorem dX10_challenge_5 : decode cX10_challenge 5 = .ok (.ifCond .ne 9, 3) := de_9a tX10_challenge_5 (by decide +kernel)
def tX10_challenge_8 := Bt_3 (q := 8) tX10_challenge_5 rfl
theorem dX10_challenge_8 : decode cX10_challenge 8 = .ok (.aload_n 0, 1) := de_2a tX10_challenge_8
def tX10_challenge_9 := Bt_1 (q := 9) tX10_challenge_8 rfl
theorem dX10_challenge_9 : decode cX10_challenge 9 = .ok (.iconst (-1), 1) := de_02 tX10_challenge_9
def tX10_challenge_10 := Bt_1 (q := 10) tX10_challenge_9 rfl
theorem dX10_challenge_10 : decode cX10_challenge 10 = .ok (.invokevirtual 151, 3) := de_b6 tX10_challenge_10 (by decide +kernel)
def tX10_challenge_13 := Bt_3 (q := 13) tX10_challenge_10 rfl
theorem dX10_challenge_13 : decode cX10_challenge 13 = .ok (.ireturn, 1) := de_ac tX10_challenge_13
def tX10_challenge_14 := Bt_1 (q := 14) tX10_challenge_13 rfl
theorem dX10_challenge_14 : decode cX10_challenge 14 = .ok (.iload_n 2, 1) := de_1c tX10_challenge_14
def tX10_challenge_15 := Bt_1 (q := 15) tX10_challenge_14 rfl
theorem dX10_challenge_15 : decode cX10_challenge 15 = .ok (.iconst 0, 1) := de_03 tX10_challenge_15
def tX10_challenge_16 := Bt_1 (q := 16) tX10_challenge_15 rfl
theorem dX10_challenge_16 : decode cX10_challenge 16 = .ok (.iconst 2, 1) := de_05 tX10_challenge_16
def tX10_challenge_17 := Bt_1 (q := 17) tX10_challenge_16 rfl
theorem dX10_challenge_17 : decode cX10_challenge 17 = .ok (.invokestatic 144, 3) := de_b8 tX10_challenge_17 (by decide +kernel)
def tX10_challenge_20 := Bt_3 (q := 20) tX10_challenge_17 rfl
theorem dX10_challenge_20 : decode cX10_challenge 20 = .ok (.ifCond .ne 10, 3) := de_9a tX10_challenge_20 (by decide +kernel)
def tX10_challenge_23 := Bt_3 (q := 23) tX10_challenge_20 rfl
theorem dX10_challenge_23 : decode cX10_challenge 23 = .ok (.aload_n 0, 1) := de_2a tX10_challenge_23
def tX10_challenge_24 := Bt_1 (q := 24) tX10_challenge_23 rfl
theorem dX10_challenge_24 : decode cX10_challenge 24 = .ok (.bipush (-2), 2) := de_10 tX10_challenge_24 (by decide +kernel)
def tX10_challenge_26 := Bt_2 (q := 26) tX10_challenge_24 rfl
theorem dX10_challenge_26 : decode cX10_challenge 26 = .ok (.invokevirtual 151, 3) := de_b6 tX10_challenge_26 (by decide +kernel)
def tX10_challenge_29 := Bt_3 (q := 29) tX10_challenge_26 rfl
theorem dX10_challenge_29 : decode cX10_challenge 29 = .ok (.ireturn, 1) := de_ac tX10_challenge_29
def tX10_challenge_30 := Bt_1 (q := 30) tX10_challenge_29 rfl
theorem dX10_challenge_30 : decode cX10_challenge 30 = .ok (.aload_n 0, 1) := de_2a tX10_challenge_30
def tX10_challenge_31 := Bt_1 (q := 31) tX10_challenge_30 rfl
theorem dX10_challenge_31 : decode cX10_challenge 31 = .ok (.getfield 356, 3) := de_b4 tX10_challenge_31 (by decide +kernel)
def tX10_challenge_34 := Bt_3 (q := 34) tX10_challenge_31 rfl
theorem dX10_challenge_34 : decode cX10_challenge 34 = .ok (.ifCond .eq 21, 3) := de_99 tX10_challenge_34 (by decide +kernel)
def tX10_challenge_37 := Bt_3 (q := 37) tX10_challenge_34 rfl
theorem dX10_challenge_37 : decode cX10_challenge 37 = .ok (.aload_n 0, 1) := de_2a tX10_challenge_37
def tX10_challenge_38 := Bt_1 (q := 38) tX10_challenge_37 rfl
theorem dX10_challenge_38 : decode cX10_challenge 38 = .ok (.getfield 362, 3) := de_b4 tX10_challenge_38 (by decide +kernel)
def tX10_challenge_41 := Bt_3 (q := 41) tX10_challenge_38 rfl
theorem dX10_challenge_41 : decode cX10_challenge 41 = .ok (.ifCond .ne 14, 3) := de_9a tX10_challenge_41 (by decide +kernel)
def tX10_challenge_44 := Bt_3 (q := 44) tX10_challenge_41 rfl
theorem dX10_challenge_44 : decode cX10_challenge 44 = .ok (.aload_n 0, 1) := de_2a tX10_challenge_44
def tX10_challenge_45 := Bt_1 (q := 45) tX10_challenge_44 rfl
theorem dX10_challenge_45 : decode cX10_challenge 45 = .ok (.getfield 148, 3) := de_b4 tX10_challenge_45 (by decide +kernel)
def tX10_challenge_48 := Bt_3 (q := 48) tX10_challenge_45 rfl
theorem dX10_challenge_48 : decode cX10_challenge 48 = .ok (.aload_n 0, 1) := de_2a tX10_challenge_48
def tX10_challenge_49 := Bt_1 (q := 49) tX10_challenge_48 rfl
theorem dX10_challenge_49 : decode cX10_challenge 49 = .ok (.getfield 359, 3) := de_b4 tX10_challenge_49 (by decide +kernel)
def tX10_challenge_52 := Bt_3 (q := 52) tX10_challenge_49 rfl
theorem dX10_challenge_52 : decode cX10_challenge 52 = .ok (.if_icmp .le 10, 3) := de_a4 tX10_challenge_52 (by decide +kernel)
def tX10_challenge_55 := Bt_3 (q := 55) tX10_challenge_52 rfl
theorem dX10_challenge_55 : decode cX10_challenge 55 = .ok (.aload_n 0, 1) := de_2a tX10_challenge_55
def tX10_challenge_56 := Bt_1 (q := 56) tX10_challenge_55 rfl
theorem dX10_challenge_56 : decode cX10_challenge 56 = .ok (.bipush (-3), 2) := de_10 tX10_challenge_56 (by decide +kernel)
def tX10_challenge_58 := Bt_2 (q := 58) tX10_challenge_56 rfl
theorem dX10_challenge_58 : decode cX10_challenge 58 = .ok (.invokevirtual 151, 3) := de_b6 tX10_challenge_58 (by decide +kernel)
def tX10_challenge_61 := Bt_3 (q := 61) tX10_challenge_58 rfl
theorem dX10_challenge_61 : decode cX10_challenge 61 = .ok (.ireturn, 1) := de_ac tX10_challenge_61
def tX10_challenge_62 := Bt_1 (q := 62) tX10_challenge_61 rfl
theorem dX10_challenge_62 : decode cX10_challenge 62 = .ok (.aload_n 0, 1) := de_2a tX10_challenge_62
def tX10_challenge_63 := Bt_1 (q := 63) tX10_challenge_62 rfl
theorem dX10_challenge_63 : decode cX10_challenge 63 = .ok (.getfield 365, 3) := de_b4 tX10_challenge_63 (by decide +kernel)
def tX10_challenge_66 := Bt_3 (q := 66) tX10_challenge_63 rfl
theorem dX10_challenge_66 : decode cX10_challenge 66 = .ok (.bipush 20, 2) := de_10 tX10_challenge_66 (by decide +kernel)
def tX10_challenge_68 := Bt_2 (q := 68) tX10_challenge_66 rfl
theorem dX10_challenge_68 : decode cX10_challenge 68 = .ok (.if_icmp .ne 10, 3) := de_a0 tX10_challenge_68 (by decide +kernel)
def tX10_challenge_71 := Bt_3 (q := 71) tX10_challenge_68 rfl
theorem dX10_challenge_71 : decode cX10_challenge 71 = .ok (.aload_n 0, 1) := de_2a tX10_challenge_71
def tX10_challenge_72 := Bt_1 (q := 72) tX10_challenge_71 rfl
theorem dX10_challenge_72 : decode cX10_challenge 72 = .ok (.bipush (-6), 2) := de_10 tX10_challenge_72 (by decide +kernel)
def tX10_challenge_74 := Bt_2 (q := 74) tX10_challenge_72 rfl
theorem dX10_challenge_74 : decode cX10_challenge 74 = .ok (.invokevirtual 151, 3) := de_b6 tX10_challenge_74 (by decide +kernel)
def tX10_challenge_77 := Bt_3 (q := 77) tX10_challenge_74 rfl
theorem dX10_challenge_77 : decode cX10_challenge 77 = .ok (.ireturn, 1) := de_ac tX10_challenge_77
def tX10_challenge_78 := Bt_1 (q := 78) tX10_challenge_77 rfl
theorem dX10_challenge_78 : decode cX10_challenge 78 = .ok (.aload_n 0, 1) := de_2a tX10_challenge_78
def tX10_challenge_79 := Bt_1 (q := 79) tX10_challenge_78 rfl
theorem dX10_challenge_79 : decode cX10_challenge 79 = .ok (.getfield 112, 3) := de_b4 tX10_challenge_79 (by decide +kernel)
def tX10_challenge_82 := Bt_3 (q := 82) tX10_challenge_79 rfl
theorem dX10_challenge_82 : decode cX10_challenge 82 = .ok (.aload_n 0, 1) := de_2a tX10_challenge_82
def tX10_challenge_83 := Bt_1 (q := 83) tX10_challenge_82 rfl
theorem dX10_challenge_83 : decode cX10_challenge 83 = .ok (.getfield 365, 3) := de_b4 tX10_challenge_83 (by decide +kernel)
def tX10_challenge_86 := Bt_3 (q := 86) tX10_challenge_83 rfl
theorem dX10_challenge_86 : decode cX10_challenge 86 = .ok (.iload_n 1, 1) := de_1b tX10_challenge_86
def tX10_challenge_87 := Bt_1 (q := 87) tX10_challenge_86 rfl
theorem dX10_challenge_87 : decode cX10_challenge 87 = .ok (.iastore, 1) := de_4f tX10_challenge_87
def tX10_challenge_88 := Bt_1 (q := 88) tX10_challenge_87 rfl
theorem dX10_challenge_88 : decode cX10_challenge 88 = .ok (.aload_n 0, 1) := de_2a tX10_challenge_88
def tX10_challenge_89 := Bt_1 (q := 89) tX10_challenge_88 rfl
theorem dX10_challenge_89 : decode cX10_challenge 89 = .ok (.getfield 115, 3) := de_b4 tX10_challenge_89 (by decide +kernel)
def tX10_challenge_92 := Bt_3 (q := 92) tX10_challenge_89 rfl
theorem dX10_challenge_92 : decode cX10_challenge 92 = .ok (.aload_n 0, 1) := de_2a tX10_challenge_92
def tX10_challenge_93 := Bt_1 (q := 93) tX10_challenge_92 rfl
theorem dX10_challenge_93 : decode cX10_challenge 93 = .ok (.getfield 365, 3) := de_b4 tX10_challenge_93 (by decide +kernel)
def tX10_challenge_96 := Bt_3 (q := 96) tX10_challenge_93 rfl
theorem dX10_challenge_96 : decode cX10_challenge 96 = .ok (.iload_n 2, 1) := de_1c tX10_challenge_96
def tX10_challenge_97 := Bt_1 (q := 97) tX10_challenge_96 rfl
theorem dX10_challenge_97 : decode cX10_challenge 97 = .ok (.iastore, 1) := de_4f tX10_challenge_97
def tX10_challenge_98 := Bt_1 (q := 98) tX10_challenge_97 rfl
theorem dX10_challenge_98 : decode cX10_challenge 98 = .ok (.aload_n 0, 1) := de_2a tX10_challenge_98
def tX10_challenge_99 := Bt_1 (q := 99) tX10_challenge_98 rfl
theorem dX10_challenge_99 : decode cX10_challenge 99 = .ok (.getfield 118, 3) := de_b4 tX10_challenge_99 (by decide +kernel)
def tX10_challenge_102 := Bt_3 (q := 102) tX10_challenge_99 rfl
theorem dX10_challenge_102 : decode cX10_challenge 102 = .ok (.aload_n 0, 1) := de_2a tX10_challenge_102
def tX10_challenge_103 := Bt_1 (q := 103) tX10_challenge_102 rfl
theorem dX10_challenge_103 : decode cX10_challenge 103 = .ok (.getfield 365, 3) := de_b4 tX10_challenge_103 (by decide +kernel)
def tX10_challenge_106 := Bt_3 (q := 106) tX10_challenge_103 rfl
theorem dX10_challenge_106 : decode cX10_challenge 106 = .ok (.iconst 1, 1) := de_04 tX10_challenge_106
def tX10_challenge_107 := Bt_1 (q := 107) tX10_challenge_106 rfl
theorem dX10_challenge_107 : decode cX10_challenge 107 = .ok (.bastore, 1) := de_54 tX10_challenge_107
def tX10_challenge_108 := Bt_1 (q := 108) tX10_challenge_107 rfl
theorem dX10_challenge_108 : decode cX10_challenge 108 = .ok (.aload_n 0, 1) := de_2a tX10_challenge_108
def tX10_challenge_109 := Bt_1 (q := 109) tX10_challenge_108 rfl
theorem dX10_challenge_109 : decode cX10_challenge 109 = .ok (.dup, 1) := de_59 tX10_challenge_109
def tX10_challenge_110 := Bt_1 (q := 110) tX10_challenge_109 rfl
theorem dX10_challenge_110 : decode cX10_challenge 110 = .ok (.getfield 365, 3) := de_b4 tX10_challenge_110 (by decide +kernel)
def tX10_challenge_113 := Bt_3 (q := 113) tX10_challenge_110 rfl
theorem dX10_challenge_113 : decode cX10_challenge 113 = .ok (.iconst 1, 1) := de_04 tX10_challenge_113
def tX10_challenge_114 := Bt_1 (q := 114) tX10_challenge_113 rfl
theorem dX10_challenge_114 : decode cX10_challenge 114 = .ok (.iadd, 1) := de_60 tX10_challenge_114
def tX10_challenge_115 := Bt_1 (q := 115) tX10_challenge_114 rfl
theorem dX10_challenge_115 : decode cX10_challenge 115 = .ok (.putfield 365, 3) := de_b5 tX10_challenge_115 (by decide +kernel)
def tX10_challenge_118 := Bt_3 (q := 118) tX10_challenge_115 rfl
theorem dX10_challenge_118 : decode cX10_challenge 118 = .ok (.aload_n 0, 1) := de_2a tX10_challenge_118
def tX10_challenge_119 := Bt_1 (q := 119) tX10_challenge_118 rfl
theorem dX10_challenge_119 : decode cX10_challenge 119 = .ok (.getfield 365, 3) := de_b4 tX10_challenge_119 (by decide +kernel)
def tX10_challenge_122 := Bt_3 (q := 122) tX10_challenge_119 rfl
theorem dX10_challenge_122 : decode cX10_challenge 122 = .ok (.iconst 1, 1) := de_04 tX10_challenge_122
def tX10_challenge_123 := Bt_1 (q := 123) tX10_challenge_122 rfl
theorem dX10_challenge_123 : decode cX10_challenge 123 = .ok (.isub, 1) := de_64 tX10_challenge_123
def tX10_challenge_124 := Bt_1 (q := 124) tX10_challenge_123 rfl
theorem dX10_challenge_124 : decode cX10_challenge 124 = .ok (.ireturn, 1) := de_ac tX10_challenge_124
def tX10_undo_0 := Bt_0 cX10_undo
theorem dX10_undo_0 : decode cX10_undo 0 = .ok (.aload_n 0, 1) := de_2a tX10_undo_0
def tX10_undo_1 := Bt_1 (q := 1) tX10_undo_0 rfl
theorem dX10_undo_1 : decode cX10_undo 1 = .ok (.iconst 0, 1) := de_03 tX10_undo_1
def tX10_undo_2 := Bt_1 (q := 2) tX10_undo_1 rfl
theorem dX10_undo_2 : decode cX10_undo 2 = .ok (.putfield 356, 3) := de_b5 tX10_undo_2 (by decide +kernel)
def tX10_undo_5 := Bt_3 (q := 5) tX10_undo_2 rfl
theorem dX10_undo_5 : decode cX10_undo 5 = .ok (.iconst 0, 1) := de_03 tX10_undo_5
def tX10_undo_6 := Bt_1 (q := 6) tX10_undo_5 rfl
theorem dX10_undo_6 : decode cX10_undo 6 = .ok (.istore_n 3, 1) := de_3e tX10_undo_6
def tX10_undo_7 := Bt_1 (q := 7) tX10_undo_6 rfl
theorem dX10_undo_7 : decode cX10_undo 7 = .ok (.iload_n 3, 1) := de_1d tX10_undo_7
def tX10_undo_8 := Bt_1 (q := 8) tX10_undo_7 rfl
theorem dX10_undo_8 : decode cX10_undo 8 = .ok (.aload_n 0, 1) := de_2a tX10_undo_8
def tX10_undo_9 := Bt_1 (q := 9) tX10_undo_8 rfl
theorem dX10_undo_9 : decode cX10_undo 9 = .ok (.getfield 365, 3) := de_b4 tX10_undo_9 (by decide +kernel)
def tX10_undo_12 := Bt_3 (q := 12) tX10_undo_9 rfl
theorem dX10_undo_12 : decode cX10_undo 12 = .ok (.if_icmp .ge 16, 3) := de_a2 tX10_undo_12 (by decide +kernel)
def tX10_undo_15 := Bt_3 (q := 15) tX10_undo_12 rfl
theorem dX10_undo_15 : decode cX10_undo 15 = .ok (.aload_n 0, 1) := de_2a tX10_undo_15
def tX10_undo_16 := Bt_1 (q := 16) tX10_undo_15 rfl
theorem dX10_undo_16 : decode cX10_undo 16 = .ok (.getfield 118, 3) := de_b4 tX10_undo_16 (by decide +kernel)
def tX10_undo_19 := Bt_3 (q := 19) tX10_undo_16 rfl
theorem dX10_undo_19 : decode cX10_undo 19 = .ok (.iload_n 3, 1) := de_1d tX10_undo_19
def tX10_undo_20 := Bt_1 (q := 20) tX10_undo_19 rfl
theorem dX10_undo_20 : decode cX10_undo 20 = .ok (.iconst 0, 1) := de_03 tX10_undo_20
def tX10_undo_21 := Bt_1 (q := 21) tX10_undo_20 rfl
theorem dX10_undo_21 : decode cX10_undo 21 = .ok (.bastore, 1) := de_54 tX10_undo_21
def tX10_undo_22 := Bt_1 (q := 22) tX10_undo_21 rfl
theorem dX10_undo_22 : decode cX10_undo 22 = .ok (.iinc 3 1, 3) := de_84 tX10_undo_22 (by decide +kernel) (by decide +kernel)
def tX10_undo_25 := Bt_3 (q := 25) tX10_undo_22 rfl
theorem dX10_undo_25 : decode cX10_undo 25 = .ok (.goto (-18), 3) := de_a7 tX10_undo_25 (by decide +kernel)
def tX10_undo_28 := Bt_3 (q := 28) tX10_undo_25 rfl
theorem dX10_undo_28 : decode cX10_undo 28 = .ok (.iload_n 2, 1) := de_1c tX10_undo_28
def tX10_undo_29 := Bt_1 (q := 29) tX10_undo_28 rfl
theorem dX10_undo_29 : decode cX10_undo 29 = .ok (.ifCond .ne 16, 3) := de_9a tX10_undo_29 (by decide +kernel)
def tX10_undo_32 := Bt_3 (q := 32) tX10_undo_29 rfl
theorem dX10_undo_32 : decode cX10_undo 32 = .ok (.aload_n 0, 1) := de_2a tX10_undo_32
def tX10_undo_33 := Bt_1 (q := 33) tX10_undo_32 rfl
theorem dX10_undo_33 : decode cX10_undo 33 = .ok (.getfield 57, 3) := de_b4 tX10_undo_33 (by decide +kernel)
def tX10_undo_36 := Bt_3 (q := 36) tX10_undo_33 rfl
theorem dX10_undo_36 : decode cX10_undo 36 = .ok (.iconst 0, 1) := de_03 tX10_undo_36
def tX10_undo_37 := Bt_1 (q := 37) tX10_undo_36 rfl
theorem dX10_undo_37 : decode cX10_undo 37 = .ok (.bipush 113, 2) := de_10 tX10_undo_37 (by decide +kernel)
def tX10_undo_39 := Bt_2 (q := 39) tX10_undo_37 rfl
theorem dX10_undo_39 : decode cX10_undo 39 = .ok (.iastore, 1) := de_4f tX10_undo_39
def tX10_undo_40 := Bt_1 (q := 40) tX10_undo_39 rfl
theorem dX10_undo_40 : decode cX10_undo 40 = .ok (.aload_n 0, 1) := de_2a tX10_undo_40
def tX10_undo_41 := Bt_1 (q := 41) tX10_undo_40 rfl
theorem dX10_undo_41 : decode cX10_undo 41 = .ok (.iconst 1, 1) := de_04 tX10_undo_41
def tX10_undo_42 := Bt_1 (q := 42) tX10_undo_41 rfl
theorem dX10_undo_42 : decode cX10_undo 42 = .ok (.putfield 139, 3) := de_b5 tX10_undo_42 (by decide +kernel)
def tX10_undo_45 := Bt_3 (q := 45) tX10_undo_42 rfl
theorem dX10_undo_45 : decode cX10_undo 45 = .ok (.iconst 0, 1) := de_03 tX10_undo_45
def tX10_undo_46 := Bt_1 (q := 46) tX10_undo_45 rfl
theorem dX10_undo_46 : decode cX10_undo 46 = .ok (.istore_n 3, 1) := de_3e tX10_undo_46
def tX10_undo_47 := Bt_1 (q := 47) tX10_undo_46 rfl
theorem dX10_undo_47 : decode cX10_undo 47 = .ok (.iload_n 3, 1) := de_1d tX10_undo_47
def tX10_undo_48 := Bt_1 (q := 48) tX10_undo_47 rfl
theorem dX10_undo_48 : decode cX10_undo 48 = .ok (.bipush 8, 2) := de_10 tX10_undo_48 (by decide +kernel)
def tX10_undo_50 := Bt_2 (q := 50) tX10_undo_48 rfl
theorem dX10_undo_50 : decode cX10_undo 50 = .ok (.if_icmp .ge 91, 3) := de_a2 tX10_undo_50 (by decide +kernel)
def tX10_undo_53 := Bt_3 (q := 53) tX10_undo_50 rfl
theorem dX10_undo_53 : decode cX10_undo 53 = .ok (.iload_n 2, 1) := de_1c tX10_undo_53
def tX10_undo_54 := Bt_1 (q := 54) tX10_undo_53 rfl
theorem dX10_undo_54 : decode cX10_undo 54 = .ok (.ifCond .le 87, 3) := de_9e tX10_undo_54 (by decide +kernel)
def tX10_undo_57 := Bt_3 (q := 57) tX10_undo_54 rfl
theorem dX10_undo_57 : decode cX10_undo 57 = .ok (.bipush 8, 2) := de_10 tX10_undo_57 (by decide +kernel)
def tX10_undo_59 := Bt_2 (q := 59) tX10_undo_57 rfl
theorem dX10_undo_59 : decode cX10_undo 59 = .ok (.iload_n 1, 1) := de_1b tX10_undo_59
def tX10_undo_60 := Bt_1 (q := 60) tX10_undo_59 rfl
theorem dX10_undo_60 : decode cX10_undo 60 = .ok (.imul, 1) := de_68 tX10_undo_60
def tX10_undo_61 := Bt_1 (q := 61) tX10_undo_60 rfl
theorem dX10_undo_61 : decode cX10_undo 61 = .ok (.iload_n 3, 1) := de_1d tX10_undo_61
def tX10_undo_62 := Bt_1 (q := 62) tX10_undo_61 rfl
theorem dX10_undo_62 : decode cX10_undo 62 = .ok (.iadd, 1) := de_60 tX10_undo_62
def tX10_undo_63 := Bt_1 (q := 63) tX10_undo_62 rfl
theorem dX10_undo_63 : decode cX10_undo 63 = .ok (.istore 4, 2) := de_36 tX10_undo_63 (by decide +kernel)
def tX10_undo_65 := Bt_2 (q := 65) tX10_undo_63 rfl
theorem dX10_undo_65 : decode cX10_undo 65 = .ok (.iconst 0, 1) := de_03 tX10_undo_65
def tX10_undo_66 := Bt_1 (q := 66) tX10_undo_65 rfl
theorem dX10_undo_66 : decode cX10_undo 66 = .ok (.istore 5, 2) := de_36 tX10_undo_66 (by decide +kernel)
def tX10_undo_68 := Bt_2 (q := 68) tX10_undo_66 rfl
theorem dX10_undo_68 : decode cX10_undo 68 = .ok (.iload 5, 2) := de_15 tX10_undo_68 (by decide +kernel)
def tX10_undo_70 := Bt_2 (q := 70) tX10_undo_68 rfl
theorem dX10_undo_70 : decode cX10_undo 70 = .ok (.bipush 6, 2) := de_10 tX10_undo_70 (by decide +kernel)
def tX10_undo_72 := Bt_2 (q := 72) tX10_undo_70 rfl
theorem dX10_undo_72 : decode cX10_undo 72 = .ok (.if_icmp .ge 23, 3) := de_a2 tX10_undo_72 (by decide +kernel)
def tX10_undo_75 := Bt_3 (q := 75) tX10_undo_72 rfl
theorem dX10_undo_75 : decode cX10_undo 75 = .ok (.aload_n 0, 1) := de_2a tX10_undo_75
def tX10_undo_76 := Bt_1 (q := 76) tX10_undo_75 rfl
theorem dX10_undo_76 : decode cX10_undo 76 = .ok (.getfield 45, 3) := de_b4 tX10_undo_76 (by decide +kernel)
def tX10_undo_79 := Bt_3 (q := 79) tX10_undo_76 rfl
theorem dX10_undo_79 : decode cX10_undo 79 = .ok (.bipush 48, 2) := de_10 tX10_undo_79 (by decide +kernel)
def tX10_undo_81 := Bt_2 (q := 81) tX10_undo_79 rfl
theorem dX10_undo_81 : decode cX10_undo 81 = .ok (.iload 5, 2) := de_15 tX10_undo_81 (by decide +kernel)
def tX10_undo_83 := Bt_2 (q := 83) tX10_undo_81 rfl
theorem dX10_undo_83 : decode cX10_undo 83 = .ok (.imul, 1) := de_68 tX10_undo_83
def tX10_undo_84 := Bt_1 (q := 84) tX10_undo_83 rfl
theorem dX10_undo_84 : decode cX10_undo 84 = .ok (.iload 4, 2) := de_15 tX10_undo_84 (by decide +kernel)
def tX10_undo_86 := Bt_2 (q := 86) tX10_undo_84 rfl
theorem dX10_undo_86 : decode cX10_undo 86 = .ok (.iadd, 1) := de_60 tX10_undo_86
def tX10_undo_87 := Bt_1 (q := 87) tX10_undo_86 rfl
theorem dX10_undo_87 : decode cX10_undo 87 = .ok (.iconst (-1), 1) := de_02 tX10_undo_87
def tX10_undo_88 := Bt_1 (q := 88) tX10_undo_87 rfl
theorem dX10_undo_88 : decode cX10_undo 88 = .ok (.iastore, 1) := de_4f tX10_undo_88
def tX10_undo_89 := Bt_1 (q := 89) tX10_undo_88 rfl
theorem dX10_undo_89 : decode cX10_undo 89 = .ok (.iinc 5 1, 3) := de_84 tX10_undo_89 (by decide +kernel) (by decide +kernel)
def tX10_undo_92 := Bt_3 (q := 92) tX10_undo_89 rfl
theorem dX10_undo_92 : decode cX10_undo 92 = .ok (.goto (-24), 3) := de_a7 tX10_undo_92 (by decide +kernel)
def tX10_undo_95 := Bt_3 (q := 95) tX10_undo_92 rfl
theorem dX10_undo_95 : decode cX10_undo 95 = .ok (.iload_n 2, 1) := de_1c tX10_undo_95
def tX10_undo_96 := Bt_1 (q := 96) tX10_undo_95 rfl
theorem dX10_undo_96 : decode cX10_undo 96 = .ok (.iconst 2, 1) := de_05 tX10_undo_96
def tX10_undo_97 := Bt_1 (q := 97) tX10_undo_96 rfl
theorem dX10_undo_97 : decode cX10_undo 97 = .ok (.if_icmp .ne 38, 3) := de_a0 tX10_undo_97 (by decide +kernel)
def tX10_undo_100 := Bt_3 (q := 100) tX10_undo_97 rfl
theorem dX10_undo_100 : decode cX10_undo 100 = .ok (.aload_n 0, 1) := de_2a tX10_undo_100
def tX10_undo_101 := Bt_1 (q := 101) tX10_undo_100 rfl
theorem dX10_undo_101 : decode cX10_undo 101 = .ok (.getfield 36, 3) := de_b4 tX10_undo_101 (by decide +kernel)
def tX10_undo_104 := Bt_3 (q := 104) tX10_undo_101 rfl
theorem dX10_undo_104 : decode cX10_undo 104 = .ok (.iload 4, 2) := de_15 tX10_undo_104 (by decide +kernel)
def tX10_undo_106 := Bt_2 (q := 106) tX10_undo_104 rfl
theorem dX10_undo_106 : decode cX10_undo 106 = .ok (.iconst 0, 1) := de_03 tX10_undo_106
def tX10_undo_107 := Bt_1 (q := 107) tX10_undo_106 rfl
theorem dX10_undo_107 : decode cX10_undo 107 = .ok (.bastore, 1) := de_54 tX10_undo_107
def tX10_undo_108 := Bt_1 (q := 108) tX10_undo_107 rfl
theorem dX10_undo_108 : decode cX10_undo 108 = .ok (.aload_n 0, 1) := de_2a tX10_undo_108
def tX10_undo_109 := Bt_1 (q := 109) tX10_undo_108 rfl
theorem dX10_undo_109 : decode cX10_undo 109 = .ok (.getfield 39, 3) := de_b4 tX10_undo_109 (by decide +kernel)
def tX10_undo_112 := Bt_3 (q := 112) tX10_undo_109 rfl
theorem dX10_undo_112 : decode cX10_undo 112 = .ok (.iload 4, 2) := de_15 tX10_undo_112 (by decide +kernel)
def tX10_undo_114 := Bt_2 (q := 114) tX10_undo_112 rfl
theorem dX10_undo_114 : decode cX10_undo 114 = .ok (.aload_n 0, 1) := de_2a tX10_undo_114
def tX10_undo_115 := Bt_1 (q := 115) tX10_undo_114 rfl
theorem dX10_undo_115 : decode cX10_undo 115 = .ok (.iload 4, 2) := de_15 tX10_undo_115 (by decide +kernel)
def tX10_undo_117 := Bt_2 (q := 117) tX10_undo_115 rfl
theorem dX10_undo_117 : decode cX10_undo 117 = .ok (.invokevirtual 194, 3) := de_b6 tX10_undo_117 (by decide +kernel)
def tX10_undo_120 := Bt_3 (q := 120) tX10_undo_117 rfl
theorem dX10_undo_120 : decode cX10_undo 120 = .ok (.ifCond .eq 7, 3) := de_99 tX10_undo_120 (by decide +kernel)
def tX10_undo_123 := Bt_3 (q := 123) tX10_undo_120 rfl
theorem dX10_undo_123 : decode cX10_undo 123 = .ok (.iconst (-1), 1) := de_02 tX10_undo_123
def tX10_undo_124 := Bt_1 (q := 124) tX10_undo_123 rfl
theorem dX10_undo_124 : decode cX10_undo 124 = .ok (.goto 10, 3) := de_a7 tX10_undo_124 (by decide +kernel)
def tX10_undo_127 := Bt_3 (q := 127) tX10_undo_124 rfl
theorem dX10_undo_127 : decode cX10_undo 127 = .ok (.aload_n 0, 1) := de_2a tX10_undo_127
def tX10_undo_128 := Bt_1 (q := 128) tX10_undo_127 rfl
theorem dX10_undo_128 : decode cX10_undo 128 = .ok (.getfield 39, 3) := de_b4 tX10_undo_128 (by decide +kernel)
def tX10_undo_131 := Bt_3 (q := 131) tX10_undo_128 rfl
theorem dX10_undo_131 : decode cX10_undo 131 = .ok (.iload 4, 2) := de_15 tX10_undo_131 (by decide +kernel)
def tX10_undo_133 := Bt_2 (q := 133) tX10_undo_131 rfl
theorem dX10_undo_133 : decode cX10_undo 133 = .ok (.iaload, 1) := de_2e tX10_undo_133
def tX10_undo_134 := Bt_1 (q := 134) tX10_undo_133 rfl
theorem dX10_undo_134 : decode cX10_undo 134 = .ok (.iastore, 1) := de_4f tX10_undo_134
def tX10_undo_135 := Bt_1 (q := 135) tX10_undo_134 rfl
theorem dX10_undo_135 : decode cX10_undo 135 = .ok (.iinc 3 1, 3) := de_84 tX10_undo_135 (by decide +kernel) (by decide +kernel)
def tX10_undo_138 := Bt_3 (q := 138) tX10_undo_135 rfl
theorem dX10_undo_138 : decode cX10_undo 138 = .ok (.goto (-91), 3) := de_a7 tX10_undo_138 (by decide +kernel)
def tX10_undo_141 := Bt_3 (q := 141) tX10_undo_138 rfl
theorem dX10_undo_141 : decode cX10_undo 141 = .ok (.aload_n 0, 1) := de_2a tX10_undo_141
def tX10_undo_142 := Bt_1 (q := 142) tX10_undo_141 rfl
theorem dX10_undo_142 : decode cX10_undo 142 = .ok (.iconst 0, 1) := de_03 tX10_undo_142
def tX10_undo_143 := Bt_1 (q := 143) tX10_undo_142 rfl
theorem dX10_undo_143 : decode cX10_undo 143 = .ok (.putfield 156, 3) := de_b5 tX10_undo_143 (by decide +kernel)
def tX10_undo_146 := Bt_3 (q := 146) tX10_undo_143 rfl
theorem dX10_undo_146 : decode cX10_undo 146 = .ok (.return_, 1) := de_b1 tX10_undo_146
def tX10_judge_0 := Bt_0 cX10_judge
theorem dX10_judge_0 : decode cX10_judge 0 = .ok (.iload_n 1, 1) := de_1b tX10_judge_0
def tX10_judge_1 := Bt_1 (q := 1) tX10_judge_0 rfl
theorem dX10_judge_1 : decode cX10_judge 1 = .ok (.iconst 0, 1) := de_03 tX10_judge_1
def tX10_judge_2 := Bt_1 (q := 2) tX10_judge_1 rfl
theorem dX10_judge_2 : decode cX10_judge 2 = .ok (.aload_n 0, 1) := de_2a tX10_judge_2
def tX10_judge_3 := Bt_1 (q := 3) tX10_judge_2 rfl
theorem dX10_judge_3 : decode cX10_judge 3 = .ok (.getfield 365, 3) := de_b4 tX10_judge_3 (by decide +kernel)
def tX10_judge_6 := Bt_3 (q := 6) tX10_judge_3 rfl
theorem dX10_judge_6 : decode cX10_judge 6 = .ok (.iconst 1, 1) := de_04 tX10_judge_6
def tX10_judge_7 := Bt_1 (q := 7) tX10_judge_6 rfl
theorem dX10_judge_7 : decode cX10_judge 7 = .ok (.isub, 1) := de_64 tX10_judge_7
def tX10_judge_8 := Bt_1 (q := 8) tX10_judge_7 rfl
theorem dX10_judge_8 : decode cX10_judge 8 = .ok (.invokestatic 144, 3) := de_b8 tX10_judge_8 (by decide +kernel)
def tX10_judge_11 := Bt_3 (q := 11) tX10_judge_8 rfl
theorem dX10_judge_11 : decode cX10_judge 11 = .ok (.ifCond .ne 9, 3) := de_9a tX10_judge_11 (by decide +kernel)
def tX10_judge_14 := Bt_3 (q := 14) tX10_judge_11 rfl
theorem dX10_judge_14 : decode cX10_judge 14 = .ok (.aload_n 0, 1) := de_2a tX10_judge_14
def tX10_judge_15 := Bt_1 (q := 15) tX10_judge_14 rfl
theorem dX10_judge_15 : decode cX10_judge 15 = .ok (.iconst (-1), 1) := de_02 tX10_judge_15
def tX10_judge_16 := Bt_1 (q := 16) tX10_judge_15 rfl
theorem dX10_judge_16 : decode cX10_judge 16 = .ok (.invokevirtual 151, 3) := de_b6 tX10_judge_16 (by decide +kernel)
def tX10_judge_19 := Bt_3 (q := 19) tX10_judge_16 rfl
theorem dX10_judge_19 : decode cX10_judge 19 = .ok (.ireturn, 1) := de_ac tX10_judge_19
def tX10_judge_20 := Bt_1 (q := 20) tX10_judge_19 rfl
theorem dX10_judge_20 : decode cX10_judge 20 = .ok (.aload_n 0, 1) := de_2a tX10_judge_20
def tX10_judge_21 := Bt_1 (q := 21) tX10_judge_20 rfl
theorem dX10_judge_21 : decode cX10_judge 21 = .ok (.getfield 118, 3) := de_b4 tX10_judge_21 (by decide +kernel)
def tX10_judge_24 := Bt_3 (q := 24) tX10_judge_21 rfl
theorem dX10_judge_24 : decode cX10_judge 24 = .ok (.iload_n 1, 1) := de_1b tX10_judge_24
def tX10_judge_25 := Bt_1 (q := 25) tX10_judge_24 rfl
theorem dX10_judge_25 : decode cX10_judge 25 = .ok (.baload, 1) := de_33 tX10_judge_25
def tX10_judge_26 := Bt_1 (q := 26) tX10_judge_25 rfl
theorem dX10_judge_26 : decode cX10_judge 26 = .ok (.ifCond .ne 10, 3) := de_9a tX10_judge_26 (by decide +kernel)
def tX10_judge_29 := Bt_3 (q := 29) tX10_judge_26 rfl
theorem dX10_judge_29 : decode cX10_judge 29 = .ok (.aload_n 0, 1) := de_2a tX10_judge_29
def tX10_judge_30 := Bt_1 (q := 30) tX10_judge_29 rfl
theorem dX10_judge_30 : decode cX10_judge 30 = .ok (.bipush (-3), 2) := de_10 tX10_judge_30 (by decide +kernel)
def tX10_judge_32 := Bt_2 (q := 32) tX10_judge_30 rfl
theorem dX10_judge_32 : decode cX10_judge 32 = .ok (.invokevirtual 151, 3) := de_b6 tX10_judge_32 (by decide +kernel)
def tX10_judge_35 := Bt_3 (q := 35) tX10_judge_32 rfl
theorem dX10_judge_35 : decode cX10_judge 35 = .ok (.ireturn, 1) := de_ac tX10_judge_35
def tX10_judge_36 := Bt_1 (q := 36) tX10_judge_35 rfl
theorem dX10_judge_36 : decode cX10_judge 36 = .ok (.aload_n 0, 1) := de_2a tX10_judge_36
def tX10_judge_37 := Bt_1 (q := 37) tX10_judge_36 rfl
theorem dX10_judge_37 : decode cX10_judge 37 = .ok (.getfield 118, 3) := de_b4 tX10_judge_37 (by decide +kernel)
def tX10_judge_40 := Bt_3 (q := 40) tX10_judge_37 rfl
theorem dX10_judge_40 : decode cX10_judge 40 = .ok (.iload_n 1, 1) := de_1b tX10_judge_40
def tX10_judge_41 := Bt_1 (q := 41) tX10_judge_40 rfl
theorem dX10_judge_41 : decode cX10_judge 41 = .ok (.iconst 0, 1) := de_03 tX10_judge_41
def tX10_judge_42 := Bt_1 (q := 42) tX10_judge_41 rfl
theorem dX10_judge_42 : decode cX10_judge 42 = .ok (.bastore, 1) := de_54 tX10_judge_42
def tX10_judge_43 := Bt_1 (q := 43) tX10_judge_42 rfl
theorem dX10_judge_43 : decode cX10_judge 43 = .ok (.iload_n 2, 1) := de_1c tX10_judge_43
def tX10_judge_44 := Bt_1 (q := 44) tX10_judge_43 rfl
theorem dX10_judge_44 : decode cX10_judge 44 = .ok (.ifCond .eq 19, 3) := de_99 tX10_judge_44 (by decide +kernel)
def tX10_judge_47 := Bt_3 (q := 47) tX10_judge_44 rfl
theorem dX10_judge_47 : decode cX10_judge 47 = .ok (.aload_n 0, 1) := de_2a tX10_judge_47
def tX10_judge_48 := Bt_1 (q := 48) tX10_judge_47 rfl
theorem dX10_judge_48 : decode cX10_judge 48 = .ok (.aload_n 0, 1) := de_2a tX10_judge_48
def tX10_judge_49 := Bt_1 (q := 49) tX10_judge_48 rfl
theorem dX10_judge_49 : decode cX10_judge 49 = .ok (.getfield 112, 3) := de_b4 tX10_judge_49 (by decide +kernel)
def tX10_judge_52 := Bt_3 (q := 52) tX10_judge_49 rfl
theorem dX10_judge_52 : decode cX10_judge 52 = .ok (.iload_n 1, 1) := de_1b tX10_judge_52
def tX10_judge_53 := Bt_1 (q := 53) tX10_judge_52 rfl
theorem dX10_judge_53 : decode cX10_judge 53 = .ok (.iaload, 1) := de_2e tX10_judge_53
def tX10_judge_54 := Bt_1 (q := 54) tX10_judge_53 rfl
theorem dX10_judge_54 : decode cX10_judge 54 = .ok (.aload_n 0, 1) := de_2a tX10_judge_54
def tX10_judge_55 := Bt_1 (q := 55) tX10_judge_54 rfl
theorem dX10_judge_55 : decode cX10_judge 55 = .ok (.getfield 115, 3) := de_b4 tX10_judge_55 (by decide +kernel)
def tX10_judge_58 := Bt_3 (q := 58) tX10_judge_55 rfl
theorem dX10_judge_58 : decode cX10_judge 58 = .ok (.iload_n 1, 1) := de_1b tX10_judge_58
def tX10_judge_59 := Bt_1 (q := 59) tX10_judge_58 rfl
theorem dX10_judge_59 : decode cX10_judge 59 = .ok (.iaload, 1) := de_2e tX10_judge_59
def tX10_judge_60 := Bt_1 (q := 60) tX10_judge_59 rfl
theorem dX10_judge_60 : decode cX10_judge 60 = .ok (.invokevirtual 368, 3) := de_b6 tX10_judge_60 (by decide +kernel)
def tX10_judge_63 := Bt_3 (q := 63) tX10_judge_60 rfl
theorem dX10_judge_63 : decode cX10_judge 63 = .ok (.iconst 1, 1) := de_04 tX10_judge_63
def tX10_judge_64 := Bt_1 (q := 64) tX10_judge_63 rfl
theorem dX10_judge_64 : decode cX10_judge 64 = .ok (.ireturn, 1) := de_ac tX10_judge_64
def tX10_holding_0 := Bt_0 cX10_holding
theorem dX10_holding_0 : decode cX10_holding 0 = .ok (.iconst 0, 1) := de_03 tX10_holding_0
def tX10_holding_1 := Bt_1 (q := 1) tX10_holding_0 rfl
theorem dX10_holding_1 : decode cX10_holding 1 = .ok (.istore_n 1, 1) := de_3c tX10_holding_1
def tX10_holding_2 := Bt_1 (q := 2) tX10_holding_1 rfl
theorem dX10_holding_2 : decode cX10_holding 2 = .ok (.iconst 0, 1) := de_03 tX10_holding_2
def tX10_holding_3 := Bt_1 (q := 3) tX10_holding_2 rfl
theorem dX10_holding_3 : decode cX10_holding 3 = .ok (.istore_n 2, 1) := de_3d tX10_holding_3
def tX10_holding_4 := Bt_1 (q := 4) tX10_holding_3 rfl
theorem dX10_holding_4 : decode cX10_holding 4 = .ok (.iload_n 2, 1) := de_1c tX10_holding_4
def tX10_holding_5 := Bt_1 (q := 5) tX10_holding_4 rfl
theorem dX10_holding_5 : decode cX10_holding 5 = .ok (.aload_n 0, 1) := de_2a tX10_holding_5
def tX10_holding_6 := Bt_1 (q := 6) tX10_holding_5 rfl
theorem dX10_holding_6 : decode cX10_holding 6 = .ok (.getfield 365, 3) := de_b4 tX10_holding_6 (by decide +kernel)
def tX10_holding_9 := Bt_3 (q := 9) tX10_holding_6 rfl
theorem dX10_holding_9 : decode cX10_holding 9 = .ok (.if_icmp .ge 26, 3) := de_a2 tX10_holding_9 (by decide +kernel)
def tX10_holding_12 := Bt_3 (q := 12) tX10_holding_9 rfl
theorem dX10_holding_12 : decode cX10_holding 12 = .ok (.iload_n 1, 1) := de_1b tX10_holding_12
def tX10_holding_13 := Bt_1 (q := 13) tX10_holding_12 rfl
theorem dX10_holding_13 : decode cX10_holding 13 = .ok (.aload_n 0, 1) := de_2a tX10_holding_13
def tX10_holding_14 := Bt_1 (q := 14) tX10_holding_13 rfl
theorem dX10_holding_14 : decode cX10_holding 14 = .ok (.getfield 118, 3) := de_b4 tX10_holding_14 (by decide +kernel)
def tX10_holding_17 := Bt_3 (q := 17) tX10_holding_14 rfl
theorem dX10_holding_17 : decode cX10_holding 17 = .ok (.iload_n 2, 1) := de_1c tX10_holding_17
def tX10_holding_18 := Bt_1 (q := 18) tX10_holding_17 rfl
theorem dX10_holding_18 : decode cX10_holding 18 = .ok (.baload, 1) := de_33 tX10_holding_18
def tX10_holding_19 := Bt_1 (q := 19) tX10_holding_18 rfl
theorem dX10_holding_19 : decode cX10_holding 19 = .ok (.ifCond .eq 7, 3) := de_99 tX10_holding_19 (by decide +kernel)
def tX10_holding_22 := Bt_3 (q := 22) tX10_holding_19 rfl
theorem dX10_holding_22 : decode cX10_holding 22 = .ok (.iconst 1, 1) := de_04 tX10_holding_22
def tX10_holding_23 := Bt_1 (q := 23) tX10_holding_22 rfl
theorem dX10_holding_23 : decode cX10_holding 23 = .ok (.goto 4, 3) := de_a7 tX10_holding_23 (by decide +kernel)
def tX10_holding_26 := Bt_3 (q := 26) tX10_holding_23 rfl
theorem dX10_holding_26 : decode cX10_holding 26 = .ok (.iconst 0, 1) := de_03 tX10_holding_26
def tX10_holding_27 := Bt_1 (q := 27) tX10_holding_26 rfl
theorem dX10_holding_27 : decode cX10_holding 27 = .ok (.iadd, 1) := de_60 tX10_holding_27
def tX10_holding_28 := Bt_1 (q := 28) tX10_holding_27 rfl
theorem dX10_holding_28 : decode cX10_holding 28 = .ok (.istore_n 1, 1) := de_3c tX10_holding_28
def tX10_holding_29 := Bt_1 (q := 29) tX10_holding_28 rfl
theorem dX10_holding_29 : decode cX10_holding 29 = .ok (.iinc 2 1, 3) := de_84 tX10_holding_29 (by decide +kernel) (by decide +kernel)
def tX10_holding_32 := Bt_3 (q := 32) tX10_holding_29 rfl
theorem dX10_holding_32 : decode cX10_holding 32 = .ok (.goto (-28), 3) := de_a7 tX10_holding_32 (by decide +kernel)
def tX10_holding_35 := Bt_3 (q := 35) tX10_holding_32 rfl
theorem dX10_holding_35 : decode cX10_holding 35 = .ok (.iload_n 1, 1) := de_1b tX10_holding_35
def tX10_holding_36 := Bt_1 (q := 36) tX10_holding_35 rfl
theorem dX10_holding_36 : decode cX10_holding 36 = .ok (.ireturn, 1) := de_ac tX10_holding_36
def tX10_sign_0 := Bt_0 cX10_sign
theorem dX10_sign_0 : decode cX10_sign 0 = .ok (.aload_n 0, 1) := de_2a tX10_sign_0
def tX10_sign_1 := Bt_1 (q := 1) tX10_sign_0 rfl
theorem dX10_sign_1 : decode cX10_sign 1 = .ok (.getfield 356, 3) := de_b4 tX10_sign_1 (by decide +kernel)
def tX10_sign_4 := Bt_3 (q := 4) tX10_sign_1 rfl
theorem dX10_sign_4 : decode cX10_sign 4 = .ok (.ifCond .eq 28, 3) := de_99 tX10_sign_4 (by decide +kernel)
def tX10_sign_7 := Bt_3 (q := 7) tX10_sign_4 rfl
theorem dX10_sign_7 : decode cX10_sign 7 = .ok (.aload_n 0, 1) := de_2a tX10_sign_7
def tX10_sign_8 := Bt_1 (q := 8) tX10_sign_7 rfl
theorem dX10_sign_8 : decode cX10_sign 8 = .ok (.getfield 362, 3) := de_b4 tX10_sign_8 (by decide +kernel)
def tX10_sign_11 := Bt_3 (q := 11) tX10_sign_8 rfl
theorem dX10_sign_11 : decode cX10_sign 11 = .ok (.ifCond .ne 21, 3) := de_9a tX10_sign_11 (by decide +kernel)
def tX10_sign_14 := Bt_3 (q := 14) tX10_sign_11 rfl
theorem dX10_sign_14 : decode cX10_sign 14 = .ok (.aload_n 0, 1) := de_2a tX10_sign_14
def tX10_sign_15 := Bt_1 (q := 15) tX10_sign_14 rfl
theorem dX10_sign_15 : decode cX10_sign 15 = .ok (.getfield 148, 3) := de_b4 tX10_sign_15 (by decide +kernel)
def tX10_sign_18 := Bt_3 (q := 18) tX10_sign_15 rfl
theorem dX10_sign_18 : decode cX10_sign 18 = .ok (.aload_n 0, 1) := de_2a tX10_sign_18
def tX10_sign_19 := Bt_1 (q := 19) tX10_sign_18 rfl
theorem dX10_sign_19 : decode cX10_sign 19 = .ok (.getfield 359, 3) := de_b4 tX10_sign_19 (by decide +kernel)
def tX10_sign_22 := Bt_3 (q := 22) tX10_sign_19 rfl
theorem dX10_sign_22 : decode cX10_sign 22 = .ok (.if_icmp .le 10, 3) := de_a4 tX10_sign_22 (by decide +kernel)
def tX10_sign_25 := Bt_3 (q := 25) tX10_sign_22 rfl
theorem dX10_sign_25 : decode cX10_sign 25 = .ok (.aload_n 0, 1) := de_2a tX10_sign_25
def tX10_sign_26 := Bt_1 (q := 26) tX10_sign_25 rfl
theorem dX10_sign_26 : decode cX10_sign 26 = .ok (.invokevirtual 371, 3) := de_b6 tX10_sign_26 (by decide +kernel)
def tX10_sign_29 := Bt_3 (q := 29) tX10_sign_26 rfl
theorem dX10_sign_29 : decode cX10_sign 29 = .ok (.ifCond .le 10, 3) := de_9e tX10_sign_29 (by decide +kernel)
def tX10_sign_32 := Bt_3 (q := 32) tX10_sign_29 rfl
theorem dX10_sign_32 : decode cX10_sign 32 = .ok (.aload_n 0, 1) := de_2a tX10_sign_32
def tX10_sign_33 := Bt_1 (q := 33) tX10_sign_32 rfl
theorem dX10_sign_33 : decode cX10_sign 33 = .ok (.bipush (-3), 2) := de_10 tX10_sign_33 (by decide +kernel)
def tX10_sign_35 := Bt_2 (q := 35) tX10_sign_33 rfl
theorem dX10_sign_35 : decode cX10_sign 35 = .ok (.invokevirtual 151, 3) := de_b6 tX10_sign_35 (by decide +kernel)
def tX10_sign_38 := Bt_3 (q := 38) tX10_sign_35 rfl
theorem dX10_sign_38 : decode cX10_sign 38 = .ok (.ireturn, 1) := de_ac tX10_sign_38
def tX10_sign_39 := Bt_1 (q := 39) tX10_sign_38 rfl
theorem dX10_sign_39 : decode cX10_sign 39 = .ok (.aload_n 0, 1) := de_2a tX10_sign_39
def tX10_sign_40 := Bt_1 (q := 40) tX10_sign_39 rfl
theorem dX10_sign_40 : decode cX10_sign 40 = .ok (.iconst 1, 1) := de_04 tX10_sign_40
def tX10_sign_41 := Bt_1 (q := 41) tX10_sign_40 rfl
theorem dX10_sign_41 : decode cX10_sign 41 = .ok (.putfield 362, 3) := de_b5 tX10_sign_41 (by decide +kernel)
def tX10_sign_44 := Bt_3 (q := 44) tX10_sign_41 rfl
theorem dX10_sign_44 : decode cX10_sign 44 = .ok (.iconst 1, 1) := de_04 tX10_sign_44
def tX10_sign_45 := Bt_1 (q := 45) tX10_sign_44 rfl
theorem dX10_sign_45 : decode cX10_sign 45 = .ok (.ireturn, 1) := de_ac tX10_sign_45
def tX10_change_0 := Bt_0 cX10_change
theorem dX10_change_0 : decode cX10_change 0 = .ok (.aload_n 0, 1) := de_2a tX10_change_0
def tX10_change_1 := Bt_1 (q := 1) tX10_change_0 rfl
theorem dX10_change_1 : decode cX10_change 1 = .ok (.iload_n 1, 1) := de_1b tX10_change_1
def tX10_change_2 := Bt_1 (q := 2) tX10_change_1 rfl
theorem dX10_change_2 : decode cX10_change 2 = .ok (.invokevirtual 170, 3) := de_b6 tX10_change_2 (by decide +kernel)
def tX10_change_5 := Bt_3 (q := 5) tX10_change_2 rfl
theorem dX10_change_5 : decode cX10_change 5 = .ok (.ifCond .ne 9, 3) := de_9a tX10_change_5 (by decide +kernel)
def tX10_change_8 := Bt_3 (q := 8) tX10_change_5 rfl
theorem dX10_change_8 : decode cX10_change 8 = .ok (.aload_n 0, 1) := de_2a tX10_change_8
def tX10_change_9 := Bt_1 (q := 9) tX10_change_8 rfl
theorem dX10_change_9 : decode cX10_change 9 = .ok (.iconst (-1), 1) := de_02 tX10_change_9
def tX10_change_10 := Bt_1 (q := 10) tX10_change_9 rfl
theorem dX10_change_10 : decode cX10_change 10 = .ok (.invokevirtual 151, 3) := de_b6 tX10_change_10 (by decide +kernel)
def tX10_change_13 := Bt_3 (q := 13) tX10_change_10 rfl
theorem dX10_change_13 : decode cX10_change 13 = .ok (.ireturn, 1) := de_ac tX10_change_13
def tX10_change_14 := Bt_1 (q := 14) tX10_change_13 rfl
theorem dX10_change_14 : decode cX10_change 14 = .ok (.aload_n 0, 1) := de_2a tX10_change_14
def tX10_change_15 := Bt_1 (q := 15) tX10_change_14 rfl
theorem dX10_change_15 : decode cX10_change 15 = .ok (.getfield 362, 3) := de_b4 tX10_change_15 (by decide +kernel)
def tX10_change_18 := Bt_3 (q := 18) tX10_change_15 rfl
theorem dX10_change_18 : decode cX10_change 18 = .ok (.ifCond .eq 12, 3) := de_99 tX10_change_18 (by decide +kernel)
def tX10_change_21 := Bt_3 (q := 21) tX10_change_18 rfl
theorem dX10_change_21 : decode cX10_change 21 = .ok (.aload_n 0, 1) := de_2a tX10_change_21
def tX10_change_22 := Bt_1 (q := 22) tX10_change_21 rfl
theorem dX10_change_22 : decode cX10_change 22 = .ok (.getfield 103, 3) := de_b4 tX10_change_22 (by decide +kernel)
def tX10_change_25 := Bt_3 (q := 25) tX10_change_22 rfl
theorem dX10_change_25 : decode cX10_change 25 = .ok (.iload_n 1, 1) := de_1b tX10_change_25
def tX10_change_26 := Bt_1 (q := 26) tX10_change_25 rfl
theorem dX10_change_26 : decode cX10_change 26 = .ok (.iaload, 1) := de_2e tX10_change_26
def tX10_change_27 := Bt_1 (q := 27) tX10_change_26 rfl
theorem dX10_change_27 : decode cX10_change 27 = .ok (.ifCond .ge 10, 3) := de_9c tX10_change_27 (by decide +kernel)
def tX10_change_30 := Bt_3 (q := 30) tX10_change_27 rfl
theorem dX10_change_30 : decode cX10_change 30 = .ok (.aload_n 0, 1) := de_2a tX10_change_30
def tX10_change_31 := Bt_1 (q := 31) tX10_change_30 rfl
theorem dX10_change_31 : decode cX10_change 31 = .ok (.bipush (-3), 2) := de_10 tX10_change_31 (by decide +kernel)
def tX10_change_33 := Bt_2 (q := 33) tX10_change_31 rfl
theorem dX10_change_33 : decode cX10_change 33 = .ok (.invokevirtual 151, 3) := de_b6 tX10_change_33 (by decide +kernel)
def tX10_change_36 := Bt_3 (q := 36) tX10_change_33 rfl
theorem dX10_change_36 : decode cX10_change 36 = .ok (.ireturn, 1) := de_ac tX10_change_36
def tX10_change_37 := Bt_1 (q := 37) tX10_change_36 rfl
theorem dX10_change_37 : decode cX10_change 37 = .ok (.iload_n 2, 1) := de_1c tX10_change_37
def tX10_change_38 := Bt_1 (q := 38) tX10_change_37 rfl
theorem dX10_change_38 : decode cX10_change 38 = .ok (.iconst 1, 1) := de_04 tX10_change_38
def tX10_change_39 := Bt_1 (q := 39) tX10_change_38 rfl
theorem dX10_change_39 : decode cX10_change 39 = .ok (.if_icmp .ge 10, 3) := de_a2 tX10_change_39 (by decide +kernel)
def tX10_change_42 := Bt_3 (q := 42) tX10_change_39 rfl
theorem dX10_change_42 : decode cX10_change 42 = .ok (.aload_n 0, 1) := de_2a tX10_change_42
def tX10_change_43 := Bt_1 (q := 43) tX10_change_42 rfl
theorem dX10_change_43 : decode cX10_change 43 = .ok (.bipush (-4), 2) := de_10 tX10_change_43 (by decide +kernel)
def tX10_change_45 := Bt_2 (q := 45) tX10_change_43 rfl
theorem dX10_change_45 : decode cX10_change 45 = .ok (.invokevirtual 151, 3) := de_b6 tX10_change_45 (by decide +kernel)
def tX10_change_48 := Bt_3 (q := 48) tX10_change_45 rfl
theorem dX10_change_48 : decode cX10_change 48 = .ok (.ireturn, 1) := de_ac tX10_change_48
def tX10_change_49 := Bt_1 (q := 49) tX10_change_48 rfl
theorem dX10_change_49 : decode cX10_change 49 = .ok (.iload_n 2, 1) := de_1c tX10_change_49
def tX10_change_50 := Bt_1 (q := 50) tX10_change_49 rfl
theorem dX10_change_50 : decode cX10_change 50 = .ok (.ldc 155, 2) := de_12 tX10_change_50 (by decide +kernel)
def tX10_change_52 := Bt_2 (q := 52) tX10_change_50 rfl
theorem dX10_change_52 : decode cX10_change 52 = .ok (.if_icmp .le 10, 3) := de_a4 tX10_change_52 (by decide +kernel)
def tX10_change_55 := Bt_3 (q := 55) tX10_change_52 rfl
theorem dX10_change_55 : decode cX10_change 55 = .ok (.aload_n 0, 1) := de_2a tX10_change_55
def tX10_change_56 := Bt_1 (q := 56) tX10_change_55 rfl
theorem dX10_change_56 : decode cX10_change 56 = .ok (.bipush (-6), 2) := de_10 tX10_change_56 (by decide +kernel)
def tX10_change_58 := Bt_2 (q := 58) tX10_change_56 rfl
theorem dX10_change_58 : decode cX10_change 58 = .ok (.invokevirtual 151, 3) := de_b6 tX10_change_58 (by decide +kernel)
def tX10_change_61 := Bt_3 (q := 61) tX10_change_58 rfl
theorem dX10_change_61 : decode cX10_change 61 = .ok (.ireturn, 1) := de_ac tX10_change_61
def tX10_change_62 := Bt_1 (q := 62) tX10_change_61 rfl
theorem dX10_change_62 : decode cX10_change 62 = .ok (.ldc2_w 187, 3) := de_14 tX10_change_62 (by decide +kernel)
def tX10_change_65 := Bt_3 (q := 65) tX10_change_62 rfl
theorem dX10_change_65 : decode cX10_change 65 = .ok (.aload_n 0, 1) := de_2a tX10_change_65
def tX10_change_66 := Bt_1 (q := 66) tX10_change_65 rfl
theorem dX10_change_66 : decode cX10_change 66 = .ok (.getfield 109, 3) := de_b4 tX10_change_66 (by decide +kernel)
def tX10_change_69 := Bt_3 (q := 69) tX10_change_66 rfl
theorem dX10_change_69 : decode cX10_change 69 = .ok (.iload_n 1, 1) := de_1b tX10_change_69
def tX10_change_70 := Bt_1 (q := 70) tX10_change_69 rfl
theorem dX10_change_70 : decode cX10_change 70 = .ok (.iaload, 1) := de_2e tX10_change_70
def tX10_change_71 := Bt_1 (q := 71) tX10_change_70 rfl
theorem dX10_change_71 : decode cX10_change 71 = .ok (.iload_n 2, 1) := de_1c tX10_change_71
def tX10_change_72 := Bt_1 (q := 72) tX10_change_71 rfl
theorem dX10_change_72 : decode cX10_change 72 = .ok (.iadd, 1) := de_60 tX10_change_72
def tX10_change_73 := Bt_1 (q := 73) tX10_change_72 rfl
theorem dX10_change_73 : decode cX10_change 73 = .ok (.i2l, 1) := de_85 tX10_change_73
def tX10_change_74 := Bt_1 (q := 74) tX10_change_73 rfl
theorem dX10_change_74 : decode cX10_change 74 = .ok (.lmul, 1) := de_69 tX10_change_74
def tX10_change_75 := Bt_1 (q := 75) tX10_change_74 rfl
theorem dX10_change_75 : decode cX10_change 75 = .ok (.aload_n 0, 1) := de_2a tX10_change_75
def tX10_change_76 := Bt_1 (q := 76) tX10_change_75 rfl
theorem dX10_change_76 : decode cX10_change 76 = .ok (.getfield 42, 3) := de_b4 tX10_change_76 (by decide +kernel)
def tX10_change_79 := Bt_3 (q := 79) tX10_change_76 rfl
theorem dX10_change_79 : decode cX10_change 79 = .ok (.iconst 3, 1) := de_06 tX10_change_79
def tX10_change_80 := Bt_1 (q := 80) tX10_change_79 rfl
theorem dX10_change_80 : decode cX10_change 80 = .ok (.iaload, 1) := de_2e tX10_change_80
def tX10_change_81 := Bt_1 (q := 81) tX10_change_80 rfl
theorem dX10_change_81 : decode cX10_change 81 = .ok (.i2l, 1) := de_85 tX10_change_81
def tX10_change_82 := Bt_1 (q := 82) tX10_change_81 rfl
theorem dX10_change_82 : decode cX10_change 82 = .ok (.aload_n 0, 1) := de_2a tX10_change_82
def tX10_change_83 := Bt_1 (q := 83) tX10_change_82 rfl
theorem dX10_change_83 : decode cX10_change 83 = .ok (.getfield 106, 3) := de_b4 tX10_change_83 (by decide +kernel)
def tX10_change_86 := Bt_3 (q := 86) tX10_change_83 rfl
theorem dX10_change_86 : decode cX10_change 86 = .ok (.iload_n 1, 1) := de_1b tX10_change_86
def tX10_change_87 := Bt_1 (q := 87) tX10_change_86 rfl
theorem dX10_change_87 : decode cX10_change 87 = .ok (.iaload, 1) := de_2e tX10_change_87
def tX10_change_88 := Bt_1 (q := 88) tX10_change_87 rfl
theorem dX10_change_88 : decode cX10_change 88 = .ok (.i2l, 1) := de_85 tX10_change_88
def tX10_change_89 := Bt_1 (q := 89) tX10_change_88 rfl
theorem dX10_change_89 : decode cX10_change 89 = .ok (.lmul, 1) := de_69 tX10_change_89
def tX10_change_90 := Bt_1 (q := 90) tX10_change_89 rfl
theorem dX10_change_90 : decode cX10_change 90 = .ok (.lcmp, 1) := de_94 tX10_change_90
def tX10_change_91 := Bt_1 (q := 91) tX10_change_90 rfl
theorem dX10_change_91 : decode cX10_change 91 = .ok (.ifCond .le 6, 3) := de_9e tX10_change_91 (by decide +kernel)
def tX10_change_94 := Bt_3 (q := 94) tX10_change_91 rfl
theorem dX10_change_94 : decode cX10_change 94 = .ok (.bipush (-9), 2) := de_10 tX10_change_94 (by decide +kernel)
def tX10_change_96 := Bt_2 (q := 96) tX10_change_94 rfl
theorem dX10_change_96 : decode cX10_change 96 = .ok (.ireturn, 1) := de_ac tX10_change_96
def tX10_change_97 := Bt_1 (q := 97) tX10_change_96 rfl
theorem dX10_change_97 : decode cX10_change 97 = .ok (.aload_n 0, 1) := de_2a tX10_change_97
def tX10_change_98 := Bt_1 (q := 98) tX10_change_97 rfl
theorem dX10_change_98 : decode cX10_change 98 = .ok (.getfield 109, 3) := de_b4 tX10_change_98 (by decide +kernel)
def tX10_change_101 := Bt_3 (q := 101) tX10_change_98 rfl
theorem dX10_change_101 : decode cX10_change 101 = .ok (.iload_n 1, 1) := de_1b tX10_change_101
def tX10_change_102 := Bt_1 (q := 102) tX10_change_101 rfl
theorem dX10_change_102 : decode cX10_change 102 = .ok (.dup2, 1) := de_5c tX10_change_102
def tX10_change_103 := Bt_1 (q := 103) tX10_change_102 rfl
theorem dX10_change_103 : decode cX10_change 103 = .ok (.iaload, 1) := de_2e tX10_change_103
def tX10_change_104 := Bt_1 (q := 104) tX10_change_103 rfl
theorem dX10_change_104 : decode cX10_change 104 = .ok (.iload_n 2, 1) := de_1c tX10_change_104
def tX10_change_105 := Bt_1 (q := 105) tX10_change_104 rfl
theorem dX10_change_105 : decode cX10_change 105 = .ok (.iadd, 1) := de_60 tX10_change_105
def tX10_change_106 := Bt_1 (q := 106) tX10_change_105 rfl
theorem dX10_change_106 : decode cX10_change 106 = .ok (.iastore, 1) := de_4f tX10_change_106
def tX10_change_107 := Bt_1 (q := 107) tX10_change_106 rfl
theorem dX10_change_107 : decode cX10_change 107 = .ok (.aload_n 0, 1) := de_2a tX10_change_107
def tX10_change_108 := Bt_1 (q := 108) tX10_change_107 rfl
theorem dX10_change_108 : decode cX10_change 108 = .ok (.getfield 109, 3) := de_b4 tX10_change_108 (by decide +kernel)
def tX10_change_111 := Bt_3 (q := 111) tX10_change_108 rfl
theorem dX10_change_111 : decode cX10_change 111 = .ok (.iload_n 1, 1) := de_1b tX10_change_111
def tX10_change_112 := Bt_1 (q := 112) tX10_change_111 rfl
theorem dX10_change_112 : decode cX10_change 112 = .ok (.iaload, 1) := de_2e tX10_change_112
def tX10_change_113 := Bt_1 (q := 113) tX10_change_112 rfl
theorem dX10_change_113 : decode cX10_change 113 = .ok (.ireturn, 1) := de_ac tX10_change_113
def tX10_apart_0 := Bt_0 cX10_apart
theorem dX10_apart_0 : decode cX10_apart 0 = .ok (.lload_n 0, 1) := de_1e tX10_apart_0
def tX10_apart_1 := Bt_1 (q := 1) tX10_apart_0 rfl
theorem dX10_apart_1 : decode cX10_apart 1 = .ok (.lload_n 2, 1) := de_20 tX10_apart_1
def tX10_apart_2 := Bt_1 (q := 2) tX10_apart_1 rfl
theorem dX10_apart_2 : decode cX10_apart 2 = .ok (.lcmp, 1) := de_94 tX10_apart_2
def tX10_apart_3 := Bt_1 (q := 3) tX10_apart_2 rfl
theorem dX10_apart_3 : decode cX10_apart 3 = .ok (.ifCond .le 9, 3) := de_9e tX10_apart_3 (by decide +kernel)
def tX10_apart_6 := Bt_3 (q := 6) tX10_apart_3 rfl
theorem dX10_apart_6 : decode cX10_apart 6 = .ok (.lload_n 0, 1) := de_1e tX10_apart_6
def tX10_apart_7 := Bt_1 (q := 7) tX10_apart_6 rfl
theorem dX10_apart_7 : decode cX10_apart 7 = .ok (.lload_n 2, 1) := de_20 tX10_apart_7
def tX10_apart_8 := Bt_1 (q := 8) tX10_apart_7 rfl
theorem dX10_apart_8 : decode cX10_apart 8 = .ok (.lsub, 1) := de_65 tX10_apart_8
def tX10_apart_9 := Bt_1 (q := 9) tX10_apart_8 rfl
theorem dX10_apart_9 : decode cX10_apart 9 = .ok (.goto 6, 3) := de_a7 tX10_apart_9 (by decide +kernel)
def tX10_apart_12 := Bt_3 (q := 12) tX10_apart_9 rfl
theorem dX10_apart_12 : decode cX10_apart 12 = .ok (.lload_n 2, 1) := de_20 tX10_apart_12
def tX10_apart_13 := Bt_1 (q := 13) tX10_apart_12 rfl
theorem dX10_apart_13 : decode cX10_apart 13 = .ok (.lload_n 0, 1) := de_1e tX10_apart_13
def tX10_apart_14 := Bt_1 (q := 14) tX10_apart_13 rfl
theorem dX10_apart_14 : decode cX10_apart 14 = .ok (.lsub, 1) := de_65 tX10_apart_14
def tX10_apart_15 := Bt_1 (q := 15) tX10_apart_14 rfl
theorem dX10_apart_15 : decode cX10_apart 15 = .ok (.lreturn, 1) := de_ad tX10_apart_15
def tX10_likenessBy_0 := Bt_0 cX10_likenessBy
theorem dX10_likenessBy_0 : decode cX10_likenessBy 0 = .ok (.iload_n 3, 1) := de_1d tX10_likenessBy_0
def tX10_likenessBy_1 := Bt_1 (q := 1) tX10_likenessBy_0 rfl
theorem dX10_likenessBy_1 : decode cX10_likenessBy 1 = .ok (.istore 4, 2) := de_36 tX10_likenessBy_1 (by decide +kernel)
def tX10_likenessBy_3 := Bt_2 (q := 3) tX10_likenessBy_1 rfl
theorem dX10_likenessBy_3 : decode cX10_likenessBy 3 = .ok (.iconst 0, 1) := de_03 tX10_likenessBy_3
def tX10_likenessBy_4 := Bt_1 (q := 4) tX10_likenessBy_3 rfl
theorem dX10_likenessBy_4 : decode cX10_likenessBy 4 = .ok (.istore 5, 2) := de_36 tX10_likenessBy_4 (by decide +kernel)
def tX10_likenessBy_6 := Bt_2 (q := 6) tX10_likenessBy_4 rfl
theorem dX10_likenessBy_6 : decode cX10_likenessBy 6 = .ok (.iload 5, 2) := de_15 tX10_likenessBy_6 (by decide +kernel)
def tX10_likenessBy_8 := Bt_2 (q := 8) tX10_likenessBy_6 rfl
theorem dX10_likenessBy_8 : decode cX10_likenessBy 8 = .ok (.iconst 4, 1) := de_07 tX10_likenessBy_8
def tX10_likenessBy_9 := Bt_1 (q := 9) tX10_likenessBy_8 rfl
theorem dX10_likenessBy_9 : decode cX10_likenessBy 9 = .ok (.if_icmp .ge 18, 3) := de_a2 tX10_likenessBy_9 (by decide +kernel)
def tX10_likenessBy_12 := Bt_3 (q := 12) tX10_likenessBy_9 rfl
theorem dX10_likenessBy_12 : decode cX10_likenessBy 12 = .ok (.aload_n 0, 1) := de_2a tX10_likenessBy_12
def tX10_likenessBy_13 := Bt_1 (q := 13) tX10_likenessBy_12 rfl
theorem dX10_likenessBy_13 : decode cX10_likenessBy 13 = .ok (.getfield 121, 3) := de_b4 tX10_likenessBy_13 (by decide +kernel)
def tX10_likenessBy_16 := Bt_3 (q := 16) tX10_likenessBy_13 rfl
theorem dX10_likenessBy_16 : decode cX10_likenessBy 16 = .ok (.iload 5, 2) := de_15 tX10_likenessBy_16 (by decide +kernel)
def tX10_likenessBy_18 := Bt_2 (q := 18) tX10_likenessBy_16 rfl
theorem dX10_likenessBy_18 : decode cX10_likenessBy 18 = .ok (.iload 5, 2) := de_15 tX10_likenessBy_18 (by decide +kernel)
def tX10_likenessBy_20 := Bt_2 (q := 20) tX10_likenessBy_18 rfl
theorem dX10_likenessBy_20 : decode cX10_likenessBy 20 = .ok (.iastore, 1) := de_4f tX10_likenessBy_20
def tX10_likenessBy_21 := Bt_1 (q := 21) tX10_likenessBy_20 rfl
theorem dX10_likenessBy_21 : decode cX10_likenessBy 21 = .ok (.iinc 5 1, 3) := de_84 tX10_likenessBy_21 (by decide +kernel) (by decide +kernel)
def tX10_likenessBy_24 := Bt_3 (q := 24) tX10_likenessBy_21 rfl
theorem dX10_likenessBy_24 : decode cX10_likenessBy 24 = .ok (.goto (-18), 3) := de_a7 tX10_likenessBy_24 (by decide +kernel)
def tX10_likenessBy_27 := Bt_3 (q := 27) tX10_likenessBy_24 rfl
theorem dX10_likenessBy_27 : decode cX10_likenessBy 27 = .ok (.iconst 0, 1) := de_03 tX10_likenessBy_27
def tX10_likenessBy_28 := Bt_1 (q := 28) tX10_likenessBy_27 rfl
theorem dX10_likenessBy_28 : decode cX10_likenessBy 28 = .ok (.istore 5, 2) := de_36 tX10_likenessBy_28 (by decide +kernel)
def tX10_likenessBy_30 := Bt_2 (q := 30) tX10_likenessBy_28 rfl
theorem dX10_likenessBy_30 : decode cX10_likenessBy 30 = .ok (.iload 5, 2) := de_15 tX10_likenessBy_30 (by decide +kernel)
def tX10_likenessBy_32 := Bt_2 (q := 32) tX10_likenessBy_30 rfl
theorem dX10_likenessBy_32 : decode cX10_likenessBy 32 = .ok (.iconst 4, 1) := de_07 tX10_likenessBy_32
def tX10_likenessBy_33 := Bt_1 (q := 33) tX10_likenessBy_32 rfl
theorem dX10_likenessBy_33 : decode cX10_likenessBy 33 = .ok (.if_icmp .ge 62, 3) := de_a2 tX10_likenessBy_33 (by decide +kernel)
def tX10_likenessBy_36 := Bt_3 (q := 36) tX10_likenessBy_33 rfl
theorem dX10_likenessBy_36 : decode cX10_likenessBy 36 = .ok (.iload 5, 2) := de_15 tX10_likenessBy_36 (by decide +kernel)
def tX10_likenessBy_38 := Bt_2 (q := 38) tX10_likenessBy_36 rfl
theorem dX10_likenessBy_38 : decode cX10_likenessBy 38 = .ok (.iload 4, 2) := de_15 tX10_likenessBy_38 (by decide +kernel)
def tX10_likenessBy_40 := Bt_2 (q := 40) tX10_likenessBy_38 rfl
theorem dX10_likenessBy_40 : decode cX10_likenessBy 40 = .ok (.iconst 4, 1) := de_07 tX10_likenessBy_40
def tX10_likenessBy_41 := Bt_1 (q := 41) tX10_likenessBy_40 rfl
theorem dX10_likenessBy_41 : decode cX10_likenessBy 41 = .ok (.iload 5, 2) := de_15 tX10_likenessBy_41 (by decide +kernel)
def tX10_likenessBy_43 := Bt_2 (q := 43) tX10_likenessBy_41 rfl
theorem dX10_likenessBy_43 : decode cX10_likenessBy 43 = .ok (.isub, 1) := de_64 tX10_likenessBy_43
def tX10_likenessBy_44 := Bt_1 (q := 44) tX10_likenessBy_43 rfl
theorem dX10_likenessBy_44 : decode cX10_likenessBy 44 = .ok (.irem, 1) := de_70 tX10_likenessBy_44
def tX10_likenessBy_45 := Bt_1 (q := 45) tX10_likenessBy_44 rfl
theorem dX10_likenessBy_45 : decode cX10_likenessBy 45 = .ok (.iadd, 1) := de_60 tX10_likenessBy_45
def tX10_likenessBy_46 := Bt_1 (q := 46) tX10_likenessBy_45 rfl
theorem dX10_likenessBy_46 : decode cX10_likenessBy 46 = .ok (.istore 6, 2) := de_36 tX10_likenessBy_46 (by decide +kernel)
def tX10_likenessBy_48 := Bt_2 (q := 48) tX10_likenessBy_46 rfl
theorem dX10_likenessBy_48 : decode cX10_likenessBy 48 = .ok (.iload 4, 2) := de_15 tX10_likenessBy_48 (by decide +kernel)
def tX10_likenessBy_50 := Bt_2 (q := 50) tX10_likenessBy_48 rfl
theorem dX10_likenessBy_50 : decode cX10_likenessBy 50 = .ok (.iconst 4, 1) := de_07 tX10_likenessBy_50
def tX10_likenessBy_51 := Bt_1 (q := 51) tX10_likenessBy_50 rfl
theorem dX10_likenessBy_51 : decode cX10_likenessBy 51 = .ok (.iload 5, 2) := de_15 tX10_likenessBy_51 (by decide +kernel)
def tX10_likenessBy_53 := Bt_2 (q := 53) tX10_likenessBy_51 rfl
theorem dX10_likenessBy_53 : decode cX10_likenessBy 53 = .ok (.isub, 1) := de_64 tX10_likenessBy_53
def tX10_likenessBy_54 := Bt_1 (q := 54) tX10_likenessBy_53 rfl
theorem dX10_likenessBy_54 : decode cX10_likenessBy 54 = .ok (.idiv, 1) := de_6c tX10_likenessBy_54
def tX10_likenessBy_55 := Bt_1 (q := 55) tX10_likenessBy_54 rfl
theorem dX10_likenessBy_55 : decode cX10_likenessBy 55 = .ok (.istore 4, 2) := de_36 tX10_likenessBy_55 (by decide +kernel)
def tX10_likenessBy_57 := Bt_2 (q := 57) tX10_likenessBy_55 rfl
theorem dX10_likenessBy_57 : decode cX10_likenessBy 57 = .ok (.aload_n 0, 1) := de_2a tX10_likenessBy_57
def tX10_likenessBy_58 := Bt_1 (q := 58) tX10_likenessBy_57 rfl
theorem dX10_likenessBy_58 : decode cX10_likenessBy 58 = .ok (.getfield 121, 3) := de_b4 tX10_likenessBy_58 (by decide +kernel)
def tX10_likenessBy_61 := Bt_3 (q := 61) tX10_likenessBy_58 rfl
theorem dX10_likenessBy_61 : decode cX10_likenessBy 61 = .ok (.iload 5, 2) := de_15 tX10_likenessBy_61 (by decide +kernel)
def tX10_likenessBy_63 := Bt_2 (q := 63) tX10_likenessBy_61 rfl
theorem dX10_likenessBy_63 : decode cX10_likenessBy 63 = .ok (.iaload, 1) := de_2e tX10_likenessBy_63
def tX10_likenessBy_64 := Bt_1 (q := 64) tX10_likenessBy_63 rfl
theorem dX10_likenessBy_64 : decode cX10_likenessBy 64 = .ok (.istore 7, 2) := de_36 tX10_likenessBy_64 (by decide +kernel)
def tX10_likenessBy_66 := Bt_2 (q := 66) tX10_likenessBy_64 rfl
theorem dX10_likenessBy_66 : decode cX10_likenessBy 66 = .ok (.aload_n 0, 1) := de_2a tX10_likenessBy_66
def tX10_likenessBy_67 := Bt_1 (q := 67) tX10_likenessBy_66 rfl
theorem dX10_likenessBy_67 : decode cX10_likenessBy 67 = .ok (.getfield 121, 3) := de_b4 tX10_likenessBy_67 (by decide +kernel)
def tX10_likenessBy_70 := Bt_3 (q := 70) tX10_likenessBy_67 rfl
theorem dX10_likenessBy_70 : decode cX10_likenessBy 70 = .ok (.iload 5, 2) := de_15 tX10_likenessBy_70 (by decide +kernel)
def tX10_likenessBy_72 := Bt_2 (q := 72) tX10_likenessBy_70 rfl
theorem dX10_likenessBy_72 : decode cX10_likenessBy 72 = .ok (.aload_n 0, 1) := de_2a tX10_likenessBy_72
def tX10_likenessBy_73 := Bt_1 (q := 73) tX10_likenessBy_72 rfl
theorem dX10_likenessBy_73 : decode cX10_likenessBy 73 = .ok (.getfield 121, 3) := de_b4 tX10_likenessBy_73 (by decide +kernel)
def tX10_likenessBy_76 := Bt_3 (q := 76) tX10_likenessBy_73 rfl
theorem dX10_likenessBy_76 : decode cX10_likenessBy 76 = .ok (.iload 6, 2) := de_15 tX10_likenessBy_76 (by decide +kernel)
def tX10_likenessBy_78 := Bt_2 (q := 78) tX10_likenessBy_76 rfl
theorem dX10_likenessBy_78 : decode cX10_likenessBy 78 = .ok (.iaload, 1) := de_2e tX10_likenessBy_78
def tX10_likenessBy_79 := Bt_1 (q := 79) tX10_likenessBy_78 rfl
theorem dX10_likenessBy_79 : decode cX10_likenessBy 79 = .ok (.iastore, 1) := de_4f tX10_likenessBy_79
def tX10_likenessBy_80 := Bt_1 (q := 80) tX10_likenessBy_79 rfl
theorem dX10_likenessBy_80 : decode cX10_likenessBy 80 = .ok (.aload_n 0, 1) := de_2a tX10_likenessBy_80
def tX10_likenessBy_81 := Bt_1 (q := 81) tX10_likenessBy_80 rfl
theorem dX10_likenessBy_81 : decode cX10_likenessBy 81 = .ok (.getfield 121, 3) := de_b4 tX10_likenessBy_81 (by decide +kernel)
def tX10_likenessBy_84 := Bt_3 (q := 84) tX10_likenessBy_81 rfl
theorem dX10_likenessBy_84 : decode cX10_likenessBy 84 = .ok (.iload 6, 2) := de_15 tX10_likenessBy_84 (by decide +kernel)
def tX10_likenessBy_86 := Bt_2 (q := 86) tX10_likenessBy_84 rfl
theorem dX10_likenessBy_86 : decode cX10_likenessBy 86 = .ok (.iload 7, 2) := de_15 tX10_likenessBy_86 (by decide +kernel)
def tX10_likenessBy_88 := Bt_2 (q := 88) tX10_likenessBy_86 rfl
theorem dX10_likenessBy_88 : decode cX10_likenessBy 88 = .ok (.iastore, 1) := de_4f tX10_likenessBy_88
def tX10_likenessBy_89 := Bt_1 (q := 89) tX10_likenessBy_88 rfl
theorem dX10_likenessBy_89 : decode cX10_likenessBy 89 = .ok (.iinc 5 1, 3) := de_84 tX10_likenessBy_89 (by decide +kernel) (by decide +kernel)
def tX10_likenessBy_92 := Bt_3 (q := 92) tX10_likenessBy_89 rfl
theorem dX10_likenessBy_92 : decode cX10_likenessBy 92 = .ok (.goto (-62), 3) := de_a7 tX10_likenessBy_92 (by decide +kernel)
def tX10_likenessBy_95 := Bt_3 (q := 95) tX10_likenessBy_92 rfl
theorem dX10_likenessBy_95 : decode cX10_likenessBy 95 = .ok (.lconst 0, 1) := de_09 tX10_likenessBy_95
def tX10_likenessBy_96 := Bt_1 (q := 96) tX10_likenessBy_95 rfl
theorem dX10_likenessBy_96 : decode cX10_likenessBy 96 = .ok (.lstore 5, 2) := de_37 tX10_likenessBy_96 (by decide +kernel)
def tX10_likenessBy_98 := Bt_2 (q := 98) tX10_likenessBy_96 rfl
theorem dX10_likenessBy_98 : decode cX10_likenessBy 98 = .ok (.iconst 0, 1) := de_03 tX10_likenessBy_98
def tX10_likenessBy_99 := Bt_1 (q := 99) tX10_likenessBy_98 rfl
theorem dX10_likenessBy_99 : decode cX10_likenessBy 99 = .ok (.istore 7, 2) := de_36 tX10_likenessBy_99 (by decide +kernel)
def tX10_likenessBy_101 := Bt_2 (q := 101) tX10_likenessBy_99 rfl
theorem dX10_likenessBy_101 : decode cX10_likenessBy 101 = .ok (.iload 7, 2) := de_15 tX10_likenessBy_101 (by decide +kernel)
def tX10_likenessBy_103 := Bt_2 (q := 103) tX10_likenessBy_101 rfl
theorem dX10_likenessBy_103 : decode cX10_likenessBy 103 = .ok (.iconst 4, 1) := de_07 tX10_likenessBy_103
def tX10_likenessBy_104 := Bt_1 (q := 104) tX10_likenessBy_103 rfl
theorem dX10_likenessBy_104 : decode cX10_likenessBy 104 = .ok (.if_icmp .ge 60, 3) := de_a2 tX10_likenessBy_104 (by decide +kernel)
def tX10_likenessBy_107 := Bt_3 (q := 107) tX10_likenessBy_104 rfl
theorem dX10_likenessBy_107 : decode cX10_likenessBy 107 = .ok (.lload 5, 2) := de_16 tX10_likenessBy_107 (by decide +kernel)
def tX10_likenessBy_109 := Bt_2 (q := 109) tX10_likenessBy_107 rfl
theorem dX10_likenessBy_109 : decode cX10_likenessBy 109 = .ok (.aload_n 0, 1) := de_2a tX10_likenessBy_109
def tX10_likenessBy_110 := Bt_1 (q := 110) tX10_likenessBy_109 rfl
theorem dX10_likenessBy_110 : decode cX10_likenessBy 110 = .ok (.getfield 27, 3) := de_b4 tX10_likenessBy_110 (by decide +kernel)
def tX10_likenessBy_113 := Bt_3 (q := 113) tX10_likenessBy_110 rfl
theorem dX10_likenessBy_113 : decode cX10_likenessBy 113 = .ok (.iconst 4, 1) := de_07 tX10_likenessBy_113
def tX10_likenessBy_114 := Bt_1 (q := 114) tX10_likenessBy_113 rfl
theorem dX10_likenessBy_114 : decode cX10_likenessBy 114 = .ok (.iload_n 1, 1) := de_1b tX10_likenessBy_114
def tX10_likenessBy_115 := Bt_1 (q := 115) tX10_likenessBy_114 rfl
theorem dX10_likenessBy_115 : decode cX10_likenessBy 115 = .ok (.imul, 1) := de_68 tX10_likenessBy_115
def tX10_likenessBy_116 := Bt_1 (q := 116) tX10_likenessBy_115 rfl
theorem dX10_likenessBy_116 : decode cX10_likenessBy 116 = .ok (.iload 7, 2) := de_15 tX10_likenessBy_116 (by decide +kernel)
def tX10_likenessBy_118 := Bt_2 (q := 118) tX10_likenessBy_116 rfl
theorem dX10_likenessBy_118 : decode cX10_likenessBy 118 = .ok (.iadd, 1) := de_60 tX10_likenessBy_118
def tX10_likenessBy_119 := Bt_1 (q := 119) tX10_likenessBy_118 rfl
theorem dX10_likenessBy_119 : decode cX10_likenessBy 119 = .ok (.iaload, 1) := de_2e tX10_likenessBy_119
def tX10_likenessBy_120 := Bt_1 (q := 120) tX10_likenessBy_119 rfl
theorem dX10_likenessBy_120 : decode cX10_likenessBy 120 = .ok (.i2l, 1) := de_85 tX10_likenessBy_120
def tX10_likenessBy_121 := Bt_1 (q := 121) tX10_likenessBy_120 rfl
theorem dX10_likenessBy_121 : decode cX10_likenessBy 121 = .ok (.aload_n 0, 1) := de_2a tX10_likenessBy_121
def tX10_likenessBy_122 := Bt_1 (q := 122) tX10_likenessBy_121 rfl
theorem dX10_likenessBy_122 : decode cX10_likenessBy 122 = .ok (.iload_n 2, 1) := de_1c tX10_likenessBy_122
def tX10_likenessBy_123 := Bt_1 (q := 123) tX10_likenessBy_122 rfl
theorem dX10_likenessBy_123 : decode cX10_likenessBy 123 = .ok (.invokevirtual 184, 3) := de_b6 tX10_likenessBy_123 (by decide +kernel)
def tX10_likenessBy_126 := Bt_3 (q := 126) tX10_likenessBy_123 rfl
theorem dX10_likenessBy_126 : decode cX10_likenessBy 126 = .ok (.i2l, 1) := de_85 tX10_likenessBy_126
def tX10_likenessBy_127 := Bt_1 (q := 127) tX10_likenessBy_126 rfl
theorem dX10_likenessBy_127 : decode cX10_likenessBy 127 = .ok (.lmul, 1) := de_69 tX10_likenessBy_127
def tX10_likenessBy_128 := Bt_1 (q := 128) tX10_likenessBy_127 rfl
theorem dX10_likenessBy_128 : decode cX10_likenessBy 128 = .ok (.aload_n 0, 1) := de_2a tX10_likenessBy_128
def tX10_likenessBy_129 := Bt_1 (q := 129) tX10_likenessBy_128 rfl
theorem dX10_likenessBy_129 : decode cX10_likenessBy 129 = .ok (.getfield 27, 3) := de_b4 tX10_likenessBy_129 (by decide +kernel)
def tX10_likenessBy_132 := Bt_3 (q := 132) tX10_likenessBy_129 rfl
theorem dX10_likenessBy_132 : decode cX10_likenessBy 132 = .ok (.iconst 4, 1) := de_07 tX10_likenessBy_132
def tX10_likenessBy_133 := Bt_1 (q := 133) tX10_likenessBy_132 rfl
theorem dX10_likenessBy_133 : decode cX10_likenessBy 133 = .ok (.iload_n 2, 1) := de_1c tX10_likenessBy_133
def tX10_likenessBy_134 := Bt_1 (q := 134) tX10_likenessBy_133 rfl
theorem dX10_likenessBy_134 : decode cX10_likenessBy 134 = .ok (.imul, 1) := de_68 tX10_likenessBy_134
def tX10_likenessBy_135 := Bt_1 (q := 135) tX10_likenessBy_134 rfl
theorem dX10_likenessBy_135 : decode cX10_likenessBy 135 = .ok (.aload_n 0, 1) := de_2a tX10_likenessBy_135
def tX10_likenessBy_136 := Bt_1 (q := 136) tX10_likenessBy_135 rfl
theorem dX10_likenessBy_136 : decode cX10_likenessBy 136 = .ok (.getfield 121, 3) := de_b4 tX10_likenessBy_136 (by decide +kernel)
def tX10_likenessBy_139 := Bt_3 (q := 139) tX10_likenessBy_136 rfl
theorem dX10_likenessBy_139 : decode cX10_likenessBy 139 = .ok (.iload 7, 2) := de_15 tX10_likenessBy_139 (by decide +kernel)
def tX10_likenessBy_141 := Bt_2 (q := 141) tX10_likenessBy_139 rfl
theorem dX10_likenessBy_141 : decode cX10_likenessBy 141 = .ok (.iaload, 1) := de_2e tX10_likenessBy_141
def tX10_likenessBy_142 := Bt_1 (q := 142) tX10_likenessBy_141 rfl
theorem dX10_likenessBy_142 : decode cX10_likenessBy 142 = .ok (.iadd, 1) := de_60 tX10_likenessBy_142
def tX10_likenessBy_143 := Bt_1 (q := 143) tX10_likenessBy_142 rfl
theorem dX10_likenessBy_143 : decode cX10_likenessBy 143 = .ok (.iaload, 1) := de_2e tX10_likenessBy_143
def tX10_likenessBy_144 := Bt_1 (q := 144) tX10_likenessBy_143 rfl
theorem dX10_likenessBy_144 : decode cX10_likenessBy 144 = .ok (.i2l, 1) := de_85 tX10_likenessBy_144
def tX10_likenessBy_145 := Bt_1 (q := 145) tX10_likenessBy_144 rfl
theorem dX10_likenessBy_145 : decode cX10_likenessBy 145 = .ok (.aload_n 0, 1) := de_2a tX10_likenessBy_145
def tX10_likenessBy_146 := Bt_1 (q := 146) tX10_likenessBy_145 rfl
theorem dX10_likenessBy_146 : decode cX10_likenessBy 146 = .ok (.iload_n 1, 1) := de_1b tX10_likenessBy_146
def tX10_likenessBy_147 := Bt_1 (q := 147) tX10_likenessBy_146 rfl
theorem dX10_likenessBy_147 : decode cX10_likenessBy 147 = .ok (.invokevirtual 184, 3) := de_b6 tX10_likenessBy_147 (by decide +kernel)
def tX10_likenessBy_150 := Bt_3 (q := 150) tX10_likenessBy_147 rfl
theorem dX10_likenessBy_150 : decode cX10_likenessBy 150 = .ok (.i2l, 1) := de_85 tX10_likenessBy_150
def tX10_likenessBy_151 := Bt_1 (q := 151) tX10_likenessBy_150 rfl
theorem dX10_likenessBy_151 : decode cX10_likenessBy 151 = .ok (.lmul, 1) := de_69 tX10_likenessBy_151
def tX10_likenessBy_152 := Bt_1 (q := 152) tX10_likenessBy_151 rfl
theorem dX10_likenessBy_152 : decode cX10_likenessBy 152 = .ok (.invokestatic 374, 3) := de_b8 tX10_likenessBy_152 (by decide +kernel)
def tX10_likenessBy_155 := Bt_3 (q := 155) tX10_likenessBy_152 rfl
theorem dX10_likenessBy_155 : decode cX10_likenessBy 155 = .ok (.ladd, 1) := de_61 tX10_likenessBy_155
def tX10_likenessBy_156 := Bt_1 (q := 156) tX10_likenessBy_155 rfl
theorem dX10_likenessBy_156 : decode cX10_likenessBy 156 = .ok (.lstore 5, 2) := de_37 tX10_likenessBy_156 (by decide +kernel)
def tX10_likenessBy_158 := Bt_2 (q := 158) tX10_likenessBy_156 rfl
theorem dX10_likenessBy_158 : decode cX10_likenessBy 158 = .ok (.iinc 7 1, 3) := de_84 tX10_likenessBy_158 (by decide +kernel) (by decide +kernel)
def tX10_likenessBy_161 := Bt_3 (q := 161) tX10_likenessBy_158 rfl
theorem dX10_likenessBy_161 : decode cX10_likenessBy 161 = .ok (.goto (-60), 3) := de_a7 tX10_likenessBy_161 (by decide +kernel)
def tX10_likenessBy_164 := Bt_3 (q := 164) tX10_likenessBy_161 rfl
theorem dX10_likenessBy_164 : decode cX10_likenessBy 164 = .ok (.lload 5, 2) := de_16 tX10_likenessBy_164 (by decide +kernel)
def tX10_likenessBy_166 := Bt_2 (q := 166) tX10_likenessBy_164 rfl
theorem dX10_likenessBy_166 : decode cX10_likenessBy 166 = .ok (.lreturn, 1) := de_ad tX10_likenessBy_166
def tX10_chanceOf_0 := Bt_0 cX10_chanceOf
theorem dX10_chanceOf_0 : decode cX10_chanceOf 0 = .ok (.iconst 0, 1) := de_03 tX10_chanceOf_0
def tX10_chanceOf_1 := Bt_1 (q := 1) tX10_chanceOf_0 rfl
theorem dX10_chanceOf_1 : decode cX10_chanceOf 1 = .ok (.istore_n 3, 1) := de_3e tX10_chanceOf_1
def tX10_chanceOf_2 := Bt_1 (q := 2) tX10_chanceOf_1 rfl
theorem dX10_chanceOf_2 : decode cX10_chanceOf 2 = .ok (.iconst 0, 1) := de_03 tX10_chanceOf_2
def tX10_chanceOf_3 := Bt_1 (q := 3) tX10_chanceOf_2 rfl
theorem dX10_chanceOf_3 : decode cX10_chanceOf 3 = .ok (.istore 4, 2) := de_36 tX10_chanceOf_3 (by decide +kernel)
def tX10_chanceOf_5 := Bt_2 (q := 5) tX10_chanceOf_3 rfl
theorem dX10_chanceOf_5 : decode cX10_chanceOf 5 = .ok (.iload 4, 2) := de_15 tX10_chanceOf_5 (by decide +kernel)
def tX10_chanceOf_7 := Bt_2 (q := 7) tX10_chanceOf_5 rfl
theorem dX10_chanceOf_7 : decode cX10_chanceOf 7 = .ok (.bipush 24, 2) := de_10 tX10_chanceOf_7 (by decide +kernel)
def tX10_chanceOf_9 := Bt_2 (q := 9) tX10_chanceOf_7 rfl
theorem dX10_chanceOf_9 : decode cX10_chanceOf 9 = .ok (.if_icmp .ge 36, 3) := de_a2 tX10_chanceOf_9 (by decide +kernel)
def tX10_chanceOf_12 := Bt_3 (q := 12) tX10_chanceOf_9 rfl
theorem dX10_chanceOf_12 : decode cX10_chanceOf 12 = .ok (.iload_n 3, 1) := de_1d tX10_chanceOf_12
def tX10_chanceOf_13 := Bt_1 (q := 13) tX10_chanceOf_12 rfl
theorem dX10_chanceOf_13 : decode cX10_chanceOf 13 = .ok (.aload_n 0, 1) := de_2a tX10_chanceOf_13
def tX10_chanceOf_14 := Bt_1 (q := 14) tX10_chanceOf_13 rfl
theorem dX10_chanceOf_14 : decode cX10_chanceOf 14 = .ok (.iload_n 1, 1) := de_1b tX10_chanceOf_14
def tX10_chanceOf_15 := Bt_1 (q := 15) tX10_chanceOf_14 rfl
theorem dX10_chanceOf_15 : decode cX10_chanceOf 15 = .ok (.iload_n 2, 1) := de_1c tX10_chanceOf_15
def tX10_chanceOf_16 := Bt_1 (q := 16) tX10_chanceOf_15 rfl
theorem dX10_chanceOf_16 : decode cX10_chanceOf 16 = .ok (.iload 4, 2) := de_15 tX10_chanceOf_16 (by decide +kernel)
def tX10_chanceOf_18 := Bt_2 (q := 18) tX10_chanceOf_16 rfl
theorem dX10_chanceOf_18 : decode cX10_chanceOf 18 = .ok (.invokevirtual 377, 3) := de_b6 tX10_chanceOf_18 (by decide +kernel)
def tX10_chanceOf_21 := Bt_3 (q := 21) tX10_chanceOf_18 rfl
theorem dX10_chanceOf_21 : decode cX10_chanceOf 21 = .ok (.aload_n 0, 1) := de_2a tX10_chanceOf_21
def tX10_chanceOf_22 := Bt_1 (q := 22) tX10_chanceOf_21 rfl
theorem dX10_chanceOf_22 : decode cX10_chanceOf 22 = .ok (.iload_n 1, 1) := de_1b tX10_chanceOf_22
def tX10_chanceOf_23 := Bt_1 (q := 23) tX10_chanceOf_22 rfl
theorem dX10_chanceOf_23 : decode cX10_chanceOf 23 = .ok (.iload_n 2, 1) := de_1c tX10_chanceOf_23
def tX10_chanceOf_24 := Bt_1 (q := 24) tX10_chanceOf_23 rfl
theorem dX10_chanceOf_24 : decode cX10_chanceOf 24 = .ok (.iconst 0, 1) := de_03 tX10_chanceOf_24
def tX10_chanceOf_25 := Bt_1 (q := 25) tX10_chanceOf_24 rfl
theorem dX10_chanceOf_25 : decode cX10_chanceOf 25 = .ok (.invokevirtual 377, 3) := de_b6 tX10_chanceOf_25 (by decide +kernel)
def tX10_chanceOf_28 := Bt_3 (q := 28) tX10_chanceOf_25 rfl
theorem dX10_chanceOf_28 : decode cX10_chanceOf 28 = .ok (.lcmp, 1) := de_94 tX10_chanceOf_28
def tX10_chanceOf_29 := Bt_1 (q := 29) tX10_chanceOf_28 rfl
theorem dX10_chanceOf_29 : decode cX10_chanceOf 29 = .ok (.ifCond .gt 7, 3) := de_9d tX10_chanceOf_29 (by decide +kernel)
def tX10_chanceOf_32 := Bt_3 (q := 32) tX10_chanceOf_29 rfl
theorem dX10_chanceOf_32 : decode cX10_chanceOf 32 = .ok (.iconst 1, 1) := de_04 tX10_chanceOf_32
def tX10_chanceOf_33 := Bt_1 (q := 33) tX10_chanceOf_32 rfl
theorem dX10_chanceOf_33 : decode cX10_chanceOf 33 = .ok (.goto 4, 3) := de_a7 tX10_chanceOf_33 (by decide +kernel)
def tX10_chanceOf_36 := Bt_3 (q := 36) tX10_chanceOf_33 rfl
theorem dX10_chanceOf_36 : decode cX10_chanceOf 36 = .ok (.iconst 0, 1) := de_03 tX10_chanceOf_36
def tX10_chanceOf_37 := Bt_1 (q := 37) tX10_chanceOf_36 rfl
theorem dX10_chanceOf_37 : decode cX10_chanceOf 37 = .ok (.iadd, 1) := de_60 tX10_chanceOf_37
def tX10_chanceOf_38 := Bt_1 (q := 38) tX10_chanceOf_37 rfl
theorem dX10_chanceOf_38 : decode cX10_chanceOf 38 = .ok (.istore_n 3, 1) := de_3e tX10_chanceOf_38
def tX10_chanceOf_39 := Bt_1 (q := 39) tX10_chanceOf_38 rfl
theorem dX10_chanceOf_39 : decode cX10_chanceOf 39 = .ok (.iinc 4 1, 3) := de_84 tX10_chanceOf_39 (by decide +kernel) (by decide +kernel)
def tX10_chanceOf_42 := Bt_3 (q := 42) tX10_chanceOf_39 rfl
theorem dX10_chanceOf_42 : decode cX10_chanceOf 42 = .ok (.goto (-37), 3) := de_a7 tX10_chanceOf_42 (by decide +kernel)
def tX10_chanceOf_45 := Bt_3 (q := 45) tX10_chanceOf_42 rfl
theorem dX10_chanceOf_45 : decode cX10_chanceOf 45 = .ok (.iload_n 3, 1) := de_1d tX10_chanceOf_45
def tX10_chanceOf_46 := Bt_1 (q := 46) tX10_chanceOf_45 rfl
theorem dX10_chanceOf_46 : decode cX10_chanceOf 46 = .ok (.ireturn, 1) := de_ac tX10_chanceOf_46
def tX10_wrongTwo_0 := Bt_0 cX10_wrongTwo
theorem dX10_wrongTwo_0 : decode cX10_wrongTwo 0 = .ok (.aload_n 0, 1) := de_2a tX10_wrongTwo_0
def tX10_wrongTwo_1 := Bt_1 (q := 1) tX10_wrongTwo_0 rfl
theorem dX10_wrongTwo_1 : decode cX10_wrongTwo 1 = .ok (.iload_n 1, 1) := de_1b tX10_wrongTwo_1
def tX10_wrongTwo_2 := Bt_1 (q := 2) tX10_wrongTwo_1 rfl
theorem dX10_wrongTwo_2 : decode cX10_wrongTwo 2 = .ok (.invokevirtual 170, 3) := de_b6 tX10_wrongTwo_2 (by decide +kernel)
def tX10_wrongTwo_5 := Bt_3 (q := 5) tX10_wrongTwo_2 rfl
theorem dX10_wrongTwo_5 : decode cX10_wrongTwo 5 = .ok (.ifCond .eq 22, 3) := de_99 tX10_wrongTwo_5 (by decide +kernel)
def tX10_wrongTwo_8 := Bt_3 (q := 8) tX10_wrongTwo_5 rfl
theorem dX10_wrongTwo_8 : decode cX10_wrongTwo 8 = .ok (.iload_n 2, 1) := de_1c tX10_wrongTwo_8
def tX10_wrongTwo_9 := Bt_1 (q := 9) tX10_wrongTwo_8 rfl
theorem dX10_wrongTwo_9 : decode cX10_wrongTwo 9 = .ok (.invokestatic 166, 3) := de_b8 tX10_wrongTwo_9 (by decide +kernel)
def tX10_wrongTwo_12 := Bt_3 (q := 12) tX10_wrongTwo_9 rfl
theorem dX10_wrongTwo_12 : decode cX10_wrongTwo 12 = .ok (.ifCond .eq 15, 3) := de_99 tX10_wrongTwo_12 (by decide +kernel)
def tX10_wrongTwo_15 := Bt_3 (q := 15) tX10_wrongTwo_12 rfl
theorem dX10_wrongTwo_15 : decode cX10_wrongTwo 15 = .ok (.iload_n 3, 1) := de_1d tX10_wrongTwo_15
def tX10_wrongTwo_16 := Bt_1 (q := 16) tX10_wrongTwo_15 rfl
theorem dX10_wrongTwo_16 : decode cX10_wrongTwo 16 = .ok (.invokestatic 166, 3) := de_b8 tX10_wrongTwo_16 (by decide +kernel)
def tX10_wrongTwo_19 := Bt_3 (q := 19) tX10_wrongTwo_16 rfl
theorem dX10_wrongTwo_19 : decode cX10_wrongTwo 19 = .ok (.ifCond .eq 8, 3) := de_99 tX10_wrongTwo_19 (by decide +kernel)
def tX10_wrongTwo_22 := Bt_3 (q := 22) tX10_wrongTwo_19 rfl
theorem dX10_wrongTwo_22 : decode cX10_wrongTwo 22 = .ok (.iload_n 2, 1) := de_1c tX10_wrongTwo_22
def tX10_wrongTwo_23 := Bt_1 (q := 23) tX10_wrongTwo_22 rfl
theorem dX10_wrongTwo_23 : decode cX10_wrongTwo 23 = .ok (.iload_n 3, 1) := de_1d tX10_wrongTwo_23
def tX10_wrongTwo_24 := Bt_1 (q := 24) tX10_wrongTwo_23 rfl
theorem dX10_wrongTwo_24 : decode cX10_wrongTwo 24 = .ok (.if_icmp .ne 5, 3) := de_a0 tX10_wrongTwo_24 (by decide +kernel)
def tX10_wrongTwo_27 := Bt_3 (q := 27) tX10_wrongTwo_24 rfl
theorem dX10_wrongTwo_27 : decode cX10_wrongTwo 27 = .ok (.iconst (-1), 1) := de_02 tX10_wrongTwo_27
def tX10_wrongTwo_28 := Bt_1 (q := 28) tX10_wrongTwo_27 rfl
theorem dX10_wrongTwo_28 : decode cX10_wrongTwo 28 = .ok (.ireturn, 1) := de_ac tX10_wrongTwo_28
def tX10_wrongTwo_29 := Bt_1 (q := 29) tX10_wrongTwo_28 rfl
theorem dX10_wrongTwo_29 : decode cX10_wrongTwo 29 = .ok (.aload_n 0, 1) := de_2a tX10_wrongTwo_29
def tX10_wrongTwo_30 := Bt_1 (q := 30) tX10_wrongTwo_29 rfl
theorem dX10_wrongTwo_30 : decode cX10_wrongTwo 30 = .ok (.getfield 20, 3) := de_b4 tX10_wrongTwo_30 (by decide +kernel)
def tX10_wrongTwo_33 := Bt_3 (q := 33) tX10_wrongTwo_30 rfl
theorem dX10_wrongTwo_33 : decode cX10_wrongTwo 33 = .ok (.bipush 8, 2) := de_10 tX10_wrongTwo_33 (by decide +kernel)
def tX10_wrongTwo_35 := Bt_2 (q := 35) tX10_wrongTwo_33 rfl
theorem dX10_wrongTwo_35 : decode cX10_wrongTwo 35 = .ok (.iload_n 1, 1) := de_1b tX10_wrongTwo_35
def tX10_wrongTwo_36 := Bt_1 (q := 36) tX10_wrongTwo_35 rfl
theorem dX10_wrongTwo_36 : decode cX10_wrongTwo 36 = .ok (.imul, 1) := de_68 tX10_wrongTwo_36
def tX10_wrongTwo_37 := Bt_1 (q := 37) tX10_wrongTwo_36 rfl
theorem dX10_wrongTwo_37 : decode cX10_wrongTwo 37 = .ok (.iload_n 2, 1) := de_1c tX10_wrongTwo_37
def tX10_wrongTwo_38 := Bt_1 (q := 38) tX10_wrongTwo_37 rfl
theorem dX10_wrongTwo_38 : decode cX10_wrongTwo 38 = .ok (.iadd, 1) := de_60 tX10_wrongTwo_38
def tX10_wrongTwo_39 := Bt_1 (q := 39) tX10_wrongTwo_38 rfl
theorem dX10_wrongTwo_39 : decode cX10_wrongTwo 39 = .ok (.baload, 1) := de_33 tX10_wrongTwo_39
def tX10_wrongTwo_40 := Bt_1 (q := 40) tX10_wrongTwo_39 rfl
theorem dX10_wrongTwo_40 : decode cX10_wrongTwo 40 = .ok (.ifCond .eq 21, 3) := de_99 tX10_wrongTwo_40 (by decide +kernel)
def tX10_wrongTwo_43 := Bt_3 (q := 43) tX10_wrongTwo_40 rfl
theorem dX10_wrongTwo_43 : decode cX10_wrongTwo 43 = .ok (.aload_n 0, 1) := de_2a tX10_wrongTwo_43
def tX10_wrongTwo_44 := Bt_1 (q := 44) tX10_wrongTwo_43 rfl
theorem dX10_wrongTwo_44 : decode cX10_wrongTwo 44 = .ok (.getfield 20, 3) := de_b4 tX10_wrongTwo_44 (by decide +kernel)
def tX10_wrongTwo_47 := Bt_3 (q := 47) tX10_wrongTwo_44 rfl
theorem dX10_wrongTwo_47 : decode cX10_wrongTwo 47 = .ok (.bipush 8, 2) := de_10 tX10_wrongTwo_47 (by decide +kernel)
def tX10_wrongTwo_49 := Bt_2 (q := 49) tX10_wrongTwo_47 rfl
theorem dX10_wrongTwo_49 : decode cX10_wrongTwo 49 = .ok (.iload_n 1, 1) := de_1b tX10_wrongTwo_49
def tX10_wrongTwo_50 := Bt_1 (q := 50) tX10_wrongTwo_49 rfl
theorem dX10_wrongTwo_50 : decode cX10_wrongTwo 50 = .ok (.imul, 1) := de_68 tX10_wrongTwo_50
def tX10_wrongTwo_51 := Bt_1 (q := 51) tX10_wrongTwo_50 rfl
theorem dX10_wrongTwo_51 : decode cX10_wrongTwo 51 = .ok (.iload_n 3, 1) := de_1d tX10_wrongTwo_51
def tX10_wrongTwo_52 := Bt_1 (q := 52) tX10_wrongTwo_51 rfl
theorem dX10_wrongTwo_52 : decode cX10_wrongTwo 52 = .ok (.iadd, 1) := de_60 tX10_wrongTwo_52
def tX10_wrongTwo_53 := Bt_1 (q := 53) tX10_wrongTwo_52 rfl
theorem dX10_wrongTwo_53 : decode cX10_wrongTwo 53 = .ok (.baload, 1) := de_33 tX10_wrongTwo_53
def tX10_wrongTwo_54 := Bt_1 (q := 54) tX10_wrongTwo_53 rfl
theorem dX10_wrongTwo_54 : decode cX10_wrongTwo 54 = .ok (.ifCond .eq 7, 3) := de_99 tX10_wrongTwo_54 (by decide +kernel)
def tX10_wrongTwo_57 := Bt_3 (q := 57) tX10_wrongTwo_54 rfl
theorem dX10_wrongTwo_57 : decode cX10_wrongTwo 57 = .ok (.iconst 0, 1) := de_03 tX10_wrongTwo_57
def tX10_wrongTwo_58 := Bt_1 (q := 58) tX10_wrongTwo_57 rfl
theorem dX10_wrongTwo_58 : decode cX10_wrongTwo 58 = .ok (.goto 5, 3) := de_a7 tX10_wrongTwo_58 (by decide +kernel)
def tX10_wrongTwo_61 := Bt_3 (q := 61) tX10_wrongTwo_58 rfl
theorem dX10_wrongTwo_61 : decode cX10_wrongTwo 61 = .ok (.bipush (-5), 2) := de_10 tX10_wrongTwo_61 (by decide +kernel)
def tX10_wrongTwo_63 := Bt_2 (q := 63) tX10_wrongTwo_61 rfl
theorem dX10_wrongTwo_63 : decode cX10_wrongTwo 63 = .ok (.ireturn, 1) := de_ac tX10_wrongTwo_63
def tX10_likeness_0 := Bt_0 cX10_likeness
theorem dX10_likeness_0 : decode cX10_likeness 0 = .ok (.aload_n 0, 1) := de_2a tX10_likeness_0
def tX10_likeness_1 := Bt_1 (q := 1) tX10_likeness_0 rfl
theorem dX10_likeness_1 : decode cX10_likeness 1 = .ok (.iload_n 1, 1) := de_1b tX10_likeness_1
def tX10_likeness_2 := Bt_1 (q := 2) tX10_likeness_1 rfl
theorem dX10_likeness_2 : decode cX10_likeness 2 = .ok (.iload_n 2, 1) := de_1c tX10_likeness_2
def tX10_likeness_3 := Bt_1 (q := 3) tX10_likeness_2 rfl
theorem dX10_likeness_3 : decode cX10_likeness 3 = .ok (.iload_n 3, 1) := de_1d tX10_likeness_3
def tX10_likeness_4 := Bt_1 (q := 4) tX10_likeness_3 rfl
theorem dX10_likeness_4 : decode cX10_likeness 4 = .ok (.invokevirtual 381, 3) := de_b6 tX10_likeness_4 (by decide +kernel)
def tX10_likeness_7 := Bt_3 (q := 7) tX10_likeness_4 rfl
theorem dX10_likeness_7 : decode cX10_likeness 7 = .ok (.istore 4, 2) := de_36 tX10_likeness_7 (by decide +kernel)
def tX10_likeness_9 := Bt_2 (q := 9) tX10_likeness_7 rfl
theorem dX10_likeness_9 : decode cX10_likeness 9 = .ok (.iload 4, 2) := de_15 tX10_likeness_9 (by decide +kernel)
def tX10_likeness_11 := Bt_2 (q := 11) tX10_likeness_9 rfl
theorem dX10_likeness_11 : decode cX10_likeness 11 = .ok (.ifCond .ge 12, 3) := de_9c tX10_likeness_11 (by decide +kernel)
def tX10_likeness_14 := Bt_3 (q := 14) tX10_likeness_11 rfl
theorem dX10_likeness_14 : decode cX10_likeness 14 = .ok (.aload_n 0, 1) := de_2a tX10_likeness_14
def tX10_likeness_15 := Bt_1 (q := 15) tX10_likeness_14 rfl
theorem dX10_likeness_15 : decode cX10_likeness 15 = .ok (.iload 4, 2) := de_15 tX10_likeness_15 (by decide +kernel)
def tX10_likeness_17 := Bt_2 (q := 17) tX10_likeness_15 rfl
theorem dX10_likeness_17 : decode cX10_likeness 17 = .ok (.invokevirtual 308, 3) := de_b6 tX10_likeness_17 (by decide +kernel)
def tX10_likeness_20 := Bt_3 (q := 20) tX10_likeness_17 rfl
theorem dX10_likeness_20 : decode cX10_likeness 20 = .ok (.goto 20, 3) := de_a7 tX10_likeness_20 (by decide +kernel)
def tX10_likeness_23 := Bt_3 (q := 23) tX10_likeness_20 rfl
theorem dX10_likeness_23 : decode cX10_likeness 23 = .ok (.aload_n 0, 1) := de_2a tX10_likeness_23
def tX10_likeness_24 := Bt_1 (q := 24) tX10_likeness_23 rfl
theorem dX10_likeness_24 : decode cX10_likeness 24 = .ok (.bipush 8, 2) := de_10 tX10_likeness_24 (by decide +kernel)
def tX10_likeness_26 := Bt_2 (q := 26) tX10_likeness_24 rfl
theorem dX10_likeness_26 : decode cX10_likeness 26 = .ok (.iload_n 1, 1) := de_1b tX10_likeness_26
def tX10_likeness_27 := Bt_1 (q := 27) tX10_likeness_26 rfl
theorem dX10_likeness_27 : decode cX10_likeness 27 = .ok (.imul, 1) := de_68 tX10_likeness_27
def tX10_likeness_28 := Bt_1 (q := 28) tX10_likeness_27 rfl
theorem dX10_likeness_28 : decode cX10_likeness 28 = .ok (.iload_n 2, 1) := de_1c tX10_likeness_28
def tX10_likeness_29 := Bt_1 (q := 29) tX10_likeness_28 rfl
theorem dX10_likeness_29 : decode cX10_likeness 29 = .ok (.iadd, 1) := de_60 tX10_likeness_29
def tX10_likeness_30 := Bt_1 (q := 30) tX10_likeness_29 rfl
theorem dX10_likeness_30 : decode cX10_likeness 30 = .ok (.bipush 8, 2) := de_10 tX10_likeness_30 (by decide +kernel)
def tX10_likeness_32 := Bt_2 (q := 32) tX10_likeness_30 rfl
theorem dX10_likeness_32 : decode cX10_likeness 32 = .ok (.iload_n 1, 1) := de_1b tX10_likeness_32
def tX10_likeness_33 := Bt_1 (q := 33) tX10_likeness_32 rfl
theorem dX10_likeness_33 : decode cX10_likeness 33 = .ok (.imul, 1) := de_68 tX10_likeness_33
def tX10_likeness_34 := Bt_1 (q := 34) tX10_likeness_33 rfl
theorem dX10_likeness_34 : decode cX10_likeness 34 = .ok (.iload_n 3, 1) := de_1d tX10_likeness_34
def tX10_likeness_35 := Bt_1 (q := 35) tX10_likeness_34 rfl
theorem dX10_likeness_35 : decode cX10_likeness 35 = .ok (.iadd, 1) := de_60 tX10_likeness_35
def tX10_likeness_36 := Bt_1 (q := 36) tX10_likeness_35 rfl
theorem dX10_likeness_36 : decode cX10_likeness 36 = .ok (.iconst 0, 1) := de_03 tX10_likeness_36
def tX10_likeness_37 := Bt_1 (q := 37) tX10_likeness_36 rfl
theorem dX10_likeness_37 : decode cX10_likeness 37 = .ok (.invokevirtual 377, 3) := de_b6 tX10_likeness_37 (by decide +kernel)
def tX10_likeness_40 := Bt_3 (q := 40) tX10_likeness_37 rfl
theorem dX10_likeness_40 : decode cX10_likeness 40 = .ok (.lreturn, 1) := de_ad tX10_likeness_40
def tX10_chance_0 := Bt_0 cX10_chance
theorem dX10_chance_0 : decode cX10_chance 0 = .ok (.aload_n 0, 1) := de_2a tX10_chance_0
def tX10_chance_1 := Bt_1 (q := 1) tX10_chance_0 rfl
theorem dX10_chance_1 : decode cX10_chance 1 = .ok (.iload_n 1, 1) := de_1b tX10_chance_1
def tX10_chance_2 := Bt_1 (q := 2) tX10_chance_1 rfl
theorem dX10_chance_2 : decode cX10_chance 2 = .ok (.iload_n 2, 1) := de_1c tX10_chance_2
def tX10_chance_3 := Bt_1 (q := 3) tX10_chance_2 rfl
theorem dX10_chance_3 : decode cX10_chance 3 = .ok (.iload_n 3, 1) := de_1d tX10_chance_3
def tX10_chance_4 := Bt_1 (q := 4) tX10_chance_3 rfl
theorem dX10_chance_4 : decode cX10_chance 4 = .ok (.invokevirtual 381, 3) := de_b6 tX10_chance_4 (by decide +kernel)
def tX10_chance_7 := Bt_3 (q := 7) tX10_chance_4 rfl
theorem dX10_chance_7 : decode cX10_chance 7 = .ok (.istore 4, 2) := de_36 tX10_chance_7 (by decide +kernel)
def tX10_chance_9 := Bt_2 (q := 9) tX10_chance_7 rfl
theorem dX10_chance_9 : decode cX10_chance 9 = .ok (.iload 4, 2) := de_15 tX10_chance_9 (by decide +kernel)
def tX10_chance_11 := Bt_2 (q := 11) tX10_chance_9 rfl
theorem dX10_chance_11 : decode cX10_chance 11 = .ok (.ifCond .ge 12, 3) := de_9c tX10_chance_11 (by decide +kernel)
def tX10_chance_14 := Bt_3 (q := 14) tX10_chance_11 rfl
theorem dX10_chance_14 : decode cX10_chance 14 = .ok (.aload_n 0, 1) := de_2a tX10_chance_14
def tX10_chance_15 := Bt_1 (q := 15) tX10_chance_14 rfl
theorem dX10_chance_15 : decode cX10_chance 15 = .ok (.iload 4, 2) := de_15 tX10_chance_15 (by decide +kernel)
def tX10_chance_17 := Bt_2 (q := 17) tX10_chance_15 rfl
theorem dX10_chance_17 : decode cX10_chance 17 = .ok (.invokevirtual 151, 3) := de_b6 tX10_chance_17 (by decide +kernel)
def tX10_chance_20 := Bt_3 (q := 20) tX10_chance_17 rfl
theorem dX10_chance_20 : decode cX10_chance 20 = .ok (.goto 19, 3) := de_a7 tX10_chance_20 (by decide +kernel)
def tX10_chance_23 := Bt_3 (q := 23) tX10_chance_20 rfl
theorem dX10_chance_23 : decode cX10_chance 23 = .ok (.aload_n 0, 1) := de_2a tX10_chance_23
def tX10_chance_24 := Bt_1 (q := 24) tX10_chance_23 rfl
theorem dX10_chance_24 : decode cX10_chance 24 = .ok (.bipush 8, 2) := de_10 tX10_chance_24 (by decide +kernel)
def tX10_chance_26 := Bt_2 (q := 26) tX10_chance_24 rfl
theorem dX10_chance_26 : decode cX10_chance 26 = .ok (.iload_n 1, 1) := de_1b tX10_chance_26
def tX10_chance_27 := Bt_1 (q := 27) tX10_chance_26 rfl
theorem dX10_chance_27 : decode cX10_chance 27 = .ok (.imul, 1) := de_68 tX10_chance_27
def tX10_chance_28 := Bt_1 (q := 28) tX10_chance_27 rfl
theorem dX10_chance_28 : decode cX10_chance 28 = .ok (.iload_n 2, 1) := de_1c tX10_chance_28
def tX10_chance_29 := Bt_1 (q := 29) tX10_chance_28 rfl
theorem dX10_chance_29 : decode cX10_chance 29 = .ok (.iadd, 1) := de_60 tX10_chance_29
def tX10_chance_30 := Bt_1 (q := 30) tX10_chance_29 rfl
theorem dX10_chance_30 : decode cX10_chance 30 = .ok (.bipush 8, 2) := de_10 tX10_chance_30 (by decide +kernel)
def tX10_chance_32 := Bt_2 (q := 32) tX10_chance_30 rfl
theorem dX10_chance_32 : decode cX10_chance 32 = .ok (.iload_n 1, 1) := de_1b tX10_chance_32
def tX10_chance_33 := Bt_1 (q := 33) tX10_chance_32 rfl
theorem dX10_chance_33 : decode cX10_chance 33 = .ok (.imul, 1) := de_68 tX10_chance_33
def tX10_chance_34 := Bt_1 (q := 34) tX10_chance_33 rfl
theorem dX10_chance_34 : decode cX10_chance 34 = .ok (.iload_n 3, 1) := de_1d tX10_chance_34
def tX10_chance_35 := Bt_1 (q := 35) tX10_chance_34 rfl
theorem dX10_chance_35 : decode cX10_chance 35 = .ok (.iadd, 1) := de_60 tX10_chance_35
def tX10_chance_36 := Bt_1 (q := 36) tX10_chance_35 rfl
theorem dX10_chance_36 : decode cX10_chance 36 = .ok (.invokevirtual 385, 3) := de_b6 tX10_chance_36 (by decide +kernel)
def tX10_chance_39 := Bt_3 (q := 39) tX10_chance_36 rfl
theorem dX10_chance_39 : decode cX10_chance 39 = .ok (.ireturn, 1) := de_ac tX10_chance_39
def tX10_areJoined_0 := Bt_0 cX10_areJoined
theorem dX10_areJoined_0 : decode cX10_areJoined 0 = .ok (.aload_n 0, 1) := de_2a tX10_areJoined_0
def tX10_areJoined_1 := Bt_1 (q := 1) tX10_areJoined_0 rfl
theorem dX10_areJoined_1 : decode cX10_areJoined 1 = .ok (.iload_n 1, 1) := de_1b tX10_areJoined_1
def tX10_areJoined_2 := Bt_1 (q := 2) tX10_areJoined_1 rfl
theorem dX10_areJoined_2 : decode cX10_areJoined 2 = .ok (.iload_n 2, 1) := de_1c tX10_areJoined_2
def tX10_areJoined_3 := Bt_1 (q := 3) tX10_areJoined_2 rfl
theorem dX10_areJoined_3 : decode cX10_areJoined 3 = .ok (.iconst 0, 1) := de_03 tX10_areJoined_3
def tX10_areJoined_4 := Bt_1 (q := 4) tX10_areJoined_3 rfl
theorem dX10_areJoined_4 : decode cX10_areJoined 4 = .ok (.invokevirtual 377, 3) := de_b6 tX10_areJoined_4 (by decide +kernel)
def tX10_areJoined_7 := Bt_3 (q := 7) tX10_areJoined_4 rfl
theorem dX10_areJoined_7 : decode cX10_areJoined 7 = .ok (.lstore_n 3, 1) := de_42 tX10_areJoined_7
def tX10_areJoined_8 := Bt_1 (q := 8) tX10_areJoined_7 rfl
theorem dX10_areJoined_8 : decode cX10_areJoined 8 = .ok (.lload_n 3, 1) := de_21 tX10_areJoined_8
def tX10_areJoined_9 := Bt_1 (q := 9) tX10_areJoined_8 rfl
theorem dX10_areJoined_9 : decode cX10_areJoined 9 = .ok (.lconst 0, 1) := de_09 tX10_areJoined_9
def tX10_areJoined_10 := Bt_1 (q := 10) tX10_areJoined_9 rfl
theorem dX10_areJoined_10 : decode cX10_areJoined 10 = .ok (.lcmp, 1) := de_94 tX10_areJoined_10
def tX10_areJoined_11 := Bt_1 (q := 11) tX10_areJoined_10 rfl
theorem dX10_areJoined_11 : decode cX10_areJoined 11 = .ok (.ifCond .eq 35, 3) := de_99 tX10_areJoined_11 (by decide +kernel)
def tX10_areJoined_14 := Bt_3 (q := 14) tX10_areJoined_11 rfl
theorem dX10_areJoined_14 : decode cX10_areJoined 14 = .ok (.aload_n 0, 1) := de_2a tX10_areJoined_14
def tX10_areJoined_15 := Bt_1 (q := 15) tX10_areJoined_14 rfl
theorem dX10_areJoined_15 : decode cX10_areJoined 15 = .ok (.iload_n 1, 1) := de_1b tX10_areJoined_15
def tX10_areJoined_16 := Bt_1 (q := 16) tX10_areJoined_15 rfl
theorem dX10_areJoined_16 : decode cX10_areJoined 16 = .ok (.iload_n 2, 1) := de_1c tX10_areJoined_16
def tX10_areJoined_17 := Bt_1 (q := 17) tX10_areJoined_16 rfl
theorem dX10_areJoined_17 : decode cX10_areJoined 17 = .ok (.invokevirtual 385, 3) := de_b6 tX10_areJoined_17 (by decide +kernel)
def tX10_areJoined_20 := Bt_3 (q := 20) tX10_areJoined_17 rfl
theorem dX10_areJoined_20 : decode cX10_areJoined 20 = .ok (.iconst 1, 1) := de_04 tX10_areJoined_20
def tX10_areJoined_21 := Bt_1 (q := 21) tX10_areJoined_20 rfl
theorem dX10_areJoined_21 : decode cX10_areJoined 21 = .ok (.if_icmp .ne 29, 3) := de_a0 tX10_areJoined_21 (by decide +kernel)
def tX10_areJoined_24 := Bt_3 (q := 24) tX10_areJoined_21 rfl
theorem dX10_areJoined_24 : decode cX10_areJoined 24 = .ok (.ldc2_w 388, 3) := de_14 tX10_areJoined_24 (by decide +kernel)
def tX10_areJoined_27 := Bt_3 (q := 27) tX10_areJoined_24 rfl
theorem dX10_areJoined_27 : decode cX10_areJoined 27 = .ok (.lload_n 3, 1) := de_21 tX10_areJoined_27
def tX10_areJoined_28 := Bt_1 (q := 28) tX10_areJoined_27 rfl
theorem dX10_areJoined_28 : decode cX10_areJoined 28 = .ok (.lmul, 1) := de_69 tX10_areJoined_28
def tX10_areJoined_29 := Bt_1 (q := 29) tX10_areJoined_28 rfl
theorem dX10_areJoined_29 : decode cX10_areJoined 29 = .ok (.aload_n 0, 1) := de_2a tX10_areJoined_29
def tX10_areJoined_30 := Bt_1 (q := 30) tX10_areJoined_29 rfl
theorem dX10_areJoined_30 : decode cX10_areJoined 30 = .ok (.iload_n 1, 1) := de_1b tX10_areJoined_30
def tX10_areJoined_31 := Bt_1 (q := 31) tX10_areJoined_30 rfl
theorem dX10_areJoined_31 : decode cX10_areJoined 31 = .ok (.invokevirtual 184, 3) := de_b6 tX10_areJoined_31 (by decide +kernel)
def tX10_areJoined_34 := Bt_3 (q := 34) tX10_areJoined_31 rfl
theorem dX10_areJoined_34 : decode cX10_areJoined 34 = .ok (.i2l, 1) := de_85 tX10_areJoined_34
def tX10_areJoined_35 := Bt_1 (q := 35) tX10_areJoined_34 rfl
theorem dX10_areJoined_35 : decode cX10_areJoined 35 = .ok (.aload_n 0, 1) := de_2a tX10_areJoined_35
def tX10_areJoined_36 := Bt_1 (q := 36) tX10_areJoined_35 rfl
theorem dX10_areJoined_36 : decode cX10_areJoined 36 = .ok (.iload_n 2, 1) := de_1c tX10_areJoined_36
def tX10_areJoined_37 := Bt_1 (q := 37) tX10_areJoined_36 rfl
theorem dX10_areJoined_37 : decode cX10_areJoined 37 = .ok (.invokevirtual 184, 3) := de_b6 tX10_areJoined_37 (by decide +kernel)
def tX10_areJoined_40 := Bt_3 (q := 40) tX10_areJoined_37 rfl
theorem dX10_areJoined_40 : decode cX10_areJoined 40 = .ok (.i2l, 1) := de_85 tX10_areJoined_40
def tX10_areJoined_41 := Bt_1 (q := 41) tX10_areJoined_40 rfl
theorem dX10_areJoined_41 : decode cX10_areJoined 41 = .ok (.lmul, 1) := de_69 tX10_areJoined_41
def tX10_areJoined_42 := Bt_1 (q := 42) tX10_areJoined_41 rfl
theorem dX10_areJoined_42 : decode cX10_areJoined 42 = .ok (.lcmp, 1) := de_94 tX10_areJoined_42
def tX10_areJoined_43 := Bt_1 (q := 43) tX10_areJoined_42 rfl
theorem dX10_areJoined_43 : decode cX10_areJoined 43 = .ok (.ifCond .gt 7, 3) := de_9d tX10_areJoined_43 (by decide +kernel)
def tX10_areJoined_46 := Bt_3 (q := 46) tX10_areJoined_43 rfl
theorem dX10_areJoined_46 : decode cX10_areJoined 46 = .ok (.iconst 1, 1) := de_04 tX10_areJoined_46
def tX10_areJoined_47 := Bt_1 (q := 47) tX10_areJoined_46 rfl
theorem dX10_areJoined_47 : decode cX10_areJoined 47 = .ok (.goto 4, 3) := de_a7 tX10_areJoined_47 (by decide +kernel)
def tX10_areJoined_50 := Bt_3 (q := 50) tX10_areJoined_47 rfl
theorem dX10_areJoined_50 : decode cX10_areJoined 50 = .ok (.iconst 0, 1) := de_03 tX10_areJoined_50
def tX10_areJoined_51 := Bt_1 (q := 51) tX10_areJoined_50 rfl
theorem dX10_areJoined_51 : decode cX10_areJoined 51 = .ok (.ireturn, 1) := de_ac tX10_areJoined_51
def tX10_ring_0 := Bt_0 cX10_ring
theorem dX10_ring_0 : decode cX10_ring 0 = .ok (.aload_n 0, 1) := de_2a tX10_ring_0
def tX10_ring_1 := Bt_1 (q := 1) tX10_ring_0 rfl
theorem dX10_ring_1 : decode cX10_ring 1 = .ok (.iload_n 1, 1) := de_1b tX10_ring_1
def tX10_ring_2 := Bt_1 (q := 2) tX10_ring_1 rfl
theorem dX10_ring_2 : decode cX10_ring 2 = .ok (.invokevirtual 170, 3) := de_b6 tX10_ring_2 (by decide +kernel)
def tX10_ring_5 := Bt_3 (q := 5) tX10_ring_2 rfl
theorem dX10_ring_5 : decode cX10_ring 5 = .ok (.ifCond .eq 10, 3) := de_99 tX10_ring_5 (by decide +kernel)
def tX10_ring_8 := Bt_3 (q := 8) tX10_ring_5 rfl
theorem dX10_ring_8 : decode cX10_ring 8 = .ok (.iload_n 2, 1) := de_1c tX10_ring_8
def tX10_ring_9 := Bt_1 (q := 9) tX10_ring_8 rfl
theorem dX10_ring_9 : decode cX10_ring 9 = .ok (.invokestatic 166, 3) := de_b8 tX10_ring_9 (by decide +kernel)
def tX10_ring_12 := Bt_3 (q := 12) tX10_ring_9 rfl
theorem dX10_ring_12 : decode cX10_ring 12 = .ok (.ifCond .ne 9, 3) := de_9a tX10_ring_12 (by decide +kernel)
def tX10_ring_15 := Bt_3 (q := 15) tX10_ring_12 rfl
theorem dX10_ring_15 : decode cX10_ring 15 = .ok (.aload_n 0, 1) := de_2a tX10_ring_15
def tX10_ring_16 := Bt_1 (q := 16) tX10_ring_15 rfl
theorem dX10_ring_16 : decode cX10_ring 16 = .ok (.iconst (-1), 1) := de_02 tX10_ring_16
def tX10_ring_17 := Bt_1 (q := 17) tX10_ring_16 rfl
theorem dX10_ring_17 : decode cX10_ring 17 = .ok (.invokevirtual 151, 3) := de_b6 tX10_ring_17 (by decide +kernel)
def tX10_ring_20 := Bt_3 (q := 20) tX10_ring_17 rfl
theorem dX10_ring_20 : decode cX10_ring 20 = .ok (.ireturn, 1) := de_ac tX10_ring_20
def tX10_ring_21 := Bt_1 (q := 21) tX10_ring_20 rfl
theorem dX10_ring_21 : decode cX10_ring 21 = .ok (.aload_n 0, 1) := de_2a tX10_ring_21
def tX10_ring_22 := Bt_1 (q := 22) tX10_ring_21 rfl
theorem dX10_ring_22 : decode cX10_ring 22 = .ok (.getfield 20, 3) := de_b4 tX10_ring_22 (by decide +kernel)
def tX10_ring_25 := Bt_3 (q := 25) tX10_ring_22 rfl
theorem dX10_ring_25 : decode cX10_ring 25 = .ok (.bipush 8, 2) := de_10 tX10_ring_25 (by decide +kernel)
def tX10_ring_27 := Bt_2 (q := 27) tX10_ring_25 rfl
theorem dX10_ring_27 : decode cX10_ring 27 = .ok (.iload_n 1, 1) := de_1b tX10_ring_27
def tX10_ring_28 := Bt_1 (q := 28) tX10_ring_27 rfl
theorem dX10_ring_28 : decode cX10_ring 28 = .ok (.imul, 1) := de_68 tX10_ring_28
def tX10_ring_29 := Bt_1 (q := 29) tX10_ring_28 rfl
theorem dX10_ring_29 : decode cX10_ring 29 = .ok (.iload_n 2, 1) := de_1c tX10_ring_29
def tX10_ring_30 := Bt_1 (q := 30) tX10_ring_29 rfl
theorem dX10_ring_30 : decode cX10_ring 30 = .ok (.iadd, 1) := de_60 tX10_ring_30
def tX10_ring_31 := Bt_1 (q := 31) tX10_ring_30 rfl
theorem dX10_ring_31 : decode cX10_ring 31 = .ok (.baload, 1) := de_33 tX10_ring_31
def tX10_ring_32 := Bt_1 (q := 32) tX10_ring_31 rfl
theorem dX10_ring_32 : decode cX10_ring 32 = .ok (.ifCond .ne 10, 3) := de_9a tX10_ring_32 (by decide +kernel)
def tX10_ring_35 := Bt_3 (q := 35) tX10_ring_32 rfl
theorem dX10_ring_35 : decode cX10_ring 35 = .ok (.aload_n 0, 1) := de_2a tX10_ring_35
def tX10_ring_36 := Bt_1 (q := 36) tX10_ring_35 rfl
theorem dX10_ring_36 : decode cX10_ring 36 = .ok (.bipush (-5), 2) := de_10 tX10_ring_36 (by decide +kernel)
def tX10_ring_38 := Bt_2 (q := 38) tX10_ring_36 rfl
theorem dX10_ring_38 : decode cX10_ring 38 = .ok (.invokevirtual 151, 3) := de_b6 tX10_ring_38 (by decide +kernel)
def tX10_ring_41 := Bt_3 (q := 41) tX10_ring_38 rfl
theorem dX10_ring_41 : decode cX10_ring 41 = .ok (.ireturn, 1) := de_ac tX10_ring_41
def tX10_ring_42 := Bt_1 (q := 42) tX10_ring_41 rfl
theorem dX10_ring_42 : decode cX10_ring 42 = .ok (.iconst 0, 1) := de_03 tX10_ring_42
def tX10_ring_43 := Bt_1 (q := 43) tX10_ring_42 rfl
theorem dX10_ring_43 : decode cX10_ring 43 = .ok (.istore_n 3, 1) := de_3e tX10_ring_43
def tX10_ring_44 := Bt_1 (q := 44) tX10_ring_43 rfl
theorem dX10_ring_44 : decode cX10_ring 44 = .ok (.iload_n 3, 1) := de_1d tX10_ring_44
def tX10_ring_45 := Bt_1 (q := 45) tX10_ring_44 rfl
theorem dX10_ring_45 : decode cX10_ring 45 = .ok (.bipush 8, 2) := de_10 tX10_ring_45 (by decide +kernel)
def tX10_ring_47 := Bt_2 (q := 47) tX10_ring_45 rfl
theorem dX10_ring_47 : decode cX10_ring 47 = .ok (.if_icmp .ge 16, 3) := de_a2 tX10_ring_47 (by decide +kernel)
def tX10_ring_50 := Bt_3 (q := 50) tX10_ring_47 rfl
theorem dX10_ring_50 : decode cX10_ring 50 = .ok (.aload_n 0, 1) := de_2a tX10_ring_50
def tX10_ring_51 := Bt_1 (q := 51) tX10_ring_50 rfl
theorem dX10_ring_51 : decode cX10_ring 51 = .ok (.getfield 124, 3) := de_b4 tX10_ring_51 (by decide +kernel)
def tX10_ring_54 := Bt_3 (q := 54) tX10_ring_51 rfl
theorem dX10_ring_54 : decode cX10_ring 54 = .ok (.iload_n 3, 1) := de_1d tX10_ring_54
def tX10_ring_55 := Bt_1 (q := 55) tX10_ring_54 rfl
theorem dX10_ring_55 : decode cX10_ring 55 = .ok (.iload_n 3, 1) := de_1d tX10_ring_55
def tX10_ring_56 := Bt_1 (q := 56) tX10_ring_55 rfl
theorem dX10_ring_56 : decode cX10_ring 56 = .ok (.iastore, 1) := de_4f tX10_ring_56
def tX10_ring_57 := Bt_1 (q := 57) tX10_ring_56 rfl
theorem dX10_ring_57 : decode cX10_ring 57 = .ok (.iinc 3 1, 3) := de_84 tX10_ring_57 (by decide +kernel) (by decide +kernel)
def tX10_ring_60 := Bt_3 (q := 60) tX10_ring_57 rfl
theorem dX10_ring_60 : decode cX10_ring 60 = .ok (.goto (-16), 3) := de_a7 tX10_ring_60 (by decide +kernel)
def tX10_ring_63 := Bt_3 (q := 63) tX10_ring_60 rfl
theorem dX10_ring_63 : decode cX10_ring 63 = .ok (.iconst 1, 1) := de_04 tX10_ring_63
def tX10_ring_64 := Bt_1 (q := 64) tX10_ring_63 rfl
theorem dX10_ring_64 : decode cX10_ring 64 = .ok (.istore_n 3, 1) := de_3e tX10_ring_64
def tX10_ring_65 := Bt_1 (q := 65) tX10_ring_64 rfl
theorem dX10_ring_65 : decode cX10_ring 65 = .ok (.iload_n 3, 1) := de_1d tX10_ring_65
def tX10_ring_66 := Bt_1 (q := 66) tX10_ring_65 rfl
theorem dX10_ring_66 : decode cX10_ring 66 = .ok (.ifCond .eq 143, 3) := de_99 tX10_ring_66 (by decide +kernel)
def tX10_ring_69 := Bt_3 (q := 69) tX10_ring_66 rfl
theorem dX10_ring_69 : decode cX10_ring 69 = .ok (.iconst 0, 1) := de_03 tX10_ring_69
def tX10_ring_70 := Bt_1 (q := 70) tX10_ring_69 rfl
theorem dX10_ring_70 : decode cX10_ring 70 = .ok (.istore_n 3, 1) := de_3e tX10_ring_70
def tX10_ring_71 := Bt_1 (q := 71) tX10_ring_70 rfl
theorem dX10_ring_71 : decode cX10_ring 71 = .ok (.iconst 0, 1) := de_03 tX10_ring_71
def tX10_ring_72 := Bt_1 (q := 72) tX10_ring_71 rfl
theorem dX10_ring_72 : decode cX10_ring 72 = .ok (.istore 4, 2) := de_36 tX10_ring_72 (by decide +kernel)
def tX10_ring_74 := Bt_2 (q := 74) tX10_ring_72 rfl
theorem dX10_ring_74 : decode cX10_ring 74 = .ok (.iload 4, 2) := de_15 tX10_ring_74 (by decide +kernel)
def tX10_ring_76 := Bt_2 (q := 76) tX10_ring_74 rfl
theorem dX10_ring_76 : decode cX10_ring 76 = .ok (.bipush 8, 2) := de_10 tX10_ring_76 (by decide +kernel)
def tX10_ring_78 := Bt_2 (q := 78) tX10_ring_76 rfl
theorem dX10_ring_78 : decode cX10_ring 78 = .ok (.if_icmp .ge 128, 3) := de_a2 tX10_ring_78 (by decide +kernel)
def tX10_ring_81 := Bt_3 (q := 81) tX10_ring_78 rfl
theorem dX10_ring_81 : decode cX10_ring 81 = .ok (.iconst 0, 1) := de_03 tX10_ring_81
def tX10_ring_82 := Bt_1 (q := 82) tX10_ring_81 rfl
theorem dX10_ring_82 : decode cX10_ring 82 = .ok (.istore 5, 2) := de_36 tX10_ring_82 (by decide +kernel)
def tX10_ring_84 := Bt_2 (q := 84) tX10_ring_82 rfl
theorem dX10_ring_84 : decode cX10_ring 84 = .ok (.iload 5, 2) := de_15 tX10_ring_84 (by decide +kernel)
def tX10_ring_86 := Bt_2 (q := 86) tX10_ring_84 rfl
theorem dX10_ring_86 : decode cX10_ring 86 = .ok (.bipush 8, 2) := de_10 tX10_ring_86 (by decide +kernel)
def tX10_ring_88 := Bt_2 (q := 88) tX10_ring_86 rfl
theorem dX10_ring_88 : decode cX10_ring 88 = .ok (.if_icmp .ge 112, 3) := de_a2 tX10_ring_88 (by decide +kernel)
def tX10_ring_91 := Bt_3 (q := 91) tX10_ring_88 rfl
theorem dX10_ring_91 : decode cX10_ring 91 = .ok (.iload 4, 2) := de_15 tX10_ring_91 (by decide +kernel)
def tX10_ring_93 := Bt_2 (q := 93) tX10_ring_91 rfl
theorem dX10_ring_93 : decode cX10_ring 93 = .ok (.iload 5, 2) := de_15 tX10_ring_93 (by decide +kernel)
def tX10_ring_95 := Bt_2 (q := 95) tX10_ring_93 rfl
theorem dX10_ring_95 : decode cX10_ring 95 = .ok (.if_icmp .eq 37, 3) := de_9f tX10_ring_95 (by decide +kernel)
def tX10_ring_98 := Bt_3 (q := 98) tX10_ring_95 rfl
theorem dX10_ring_98 : decode cX10_ring 98 = .ok (.aload_n 0, 1) := de_2a tX10_ring_98
def tX10_ring_99 := Bt_1 (q := 99) tX10_ring_98 rfl
theorem dX10_ring_99 : decode cX10_ring 99 = .ok (.getfield 20, 3) := de_b4 tX10_ring_99 (by decide +kernel)
def tX10_ring_102 := Bt_3 (q := 102) tX10_ring_99 rfl
theorem dX10_ring_102 : decode cX10_ring 102 = .ok (.bipush 8, 2) := de_10 tX10_ring_102 (by decide +kernel)
def tX10_ring_104 := Bt_2 (q := 104) tX10_ring_102 rfl
theorem dX10_ring_104 : decode cX10_ring 104 = .ok (.iload_n 1, 1) := de_1b tX10_ring_104
def tX10_ring_105 := Bt_1 (q := 105) tX10_ring_104 rfl
theorem dX10_ring_105 : decode cX10_ring 105 = .ok (.imul, 1) := de_68 tX10_ring_105
def tX10_ring_106 := Bt_1 (q := 106) tX10_ring_105 rfl
theorem dX10_ring_106 : decode cX10_ring 106 = .ok (.iload 4, 2) := de_15 tX10_ring_106 (by decide +kernel)
def tX10_ring_108 := Bt_2 (q := 108) tX10_ring_106 rfl
theorem dX10_ring_108 : decode cX10_ring 108 = .ok (.iadd, 1) := de_60 tX10_ring_108
def tX10_ring_109 := Bt_1 (q := 109) tX10_ring_108 rfl
theorem dX10_ring_109 : decode cX10_ring 109 = .ok (.baload, 1) := de_33 tX10_ring_109
def tX10_ring_110 := Bt_1 (q := 110) tX10_ring_109 rfl
theorem dX10_ring_110 : decode cX10_ring 110 = .ok (.ifCond .eq 22, 3) := de_99 tX10_ring_110 (by decide +kernel)
def tX10_ring_113 := Bt_3 (q := 113) tX10_ring_110 rfl
theorem dX10_ring_113 : decode cX10_ring 113 = .ok (.aload_n 0, 1) := de_2a tX10_ring_113
def tX10_ring_114 := Bt_1 (q := 114) tX10_ring_113 rfl
theorem dX10_ring_114 : decode cX10_ring 114 = .ok (.getfield 20, 3) := de_b4 tX10_ring_114 (by decide +kernel)
def tX10_ring_117 := Bt_3 (q := 117) tX10_ring_114 rfl
theorem dX10_ring_117 : decode cX10_ring 117 = .ok (.bipush 8, 2) := de_10 tX10_ring_117 (by decide +kernel)
def tX10_ring_119 := Bt_2 (q := 119) tX10_ring_117 rfl
theorem dX10_ring_119 : decode cX10_ring 119 = .ok (.iload_n 1, 1) := de_1b tX10_ring_119
def tX10_ring_120 := Bt_1 (q := 120) tX10_ring_119 rfl
theorem dX10_ring_120 : decode cX10_ring 120 = .ok (.imul, 1) := de_68 tX10_ring_120
def tX10_ring_121 := Bt_1 (q := 121) tX10_ring_120 rfl
theorem dX10_ring_121 : decode cX10_ring 121 = .ok (.iload 5, 2) := de_15 tX10_ring_121 (by decide +kernel)
def tX10_ring_123 := Bt_2 (q := 123) tX10_ring_121 rfl
theorem dX10_ring_123 : decode cX10_ring 123 = .ok (.iadd, 1) := de_60 tX10_ring_123
def tX10_ring_124 := Bt_1 (q := 124) tX10_ring_123 rfl
theorem dX10_ring_124 : decode cX10_ring 124 = .ok (.baload, 1) := de_33 tX10_ring_124
def tX10_ring_125 := Bt_1 (q := 125) tX10_ring_124 rfl
theorem dX10_ring_125 : decode cX10_ring 125 = .ok (.ifCond .eq 7, 3) := de_99 tX10_ring_125 (by decide +kernel)
def tX10_ring_128 := Bt_3 (q := 128) tX10_ring_125 rfl
theorem dX10_ring_128 : decode cX10_ring 128 = .ok (.iconst 1, 1) := de_04 tX10_ring_128
def tX10_ring_129 := Bt_1 (q := 129) tX10_ring_128 rfl
theorem dX10_ring_129 : decode cX10_ring 129 = .ok (.goto 4, 3) := de_a7 tX10_ring_129 (by decide +kernel)
def tX10_ring_132 := Bt_3 (q := 132) tX10_ring_129 rfl
theorem dX10_ring_132 : decode cX10_ring 132 = .ok (.iconst 0, 1) := de_03 tX10_ring_132
def tX10_ring_133 := Bt_1 (q := 133) tX10_ring_132 rfl
theorem dX10_ring_133 : decode cX10_ring 133 = .ok (.istore 6, 2) := de_36 tX10_ring_133 (by decide +kernel)
def tX10_ring_135 := Bt_2 (q := 135) tX10_ring_133 rfl
theorem dX10_ring_135 : decode cX10_ring 135 = .ok (.iload 6, 2) := de_15 tX10_ring_135 (by decide +kernel)
def tX10_ring_137 := Bt_2 (q := 137) tX10_ring_135 rfl
theorem dX10_ring_137 : decode cX10_ring 137 = .ok (.ifCond .eq 57, 3) := de_99 tX10_ring_137 (by decide +kernel)
def tX10_ring_140 := Bt_3 (q := 140) tX10_ring_137 rfl
theorem dX10_ring_140 : decode cX10_ring 140 = .ok (.aload_n 0, 1) := de_2a tX10_ring_140
def tX10_ring_141 := Bt_1 (q := 141) tX10_ring_140 rfl
theorem dX10_ring_141 : decode cX10_ring 141 = .ok (.getfield 124, 3) := de_b4 tX10_ring_141 (by decide +kernel)
def tX10_ring_144 := Bt_3 (q := 144) tX10_ring_141 rfl
theorem dX10_ring_144 : decode cX10_ring 144 = .ok (.iload 4, 2) := de_15 tX10_ring_144 (by decide +kernel)
def tX10_ring_146 := Bt_2 (q := 146) tX10_ring_144 rfl
theorem dX10_ring_146 : decode cX10_ring 146 = .ok (.iaload, 1) := de_2e tX10_ring_146
def tX10_ring_147 := Bt_1 (q := 147) tX10_ring_146 rfl
theorem dX10_ring_147 : decode cX10_ring 147 = .ok (.aload_n 0, 1) := de_2a tX10_ring_147
def tX10_ring_148 := Bt_1 (q := 148) tX10_ring_147 rfl
theorem dX10_ring_148 : decode cX10_ring 148 = .ok (.getfield 124, 3) := de_b4 tX10_ring_148 (by decide +kernel)
def tX10_ring_151 := Bt_3 (q := 151) tX10_ring_148 rfl
theorem dX10_ring_151 : decode cX10_ring 151 = .ok (.iload 5, 2) := de_15 tX10_ring_151 (by decide +kernel)
def tX10_ring_153 := Bt_2 (q := 153) tX10_ring_151 rfl
theorem dX10_ring_153 : decode cX10_ring 153 = .ok (.iaload, 1) := de_2e tX10_ring_153
def tX10_ring_154 := Bt_1 (q := 154) tX10_ring_153 rfl
theorem dX10_ring_154 : decode cX10_ring 154 = .ok (.if_icmp .ge 40, 3) := de_a2 tX10_ring_154 (by decide +kernel)
def tX10_ring_157 := Bt_3 (q := 157) tX10_ring_154 rfl
theorem dX10_ring_157 : decode cX10_ring 157 = .ok (.aload_n 0, 1) := de_2a tX10_ring_157
def tX10_ring_158 := Bt_1 (q := 158) tX10_ring_157 rfl
theorem dX10_ring_158 : decode cX10_ring 158 = .ok (.bipush 8, 2) := de_10 tX10_ring_158 (by decide +kernel)
def tX10_ring_160 := Bt_2 (q := 160) tX10_ring_158 rfl
theorem dX10_ring_160 : decode cX10_ring 160 = .ok (.iload_n 1, 1) := de_1b tX10_ring_160
def tX10_ring_161 := Bt_1 (q := 161) tX10_ring_160 rfl
theorem dX10_ring_161 : decode cX10_ring 161 = .ok (.imul, 1) := de_68 tX10_ring_161
def tX10_ring_162 := Bt_1 (q := 162) tX10_ring_161 rfl
theorem dX10_ring_162 : decode cX10_ring 162 = .ok (.iload 4, 2) := de_15 tX10_ring_162 (by decide +kernel)
def tX10_ring_164 := Bt_2 (q := 164) tX10_ring_162 rfl
theorem dX10_ring_164 : decode cX10_ring 164 = .ok (.iadd, 1) := de_60 tX10_ring_164
def tX10_ring_165 := Bt_1 (q := 165) tX10_ring_164 rfl
theorem dX10_ring_165 : decode cX10_ring 165 = .ok (.bipush 8, 2) := de_10 tX10_ring_165 (by decide +kernel)
def tX10_ring_167 := Bt_2 (q := 167) tX10_ring_165 rfl
theorem dX10_ring_167 : decode cX10_ring 167 = .ok (.iload_n 1, 1) := de_1b tX10_ring_167
def tX10_ring_168 := Bt_1 (q := 168) tX10_ring_167 rfl
theorem dX10_ring_168 : decode cX10_ring 168 = .ok (.imul, 1) := de_68 tX10_ring_168
def tX10_ring_169 := Bt_1 (q := 169) tX10_ring_168 rfl
theorem dX10_ring_169 : decode cX10_ring 169 = .ok (.iload 5, 2) := de_15 tX10_ring_169 (by decide +kernel)
def tX10_ring_171 := Bt_2 (q := 171) tX10_ring_169 rfl
theorem dX10_ring_171 : decode cX10_ring 171 = .ok (.iadd, 1) := de_60 tX10_ring_171
def tX10_ring_172 := Bt_1 (q := 172) tX10_ring_171 rfl
theorem dX10_ring_172 : decode cX10_ring 172 = .ok (.invokevirtual 390, 3) := de_b6 tX10_ring_172 (by decide +kernel)
def tX10_ring_175 := Bt_3 (q := 175) tX10_ring_172 rfl
theorem dX10_ring_175 : decode cX10_ring 175 = .ok (.ifCond .eq 19, 3) := de_99 tX10_ring_175 (by decide +kernel)
def tX10_ring_178 := Bt_3 (q := 178) tX10_ring_175 rfl
theorem dX10_ring_178 : decode cX10_ring 178 = .ok (.aload_n 0, 1) := de_2a tX10_ring_178
def tX10_ring_179 := Bt_1 (q := 179) tX10_ring_178 rfl
theorem dX10_ring_179 : decode cX10_ring 179 = .ok (.getfield 124, 3) := de_b4 tX10_ring_179 (by decide +kernel)
def tX10_ring_182 := Bt_3 (q := 182) tX10_ring_179 rfl
theorem dX10_ring_182 : decode cX10_ring 182 = .ok (.iload 5, 2) := de_15 tX10_ring_182 (by decide +kernel)
def tX10_ring_184 := Bt_2 (q := 184) tX10_ring_182 rfl
theorem dX10_ring_184 : decode cX10_ring 184 = .ok (.aload_n 0, 1) := de_2a tX10_ring_184
def tX10_ring_185 := Bt_1 (q := 185) tX10_ring_184 rfl
theorem dX10_ring_185 : decode cX10_ring 185 = .ok (.getfield 124, 3) := de_b4 tX10_ring_185 (by decide +kernel)
def tX10_ring_188 := Bt_3 (q := 188) tX10_ring_185 rfl
theorem dX10_ring_188 : decode cX10_ring 188 = .ok (.iload 4, 2) := de_15 tX10_ring_188 (by decide +kernel)
def tX10_ring_190 := Bt_2 (q := 190) tX10_ring_188 rfl
theorem dX10_ring_190 : decode cX10_ring 190 = .ok (.iaload, 1) := de_2e tX10_ring_190
def tX10_ring_191 := Bt_1 (q := 191) tX10_ring_190 rfl
theorem dX10_ring_191 : decode cX10_ring 191 = .ok (.iastore, 1) := de_4f tX10_ring_191
def tX10_ring_192 := Bt_1 (q := 192) tX10_ring_191 rfl
theorem dX10_ring_192 : decode cX10_ring 192 = .ok (.iconst 1, 1) := de_04 tX10_ring_192
def tX10_ring_193 := Bt_1 (q := 193) tX10_ring_192 rfl
theorem dX10_ring_193 : decode cX10_ring 193 = .ok (.istore_n 3, 1) := de_3e tX10_ring_193
def tX10_ring_194 := Bt_1 (q := 194) tX10_ring_193 rfl
theorem dX10_ring_194 : decode cX10_ring 194 = .ok (.iinc 5 1, 3) := de_84 tX10_ring_194 (by decide +kernel) (by decide +kernel)
def tX10_ring_197 := Bt_3 (q := 197) tX10_ring_194 rfl
theorem dX10_ring_197 : decode cX10_ring 197 = .ok (.goto (-113), 3) := de_a7 tX10_ring_197 (by decide +kernel)
def tX10_ring_200 := Bt_3 (q := 200) tX10_ring_197 rfl
theorem dX10_ring_200 : decode cX10_ring 200 = .ok (.iinc 4 1, 3) := de_84 tX10_ring_200 (by decide +kernel) (by decide +kernel)
def tX10_ring_203 := Bt_3 (q := 203) tX10_ring_200 rfl
theorem dX10_ring_203 : decode cX10_ring 203 = .ok (.goto (-129), 3) := de_a7 tX10_ring_203 (by decide +kernel)
def tX10_ring_206 := Bt_3 (q := 206) tX10_ring_203 rfl
theorem dX10_ring_206 : decode cX10_ring 206 = .ok (.goto (-141), 3) := de_a7 tX10_ring_206 (by decide +kernel)
def tX10_ring_209 := Bt_3 (q := 209) tX10_ring_206 rfl
theorem dX10_ring_209 : decode cX10_ring 209 = .ok (.aload_n 0, 1) := de_2a tX10_ring_209
def tX10_ring_210 := Bt_1 (q := 210) tX10_ring_209 rfl
theorem dX10_ring_210 : decode cX10_ring 210 = .ok (.getfield 124, 3) := de_b4 tX10_ring_210 (by decide +kernel)
def tX10_ring_213 := Bt_3 (q := 213) tX10_ring_210 rfl
theorem dX10_ring_213 : decode cX10_ring 213 = .ok (.iload_n 2, 1) := de_1c tX10_ring_213
def tX10_ring_214 := Bt_1 (q := 214) tX10_ring_213 rfl
theorem dX10_ring_214 : decode cX10_ring 214 = .ok (.iaload, 1) := de_2e tX10_ring_214
def tX10_ring_215 := Bt_1 (q := 215) tX10_ring_214 rfl
theorem dX10_ring_215 : decode cX10_ring 215 = .ok (.ireturn, 1) := de_ac tX10_ring_215
def tX10_memberOf_0 := Bt_0 cX10_memberOf
theorem dX10_memberOf_0 : decode cX10_memberOf 0 = .ok (.iconst 0, 1) := de_03 tX10_memberOf_0
def tX10_memberOf_1 := Bt_1 (q := 1) tX10_memberOf_0 rfl
theorem dX10_memberOf_1 : decode cX10_memberOf 1 = .ok (.istore_n 2, 1) := de_3d tX10_memberOf_1
def tX10_memberOf_2 := Bt_1 (q := 2) tX10_memberOf_1 rfl
theorem dX10_memberOf_2 : decode cX10_memberOf 2 = .ok (.iload_n 2, 1) := de_1c tX10_memberOf_2
def tX10_memberOf_3 := Bt_1 (q := 3) tX10_memberOf_2 rfl
theorem dX10_memberOf_3 : decode cX10_memberOf 3 = .ok (.aload_n 0, 1) := de_2a tX10_memberOf_3
def tX10_memberOf_4 := Bt_1 (q := 4) tX10_memberOf_3 rfl
theorem dX10_memberOf_4 : decode cX10_memberOf 4 = .ok (.getfield 394, 3) := de_b4 tX10_memberOf_4 (by decide +kernel)
def tX10_memberOf_7 := Bt_3 (q := 7) tX10_memberOf_4 rfl
theorem dX10_memberOf_7 : decode cX10_memberOf 7 = .ok (.if_icmp .ge 21, 3) := de_a2 tX10_memberOf_7 (by decide +kernel)
def tX10_memberOf_10 := Bt_3 (q := 10) tX10_memberOf_7 rfl
theorem dX10_memberOf_10 : decode cX10_memberOf 10 = .ok (.aload_n 0, 1) := de_2a tX10_memberOf_10
def tX10_memberOf_11 := Bt_1 (q := 11) tX10_memberOf_10 rfl
theorem dX10_memberOf_11 : decode cX10_memberOf 11 = .ok (.getfield 127, 3) := de_b4 tX10_memberOf_11 (by decide +kernel)
def tX10_memberOf_14 := Bt_3 (q := 14) tX10_memberOf_11 rfl
theorem dX10_memberOf_14 : decode cX10_memberOf 14 = .ok (.iload_n 2, 1) := de_1c tX10_memberOf_14
def tX10_memberOf_15 := Bt_1 (q := 15) tX10_memberOf_14 rfl
theorem dX10_memberOf_15 : decode cX10_memberOf 15 = .ok (.iaload, 1) := de_2e tX10_memberOf_15
def tX10_memberOf_16 := Bt_1 (q := 16) tX10_memberOf_15 rfl
theorem dX10_memberOf_16 : decode cX10_memberOf 16 = .ok (.iload_n 1, 1) := de_1b tX10_memberOf_16
def tX10_memberOf_17 := Bt_1 (q := 17) tX10_memberOf_16 rfl
theorem dX10_memberOf_17 : decode cX10_memberOf 17 = .ok (.if_icmp .ne 5, 3) := de_a0 tX10_memberOf_17 (by decide +kernel)
def tX10_memberOf_20 := Bt_3 (q := 20) tX10_memberOf_17 rfl
theorem dX10_memberOf_20 : decode cX10_memberOf 20 = .ok (.iload_n 2, 1) := de_1c tX10_memberOf_20
def tX10_memberOf_21 := Bt_1 (q := 21) tX10_memberOf_20 rfl
theorem dX10_memberOf_21 : decode cX10_memberOf 21 = .ok (.ireturn, 1) := de_ac tX10_memberOf_21
def tX10_memberOf_22 := Bt_1 (q := 22) tX10_memberOf_21 rfl
theorem dX10_memberOf_22 : decode cX10_memberOf 22 = .ok (.iinc 2 1, 3) := de_84 tX10_memberOf_22 (by decide +kernel) (by decide +kernel)
def tX10_memberOf_25 := Bt_3 (q := 25) tX10_memberOf_22 rfl
theorem dX10_memberOf_25 : decode cX10_memberOf 25 = .ok (.goto (-23), 3) := de_a7 tX10_memberOf_25 (by decide +kernel)
def tX10_memberOf_28 := Bt_3 (q := 28) tX10_memberOf_25 rfl
theorem dX10_memberOf_28 : decode cX10_memberOf 28 = .ok (.iconst (-1), 1) := de_02 tX10_memberOf_28
def tX10_memberOf_29 := Bt_1 (q := 29) tX10_memberOf_28 rfl
theorem dX10_memberOf_29 : decode cX10_memberOf 29 = .ok (.ireturn, 1) := de_ac tX10_memberOf_29
def tX10_join_0 := Bt_0 cX10_join
theorem dX10_join_0 : decode cX10_join 0 = .ok (.iload_n 1, 1) := de_1b tX10_join_0
def tX10_join_1 := Bt_1 (q := 1) tX10_join_0 rfl
theorem dX10_join_1 : decode cX10_join 1 = .ok (.invokestatic 166, 3) := de_b8 tX10_join_1 (by decide +kernel)
def tX10_join_4 := Bt_3 (q := 4) tX10_join_1 rfl
theorem dX10_join_4 : decode cX10_join 4 = .ok (.ifCond .ne 9, 3) := de_9a tX10_join_4 (by decide +kernel)
def tX10_join_7 := Bt_3 (q := 7) tX10_join_4 rfl
theorem dX10_join_7 : decode cX10_join 7 = .ok (.aload_n 0, 1) := de_2a tX10_join_7
def tX10_join_8 := Bt_1 (q := 8) tX10_join_7 rfl
theorem dX10_join_8 : decode cX10_join 8 = .ok (.iconst (-1), 1) := de_02 tX10_join_8
def tX10_join_9 := Bt_1 (q := 9) tX10_join_8 rfl
theorem dX10_join_9 : decode cX10_join 9 = .ok (.invokevirtual 151, 3) := de_b6 tX10_join_9 (by decide +kernel)
def tX10_join_12 := Bt_3 (q := 12) tX10_join_9 rfl
theorem dX10_join_12 : decode cX10_join 12 = .ok (.ireturn, 1) := de_ac tX10_join_12
def tX10_join_13 := Bt_1 (q := 13) tX10_join_12 rfl
theorem dX10_join_13 : decode cX10_join 13 = .ok (.aload_n 0, 1) := de_2a tX10_join_13
def tX10_join_14 := Bt_1 (q := 14) tX10_join_13 rfl
theorem dX10_join_14 : decode cX10_join 14 = .ok (.iload_n 1, 1) := de_1b tX10_join_14
def tX10_join_15 := Bt_1 (q := 15) tX10_join_14 rfl
theorem dX10_join_15 : decode cX10_join 15 = .ok (.invokevirtual 397, 3) := de_b6 tX10_join_15 (by decide +kernel)
def tX10_join_18 := Bt_3 (q := 18) tX10_join_15 rfl
theorem dX10_join_18 : decode cX10_join 18 = .ok (.ifCond .lt 10, 3) := de_9b tX10_join_18 (by decide +kernel)
def tX10_join_21 := Bt_3 (q := 21) tX10_join_18 rfl
theorem dX10_join_21 : decode cX10_join 21 = .ok (.aload_n 0, 1) := de_2a tX10_join_21
def tX10_join_22 := Bt_1 (q := 22) tX10_join_21 rfl
theorem dX10_join_22 : decode cX10_join 22 = .ok (.bipush (-3), 2) := de_10 tX10_join_22 (by decide +kernel)
def tX10_join_24 := Bt_2 (q := 24) tX10_join_22 rfl
theorem dX10_join_24 : decode cX10_join 24 = .ok (.invokevirtual 151, 3) := de_b6 tX10_join_24 (by decide +kernel)
def tX10_join_27 := Bt_3 (q := 27) tX10_join_24 rfl
theorem dX10_join_27 : decode cX10_join 27 = .ok (.ireturn, 1) := de_ac tX10_join_27
def tX10_join_28 := Bt_1 (q := 28) tX10_join_27 rfl
theorem dX10_join_28 : decode cX10_join 28 = .ok (.iload_n 2, 1) := de_1c tX10_join_28
def tX10_join_29 := Bt_1 (q := 29) tX10_join_28 rfl
theorem dX10_join_29 : decode cX10_join 29 = .ok (.iconst 1, 1) := de_04 tX10_join_29
def tX10_join_30 := Bt_1 (q := 30) tX10_join_29 rfl
theorem dX10_join_30 : decode cX10_join 30 = .ok (.if_icmp .ge 10, 3) := de_a2 tX10_join_30 (by decide +kernel)
def tX10_join_33 := Bt_3 (q := 33) tX10_join_30 rfl
theorem dX10_join_33 : decode cX10_join 33 = .ok (.aload_n 0, 1) := de_2a tX10_join_33
def tX10_join_34 := Bt_1 (q := 34) tX10_join_33 rfl
theorem dX10_join_34 : decode cX10_join 34 = .ok (.bipush (-4), 2) := de_10 tX10_join_34 (by decide +kernel)
def tX10_join_36 := Bt_2 (q := 36) tX10_join_34 rfl
theorem dX10_join_36 : decode cX10_join 36 = .ok (.invokevirtual 151, 3) := de_b6 tX10_join_36 (by decide +kernel)
def tX10_join_39 := Bt_3 (q := 39) tX10_join_36 rfl
theorem dX10_join_39 : decode cX10_join 39 = .ok (.ireturn, 1) := de_ac tX10_join_39
def tX10_join_40 := Bt_1 (q := 40) tX10_join_39 rfl
theorem dX10_join_40 : decode cX10_join 40 = .ok (.iload_n 2, 1) := de_1c tX10_join_40
def tX10_join_41 := Bt_1 (q := 41) tX10_join_40 rfl
theorem dX10_join_41 : decode cX10_join 41 = .ok (.sipush 999, 3) := de_11 tX10_join_41 (by decide +kernel)
def tX10_join_44 := Bt_3 (q := 44) tX10_join_41 rfl
theorem dX10_join_44 : decode cX10_join 44 = .ok (.if_icmp .le 10, 3) := de_a4 tX10_join_44 (by decide +kernel)
def tX10_join_47 := Bt_3 (q := 47) tX10_join_44 rfl
theorem dX10_join_47 : decode cX10_join 47 = .ok (.aload_n 0, 1) := de_2a tX10_join_47
def tX10_join_48 := Bt_1 (q := 48) tX10_join_47 rfl
theorem dX10_join_48 : decode cX10_join 48 = .ok (.bipush (-6), 2) := de_10 tX10_join_48 (by decide +kernel)
def tX10_join_50 := Bt_2 (q := 50) tX10_join_48 rfl
theorem dX10_join_50 : decode cX10_join 50 = .ok (.invokevirtual 151, 3) := de_b6 tX10_join_50 (by decide +kernel)
def tX10_join_53 := Bt_3 (q := 53) tX10_join_50 rfl
theorem dX10_join_53 : decode cX10_join 53 = .ok (.ireturn, 1) := de_ac tX10_join_53
def tX10_join_54 := Bt_1 (q := 54) tX10_join_53 rfl
theorem dX10_join_54 : decode cX10_join 54 = .ok (.aload_n 0, 1) := de_2a tX10_join_54
def tX10_join_55 := Bt_1 (q := 55) tX10_join_54 rfl
theorem dX10_join_55 : decode cX10_join 55 = .ok (.getfield 127, 3) := de_b4 tX10_join_55 (by decide +kernel)
def tX10_join_58 := Bt_3 (q := 58) tX10_join_55 rfl
theorem dX10_join_58 : decode cX10_join 58 = .ok (.aload_n 0, 1) := de_2a tX10_join_58
def tX10_join_59 := Bt_1 (q := 59) tX10_join_58 rfl
theorem dX10_join_59 : decode cX10_join 59 = .ok (.getfield 394, 3) := de_b4 tX10_join_59 (by decide +kernel)
def tX10_join_62 := Bt_3 (q := 62) tX10_join_59 rfl
theorem dX10_join_62 : decode cX10_join 62 = .ok (.iload_n 1, 1) := de_1b tX10_join_62
def tX10_join_63 := Bt_1 (q := 63) tX10_join_62 rfl
theorem dX10_join_63 : decode cX10_join 63 = .ok (.iastore, 1) := de_4f tX10_join_63
def tX10_join_64 := Bt_1 (q := 64) tX10_join_63 rfl
theorem dX10_join_64 : decode cX10_join 64 = .ok (.aload_n 0, 1) := de_2a tX10_join_64
def tX10_join_65 := Bt_1 (q := 65) tX10_join_64 rfl
theorem dX10_join_65 : decode cX10_join 65 = .ok (.getfield 130, 3) := de_b4 tX10_join_65 (by decide +kernel)
def tX10_join_68 := Bt_3 (q := 68) tX10_join_65 rfl
theorem dX10_join_68 : decode cX10_join 68 = .ok (.aload_n 0, 1) := de_2a tX10_join_68
def tX10_join_69 := Bt_1 (q := 69) tX10_join_68 rfl
theorem dX10_join_69 : decode cX10_join 69 = .ok (.getfield 394, 3) := de_b4 tX10_join_69 (by decide +kernel)
def tX10_join_72 := Bt_3 (q := 72) tX10_join_69 rfl
theorem dX10_join_72 : decode cX10_join 72 = .ok (.iload_n 2, 1) := de_1c tX10_join_72
def tX10_join_73 := Bt_1 (q := 73) tX10_join_72 rfl
theorem dX10_join_73 : decode cX10_join 73 = .ok (.iastore, 1) := de_4f tX10_join_73
def tX10_join_74 := Bt_1 (q := 74) tX10_join_73 rfl
theorem dX10_join_74 : decode cX10_join 74 = .ok (.aload_n 0, 1) := de_2a tX10_join_74
def tX10_join_75 := Bt_1 (q := 75) tX10_join_74 rfl
theorem dX10_join_75 : decode cX10_join 75 = .ok (.dup, 1) := de_59 tX10_join_75
def tX10_join_76 := Bt_1 (q := 76) tX10_join_75 rfl
theorem dX10_join_76 : decode cX10_join 76 = .ok (.getfield 394, 3) := de_b4 tX10_join_76 (by decide +kernel)
def tX10_join_79 := Bt_3 (q := 79) tX10_join_76 rfl
theorem dX10_join_79 : decode cX10_join 79 = .ok (.iconst 1, 1) := de_04 tX10_join_79
def tX10_join_80 := Bt_1 (q := 80) tX10_join_79 rfl
theorem dX10_join_80 : decode cX10_join 80 = .ok (.iadd, 1) := de_60 tX10_join_80
def tX10_join_81 := Bt_1 (q := 81) tX10_join_80 rfl
theorem dX10_join_81 : decode cX10_join 81 = .ok (.putfield 394, 3) := de_b5 tX10_join_81 (by decide +kernel)
def tX10_join_84 := Bt_3 (q := 84) tX10_join_81 rfl
theorem dX10_join_84 : decode cX10_join 84 = .ok (.aload_n 0, 1) := de_2a tX10_join_84
def tX10_join_85 := Bt_1 (q := 85) tX10_join_84 rfl
theorem dX10_join_85 : decode cX10_join 85 = .ok (.getfield 394, 3) := de_b4 tX10_join_85 (by decide +kernel)
def tX10_join_88 := Bt_3 (q := 88) tX10_join_85 rfl
theorem dX10_join_88 : decode cX10_join 88 = .ok (.ireturn, 1) := de_ac tX10_join_88
def tX10_call_0 := Bt_0 cX10_call
theorem dX10_call_0 : decode cX10_call 0 = .ok (.iload_n 1, 1) := de_1b tX10_call_0
def tX10_call_1 := Bt_1 (q := 1) tX10_call_0 rfl
theorem dX10_call_1 : decode cX10_call 1 = .ok (.iconst 1, 1) := de_04 tX10_call_1
def tX10_call_2 := Bt_1 (q := 2) tX10_call_1 rfl
theorem dX10_call_2 : decode cX10_call 2 = .ok (.if_icmp .ge 10, 3) := de_a2 tX10_call_2 (by decide +kernel)
def tX10_call_5 := Bt_3 (q := 5) tX10_call_2 rfl
theorem dX10_call_5 : decode cX10_call 5 = .ok (.aload_n 0, 1) := de_2a tX10_call_5
def tX10_call_6 := Bt_1 (q := 6) tX10_call_5 rfl
theorem dX10_call_6 : decode cX10_call 6 = .ok (.bipush (-4), 2) := de_10 tX10_call_6 (by decide +kernel)
def tX10_call_8 := Bt_2 (q := 8) tX10_call_6 rfl
theorem dX10_call_8 : decode cX10_call 8 = .ok (.invokevirtual 151, 3) := de_b6 tX10_call_8 (by decide +kernel)
def tX10_call_11 := Bt_3 (q := 11) tX10_call_8 rfl
theorem dX10_call_11 : decode cX10_call 11 = .ok (.ireturn, 1) := de_ac tX10_call_11
def tX10_call_12 := Bt_1 (q := 12) tX10_call_11 rfl
theorem dX10_call_12 : decode cX10_call 12 = .ok (.iload_n 1, 1) := de_1b tX10_call_12
def tX10_call_13 := Bt_1 (q := 13) tX10_call_12 rfl
theorem dX10_call_13 : decode cX10_call 13 = .ok (.sipush 999, 3) := de_11 tX10_call_13 (by decide +kernel)
def tX10_call_16 := Bt_3 (q := 16) tX10_call_13 rfl
theorem dX10_call_16 : decode cX10_call 16 = .ok (.if_icmp .le 10, 3) := de_a4 tX10_call_16 (by decide +kernel)
def tX10_call_19 := Bt_3 (q := 19) tX10_call_16 rfl
theorem dX10_call_19 : decode cX10_call 19 = .ok (.aload_n 0, 1) := de_2a tX10_call_19
def tX10_call_20 := Bt_1 (q := 20) tX10_call_19 rfl
theorem dX10_call_20 : decode cX10_call 20 = .ok (.bipush (-6), 2) := de_10 tX10_call_20 (by decide +kernel)
def tX10_call_22 := Bt_2 (q := 22) tX10_call_20 rfl
theorem dX10_call_22 : decode cX10_call 22 = .ok (.invokevirtual 151, 3) := de_b6 tX10_call_22 (by decide +kernel)
def tX10_call_25 := Bt_3 (q := 25) tX10_call_22 rfl
theorem dX10_call_25 : decode cX10_call 25 = .ok (.ireturn, 1) := de_ac tX10_call_25
def tX10_call_26 := Bt_1 (q := 26) tX10_call_25 rfl
theorem dX10_call_26 : decode cX10_call 26 = .ok (.aload_n 0, 1) := de_2a tX10_call_26
def tX10_call_27 := Bt_1 (q := 27) tX10_call_26 rfl
theorem dX10_call_27 : decode cX10_call 27 = .ok (.iconst (-1), 1) := de_02 tX10_call_27
def tX10_call_28 := Bt_1 (q := 28) tX10_call_27 rfl
theorem dX10_call_28 : decode cX10_call 28 = .ok (.putfield 136, 3) := de_b5 tX10_call_28 (by decide +kernel)
def tX10_call_31 := Bt_3 (q := 31) tX10_call_28 rfl
theorem dX10_call_31 : decode cX10_call 31 = .ok (.aload_n 0, 1) := de_2a tX10_call_31
def tX10_call_32 := Bt_1 (q := 32) tX10_call_31 rfl
theorem dX10_call_32 : decode cX10_call 32 = .ok (.iload_n 1, 1) := de_1b tX10_call_32
def tX10_call_33 := Bt_1 (q := 33) tX10_call_32 rfl
theorem dX10_call_33 : decode cX10_call 33 = .ok (.putfield 400, 3) := de_b5 tX10_call_33 (by decide +kernel)
def tX10_call_36 := Bt_3 (q := 36) tX10_call_33 rfl
theorem dX10_call_36 : decode cX10_call 36 = .ok (.iconst 1, 1) := de_04 tX10_call_36
def tX10_call_37 := Bt_1 (q := 37) tX10_call_36 rfl
theorem dX10_call_37 : decode cX10_call 37 = .ok (.istore_n 2, 1) := de_3d tX10_call_37
def tX10_call_38 := Bt_1 (q := 38) tX10_call_37 rfl
theorem dX10_call_38 : decode cX10_call 38 = .ok (.iload_n 2, 1) := de_1c tX10_call_38
def tX10_call_39 := Bt_1 (q := 39) tX10_call_38 rfl
theorem dX10_call_39 : decode cX10_call 39 = .ok (.aload_n 0, 1) := de_2a tX10_call_39
def tX10_call_40 := Bt_1 (q := 40) tX10_call_39 rfl
theorem dX10_call_40 : decode cX10_call 40 = .ok (.getfield 394, 3) := de_b4 tX10_call_40 (by decide +kernel)
def tX10_call_43 := Bt_3 (q := 43) tX10_call_40 rfl
theorem dX10_call_43 : decode cX10_call 43 = .ok (.if_icmp .gt 47, 3) := de_a3 tX10_call_43 (by decide +kernel)
def tX10_call_46 := Bt_3 (q := 46) tX10_call_43 rfl
theorem dX10_call_46 : decode cX10_call 46 = .ok (.aload_n 0, 1) := de_2a tX10_call_46
def tX10_call_47 := Bt_1 (q := 47) tX10_call_46 rfl
theorem dX10_call_47 : decode cX10_call 47 = .ok (.getfield 136, 3) := de_b4 tX10_call_47 (by decide +kernel)
def tX10_call_50 := Bt_3 (q := 50) tX10_call_47 rfl
theorem dX10_call_50 : decode cX10_call 50 = .ok (.ifCond .ge 40, 3) := de_9c tX10_call_50 (by decide +kernel)
def tX10_call_53 := Bt_3 (q := 53) tX10_call_50 rfl
theorem dX10_call_53 : decode cX10_call 53 = .ok (.aload_n 0, 1) := de_2a tX10_call_53
def tX10_call_54 := Bt_1 (q := 54) tX10_call_53 rfl
theorem dX10_call_54 : decode cX10_call 54 = .ok (.getfield 133, 3) := de_b4 tX10_call_54 (by decide +kernel)
def tX10_call_57 := Bt_3 (q := 57) tX10_call_54 rfl
theorem dX10_call_57 : decode cX10_call 57 = .ok (.iload_n 2, 1) := de_1c tX10_call_57
def tX10_call_58 := Bt_1 (q := 58) tX10_call_57 rfl
theorem dX10_call_58 : decode cX10_call 58 = .ok (.iadd, 1) := de_60 tX10_call_58
def tX10_call_59 := Bt_1 (q := 59) tX10_call_58 rfl
theorem dX10_call_59 : decode cX10_call 59 = .ok (.aload_n 0, 1) := de_2a tX10_call_59
def tX10_call_60 := Bt_1 (q := 60) tX10_call_59 rfl
theorem dX10_call_60 : decode cX10_call 60 = .ok (.getfield 394, 3) := de_b4 tX10_call_60 (by decide +kernel)
def tX10_call_63 := Bt_3 (q := 63) tX10_call_60 rfl
theorem dX10_call_63 : decode cX10_call 63 = .ok (.irem, 1) := de_70 tX10_call_63
def tX10_call_64 := Bt_1 (q := 64) tX10_call_63 rfl
theorem dX10_call_64 : decode cX10_call 64 = .ok (.istore_n 3, 1) := de_3e tX10_call_64
def tX10_call_65 := Bt_1 (q := 65) tX10_call_64 rfl
theorem dX10_call_65 : decode cX10_call 65 = .ok (.aload_n 0, 1) := de_2a tX10_call_65
def tX10_call_66 := Bt_1 (q := 66) tX10_call_65 rfl
theorem dX10_call_66 : decode cX10_call 66 = .ok (.aload_n 0, 1) := de_2a tX10_call_66
def tX10_call_67 := Bt_1 (q := 67) tX10_call_66 rfl
theorem dX10_call_67 : decode cX10_call 67 = .ok (.getfield 130, 3) := de_b4 tX10_call_67 (by decide +kernel)
def tX10_call_70 := Bt_3 (q := 70) tX10_call_67 rfl
theorem dX10_call_70 : decode cX10_call 70 = .ok (.iload_n 3, 1) := de_1d tX10_call_70
def tX10_call_71 := Bt_1 (q := 71) tX10_call_70 rfl
theorem dX10_call_71 : decode cX10_call 71 = .ok (.iaload, 1) := de_2e tX10_call_71
def tX10_call_72 := Bt_1 (q := 72) tX10_call_71 rfl
theorem dX10_call_72 : decode cX10_call 72 = .ok (.iload_n 1, 1) := de_1b tX10_call_72
def tX10_call_73 := Bt_1 (q := 73) tX10_call_72 rfl
theorem dX10_call_73 : decode cX10_call 73 = .ok (.if_icmp .lt 7, 3) := de_a1 tX10_call_73 (by decide +kernel)
def tX10_call_76 := Bt_3 (q := 76) tX10_call_73 rfl
theorem dX10_call_76 : decode cX10_call 76 = .ok (.iload_n 3, 1) := de_1d tX10_call_76
def tX10_call_77 := Bt_1 (q := 77) tX10_call_76 rfl
theorem dX10_call_77 : decode cX10_call 77 = .ok (.goto 4, 3) := de_a7 tX10_call_77 (by decide +kernel)
def tX10_call_80 := Bt_3 (q := 80) tX10_call_77 rfl
theorem dX10_call_80 : decode cX10_call 80 = .ok (.iconst (-1), 1) := de_02 tX10_call_80
def tX10_call_81 := Bt_1 (q := 81) tX10_call_80 rfl
theorem dX10_call_81 : decode cX10_call 81 = .ok (.putfield 136, 3) := de_b5 tX10_call_81 (by decide +kernel)
def tX10_call_84 := Bt_3 (q := 84) tX10_call_81 rfl
theorem dX10_call_84 : decode cX10_call 84 = .ok (.iinc 2 1, 3) := de_84 tX10_call_84 (by decide +kernel) (by decide +kernel)
def tX10_call_87 := Bt_3 (q := 87) tX10_call_84 rfl
theorem dX10_call_87 : decode cX10_call 87 = .ok (.goto (-49), 3) := de_a7 tX10_call_87 (by decide +kernel)
def tX10_call_90 := Bt_3 (q := 90) tX10_call_87 rfl
theorem dX10_call_90 : decode cX10_call 90 = .ok (.aload_n 0, 1) := de_2a tX10_call_90
def tX10_call_91 := Bt_1 (q := 91) tX10_call_90 rfl
theorem dX10_call_91 : decode cX10_call 91 = .ok (.getfield 136, 3) := de_b4 tX10_call_91 (by decide +kernel)
def tX10_call_94 := Bt_3 (q := 94) tX10_call_91 rfl
theorem dX10_call_94 : decode cX10_call 94 = .ok (.ifCond .ge 6, 3) := de_9c tX10_call_94 (by decide +kernel)
def tX10_call_97 := Bt_3 (q := 97) tX10_call_94 rfl
theorem dX10_call_97 : decode cX10_call 97 = .ok (.bipush (-9), 2) := de_10 tX10_call_97 (by decide +kernel)
def tX10_call_99 := Bt_2 (q := 99) tX10_call_97 rfl
theorem dX10_call_99 : decode cX10_call 99 = .ok (.ireturn, 1) := de_ac tX10_call_99
def tX10_call_100 := Bt_1 (q := 100) tX10_call_99 rfl
theorem dX10_call_100 : decode cX10_call 100 = .ok (.aload_n 0, 1) := de_2a tX10_call_100
def tX10_call_101 := Bt_1 (q := 101) tX10_call_100 rfl
theorem dX10_call_101 : decode cX10_call 101 = .ok (.aload_n 0, 1) := de_2a tX10_call_101
def tX10_call_102 := Bt_1 (q := 102) tX10_call_101 rfl
theorem dX10_call_102 : decode cX10_call 102 = .ok (.getfield 136, 3) := de_b4 tX10_call_102 (by decide +kernel)
def tX10_call_105 := Bt_3 (q := 105) tX10_call_102 rfl
theorem dX10_call_105 : decode cX10_call 105 = .ok (.putfield 403, 3) := de_b5 tX10_call_105 (by decide +kernel)
def tX10_call_108 := Bt_3 (q := 108) tX10_call_105 rfl
theorem dX10_call_108 : decode cX10_call 108 = .ok (.aload_n 0, 1) := de_2a tX10_call_108
def tX10_call_109 := Bt_1 (q := 109) tX10_call_108 rfl
theorem dX10_call_109 : decode cX10_call 109 = .ok (.aload_n 0, 1) := de_2a tX10_call_109
def tX10_call_110 := Bt_1 (q := 110) tX10_call_109 rfl
theorem dX10_call_110 : decode cX10_call 110 = .ok (.getfield 136, 3) := de_b4 tX10_call_110 (by decide +kernel)
def tX10_call_113 := Bt_3 (q := 113) tX10_call_110 rfl
theorem dX10_call_113 : decode cX10_call 113 = .ok (.putfield 133, 3) := de_b5 tX10_call_113 (by decide +kernel)
def tX10_call_116 := Bt_3 (q := 116) tX10_call_113 rfl
theorem dX10_call_116 : decode cX10_call 116 = .ok (.aload_n 0, 1) := de_2a tX10_call_116
def tX10_call_117 := Bt_1 (q := 117) tX10_call_116 rfl
theorem dX10_call_117 : decode cX10_call 117 = .ok (.getfield 130, 3) := de_b4 tX10_call_117 (by decide +kernel)
def tX10_call_120 := Bt_3 (q := 120) tX10_call_117 rfl
theorem dX10_call_120 : decode cX10_call 120 = .ok (.aload_n 0, 1) := de_2a tX10_call_120
def tX10_call_121 := Bt_1 (q := 121) tX10_call_120 rfl
theorem dX10_call_121 : decode cX10_call 121 = .ok (.getfield 136, 3) := de_b4 tX10_call_121 (by decide +kernel)
def tX10_call_124 := Bt_3 (q := 124) tX10_call_121 rfl
theorem dX10_call_124 : decode cX10_call 124 = .ok (.dup2, 1) := de_5c tX10_call_124
def tX10_call_125 := Bt_1 (q := 125) tX10_call_124 rfl
theorem dX10_call_125 : decode cX10_call 125 = .ok (.iaload, 1) := de_2e tX10_call_125
def tX10_call_126 := Bt_1 (q := 126) tX10_call_125 rfl
theorem dX10_call_126 : decode cX10_call 126 = .ok (.iload_n 1, 1) := de_1b tX10_call_126
def tX10_call_127 := Bt_1 (q := 127) tX10_call_126 rfl
theorem dX10_call_127 : decode cX10_call 127 = .ok (.isub, 1) := de_64 tX10_call_127
def tX10_call_128 := Bt_1 (q := 128) tX10_call_127 rfl
theorem dX10_call_128 : decode cX10_call 128 = .ok (.iastore, 1) := de_4f tX10_call_128
def tX10_call_129 := Bt_1 (q := 129) tX10_call_128 rfl
theorem dX10_call_129 : decode cX10_call 129 = .ok (.aload_n 0, 1) := de_2a tX10_call_129
def tX10_call_130 := Bt_1 (q := 130) tX10_call_129 rfl
theorem dX10_call_130 : decode cX10_call 130 = .ok (.getfield 127, 3) := de_b4 tX10_call_130 (by decide +kernel)
def tX10_call_133 := Bt_3 (q := 133) tX10_call_130 rfl
theorem dX10_call_133 : decode cX10_call 133 = .ok (.aload_n 0, 1) := de_2a tX10_call_133
def tX10_call_134 := Bt_1 (q := 134) tX10_call_133 rfl
theorem dX10_call_134 : decode cX10_call 134 = .ok (.getfield 136, 3) := de_b4 tX10_call_134 (by decide +kernel)
def tX10_call_137 := Bt_3 (q := 137) tX10_call_134 rfl
theorem dX10_call_137 : decode cX10_call 137 = .ok (.iaload, 1) := de_2e tX10_call_137
def tX10_call_138 := Bt_1 (q := 138) tX10_call_137 rfl
theorem dX10_call_138 : decode cX10_call 138 = .ok (.ireturn, 1) := de_ac tX10_call_138
def tX10_decline_0 := Bt_0 cX10_decline
theorem dX10_decline_0 : decode cX10_decline 0 = .ok (.aload_n 0, 1) := de_2a tX10_decline_0
def tX10_decline_1 := Bt_1 (q := 1) tX10_decline_0 rfl
theorem dX10_decline_1 : decode cX10_decline 1 = .ok (.getfield 136, 3) := de_b4 tX10_decline_1 (by decide +kernel)
def tX10_decline_4 := Bt_3 (q := 4) tX10_decline_1 rfl
theorem dX10_decline_4 : decode cX10_decline 4 = .ok (.ifCond .ge 10, 3) := de_9c tX10_decline_4 (by decide +kernel)
def tX10_decline_7 := Bt_3 (q := 7) tX10_decline_4 rfl
theorem dX10_decline_7 : decode cX10_decline 7 = .ok (.aload_n 0, 1) := de_2a tX10_decline_7
def tX10_decline_8 := Bt_1 (q := 8) tX10_decline_7 rfl
theorem dX10_decline_8 : decode cX10_decline 8 = .ok (.bipush (-3), 2) := de_10 tX10_decline_8 (by decide +kernel)
def tX10_decline_10 := Bt_2 (q := 10) tX10_decline_8 rfl
theorem dX10_decline_10 : decode cX10_decline 10 = .ok (.invokevirtual 151, 3) := de_b6 tX10_decline_10 (by decide +kernel)
def tX10_decline_13 := Bt_3 (q := 13) tX10_decline_10 rfl
theorem dX10_decline_13 : decode cX10_decline 13 = .ok (.ireturn, 1) := de_ac tX10_decline_13
def tX10_decline_14 := Bt_1 (q := 14) tX10_decline_13 rfl
theorem dX10_decline_14 : decode cX10_decline 14 = .ok (.aload_n 0, 1) := de_2a tX10_decline_14
def tX10_decline_15 := Bt_1 (q := 15) tX10_decline_14 rfl
theorem dX10_decline_15 : decode cX10_decline 15 = .ok (.getfield 130, 3) := de_b4 tX10_decline_15 (by decide +kernel)
def tX10_decline_18 := Bt_3 (q := 18) tX10_decline_15 rfl
theorem dX10_decline_18 : decode cX10_decline 18 = .ok (.aload_n 0, 1) := de_2a tX10_decline_18
def tX10_decline_19 := Bt_1 (q := 19) tX10_decline_18 rfl
theorem dX10_decline_19 : decode cX10_decline 19 = .ok (.getfield 136, 3) := de_b4 tX10_decline_19 (by decide +kernel)
def tX10_decline_22 := Bt_3 (q := 22) tX10_decline_19 rfl
theorem dX10_decline_22 : decode cX10_decline 22 = .ok (.dup2, 1) := de_5c tX10_decline_22
def tX10_decline_23 := Bt_1 (q := 23) tX10_decline_22 rfl
theorem dX10_decline_23 : decode cX10_decline 23 = .ok (.iaload, 1) := de_2e tX10_decline_23
def tX10_decline_24 := Bt_1 (q := 24) tX10_decline_23 rfl
theorem dX10_decline_24 : decode cX10_decline 24 = .ok (.aload_n 0, 1) := de_2a tX10_decline_24
def tX10_decline_25 := Bt_1 (q := 25) tX10_decline_24 rfl
theorem dX10_decline_25 : decode cX10_decline 25 = .ok (.getfield 400, 3) := de_b4 tX10_decline_25 (by decide +kernel)
def tX10_decline_28 := Bt_3 (q := 28) tX10_decline_25 rfl
theorem dX10_decline_28 : decode cX10_decline 28 = .ok (.iadd, 1) := de_60 tX10_decline_28
def tX10_decline_29 := Bt_1 (q := 29) tX10_decline_28 rfl
theorem dX10_decline_29 : decode cX10_decline 29 = .ok (.iastore, 1) := de_4f tX10_decline_29
def tX10_decline_30 := Bt_1 (q := 30) tX10_decline_29 rfl
theorem dX10_decline_30 : decode cX10_decline 30 = .ok (.aload_n 0, 1) := de_2a tX10_decline_30
def tX10_decline_31 := Bt_1 (q := 31) tX10_decline_30 rfl
theorem dX10_decline_31 : decode cX10_decline 31 = .ok (.getfield 136, 3) := de_b4 tX10_decline_31 (by decide +kernel)
def tX10_decline_34 := Bt_3 (q := 34) tX10_decline_31 rfl
theorem dX10_decline_34 : decode cX10_decline 34 = .ok (.istore_n 1, 1) := de_3c tX10_decline_34
def tX10_decline_35 := Bt_1 (q := 35) tX10_decline_34 rfl
theorem dX10_decline_35 : decode cX10_decline 35 = .ok (.aload_n 0, 1) := de_2a tX10_decline_35
def tX10_decline_36 := Bt_1 (q := 36) tX10_decline_35 rfl
theorem dX10_decline_36 : decode cX10_decline 36 = .ok (.iconst (-1), 1) := de_02 tX10_decline_36
def tX10_decline_37 := Bt_1 (q := 37) tX10_decline_36 rfl
theorem dX10_decline_37 : decode cX10_decline 37 = .ok (.putfield 136, 3) := de_b5 tX10_decline_37 (by decide +kernel)
def tX10_decline_40 := Bt_3 (q := 40) tX10_decline_37 rfl
theorem dX10_decline_40 : decode cX10_decline 40 = .ok (.iconst 1, 1) := de_04 tX10_decline_40
def tX10_decline_41 := Bt_1 (q := 41) tX10_decline_40 rfl
theorem dX10_decline_41 : decode cX10_decline 41 = .ok (.istore_n 2, 1) := de_3d tX10_decline_41
def tX10_decline_42 := Bt_1 (q := 42) tX10_decline_41 rfl
theorem dX10_decline_42 : decode cX10_decline 42 = .ok (.iload_n 2, 1) := de_1c tX10_decline_42
def tX10_decline_43 := Bt_1 (q := 43) tX10_decline_42 rfl
theorem dX10_decline_43 : decode cX10_decline 43 = .ok (.aload_n 0, 1) := de_2a tX10_decline_43
def tX10_decline_44 := Bt_1 (q := 44) tX10_decline_43 rfl
theorem dX10_decline_44 : decode cX10_decline 44 = .ok (.getfield 394, 3) := de_b4 tX10_decline_44 (by decide +kernel)
def tX10_decline_47 := Bt_3 (q := 47) tX10_decline_44 rfl
theorem dX10_decline_47 : decode cX10_decline 47 = .ok (.if_icmp .ge 58, 3) := de_a2 tX10_decline_47 (by decide +kernel)
def tX10_decline_50 := Bt_3 (q := 50) tX10_decline_47 rfl
theorem dX10_decline_50 : decode cX10_decline 50 = .ok (.aload_n 0, 1) := de_2a tX10_decline_50
def tX10_decline_51 := Bt_1 (q := 51) tX10_decline_50 rfl
theorem dX10_decline_51 : decode cX10_decline 51 = .ok (.getfield 136, 3) := de_b4 tX10_decline_51 (by decide +kernel)
def tX10_decline_54 := Bt_3 (q := 54) tX10_decline_51 rfl
theorem dX10_decline_54 : decode cX10_decline 54 = .ok (.ifCond .ge 51, 3) := de_9c tX10_decline_54 (by decide +kernel)
def tX10_decline_57 := Bt_3 (q := 57) tX10_decline_54 rfl
theorem dX10_decline_57 : decode cX10_decline 57 = .ok (.iload_n 1, 1) := de_1b tX10_decline_57
def tX10_decline_58 := Bt_1 (q := 58) tX10_decline_57 rfl
theorem dX10_decline_58 : decode cX10_decline 58 = .ok (.iload_n 2, 1) := de_1c tX10_decline_58
def tX10_decline_59 := Bt_1 (q := 59) tX10_decline_58 rfl
theorem dX10_decline_59 : decode cX10_decline 59 = .ok (.iadd, 1) := de_60 tX10_decline_59
def tX10_decline_60 := Bt_1 (q := 60) tX10_decline_59 rfl
theorem dX10_decline_60 : decode cX10_decline 60 = .ok (.aload_n 0, 1) := de_2a tX10_decline_60
def tX10_decline_61 := Bt_1 (q := 61) tX10_decline_60 rfl
theorem dX10_decline_61 : decode cX10_decline 61 = .ok (.getfield 394, 3) := de_b4 tX10_decline_61 (by decide +kernel)
def tX10_decline_64 := Bt_3 (q := 64) tX10_decline_61 rfl
theorem dX10_decline_64 : decode cX10_decline 64 = .ok (.irem, 1) := de_70 tX10_decline_64
def tX10_decline_65 := Bt_1 (q := 65) tX10_decline_64 rfl
theorem dX10_decline_65 : decode cX10_decline 65 = .ok (.istore_n 3, 1) := de_3e tX10_decline_65
def tX10_decline_66 := Bt_1 (q := 66) tX10_decline_65 rfl
theorem dX10_decline_66 : decode cX10_decline 66 = .ok (.iload_n 3, 1) := de_1d tX10_decline_66
def tX10_decline_67 := Bt_1 (q := 67) tX10_decline_66 rfl
theorem dX10_decline_67 : decode cX10_decline 67 = .ok (.aload_n 0, 1) := de_2a tX10_decline_67
def tX10_decline_68 := Bt_1 (q := 68) tX10_decline_67 rfl
theorem dX10_decline_68 : decode cX10_decline 68 = .ok (.getfield 403, 3) := de_b4 tX10_decline_68 (by decide +kernel)
def tX10_decline_71 := Bt_3 (q := 71) tX10_decline_68 rfl
theorem dX10_decline_71 : decode cX10_decline 71 = .ok (.if_icmp .ne 6, 3) := de_a0 tX10_decline_71 (by decide +kernel)
def tX10_decline_74 := Bt_3 (q := 74) tX10_decline_71 rfl
theorem dX10_decline_74 : decode cX10_decline 74 = .ok (.bipush (-9), 2) := de_10 tX10_decline_74 (by decide +kernel)
def tX10_decline_76 := Bt_2 (q := 76) tX10_decline_74 rfl
theorem dX10_decline_76 : decode cX10_decline 76 = .ok (.ireturn, 1) := de_ac tX10_decline_76
def tX10_decline_77 := Bt_1 (q := 77) tX10_decline_76 rfl
theorem dX10_decline_77 : decode cX10_decline 77 = .ok (.aload_n 0, 1) := de_2a tX10_decline_77
def tX10_decline_78 := Bt_1 (q := 78) tX10_decline_77 rfl
theorem dX10_decline_78 : decode cX10_decline 78 = .ok (.aload_n 0, 1) := de_2a tX10_decline_78
def tX10_decline_79 := Bt_1 (q := 79) tX10_decline_78 rfl
theorem dX10_decline_79 : decode cX10_decline 79 = .ok (.getfield 130, 3) := de_b4 tX10_decline_79 (by decide +kernel)
def tX10_decline_82 := Bt_3 (q := 82) tX10_decline_79 rfl
theorem dX10_decline_82 : decode cX10_decline 82 = .ok (.iload_n 3, 1) := de_1d tX10_decline_82
def tX10_decline_83 := Bt_1 (q := 83) tX10_decline_82 rfl
theorem dX10_decline_83 : decode cX10_decline 83 = .ok (.iaload, 1) := de_2e tX10_decline_83
def tX10_decline_84 := Bt_1 (q := 84) tX10_decline_83 rfl
theorem dX10_decline_84 : decode cX10_decline 84 = .ok (.aload_n 0, 1) := de_2a tX10_decline_84
def tX10_decline_85 := Bt_1 (q := 85) tX10_decline_84 rfl
theorem dX10_decline_85 : decode cX10_decline 85 = .ok (.getfield 400, 3) := de_b4 tX10_decline_85 (by decide +kernel)
def tX10_decline_88 := Bt_3 (q := 88) tX10_decline_85 rfl
theorem dX10_decline_88 : decode cX10_decline 88 = .ok (.if_icmp .lt 7, 3) := de_a1 tX10_decline_88 (by decide +kernel)
def tX10_decline_91 := Bt_3 (q := 91) tX10_decline_88 rfl
theorem dX10_decline_91 : decode cX10_decline 91 = .ok (.iload_n 3, 1) := de_1d tX10_decline_91
def tX10_decline_92 := Bt_1 (q := 92) tX10_decline_91 rfl
theorem dX10_decline_92 : decode cX10_decline 92 = .ok (.goto 4, 3) := de_a7 tX10_decline_92 (by decide +kernel)
def tX10_decline_95 := Bt_3 (q := 95) tX10_decline_92 rfl
theorem dX10_decline_95 : decode cX10_decline 95 = .ok (.iconst (-1), 1) := de_02 tX10_decline_95
def tX10_decline_96 := Bt_1 (q := 96) tX10_decline_95 rfl
theorem dX10_decline_96 : decode cX10_decline 96 = .ok (.putfield 136, 3) := de_b5 tX10_decline_96 (by decide +kernel)
def tX10_decline_99 := Bt_3 (q := 99) tX10_decline_96 rfl
theorem dX10_decline_99 : decode cX10_decline 99 = .ok (.iinc 2 1, 3) := de_84 tX10_decline_99 (by decide +kernel) (by decide +kernel)
def tX10_decline_102 := Bt_3 (q := 102) tX10_decline_99 rfl
theorem dX10_decline_102 : decode cX10_decline 102 = .ok (.goto (-60), 3) := de_a7 tX10_decline_102 (by decide +kernel)
def tX10_decline_105 := Bt_3 (q := 105) tX10_decline_102 rfl
theorem dX10_decline_105 : decode cX10_decline 105 = .ok (.aload_n 0, 1) := de_2a tX10_decline_105
def tX10_decline_106 := Bt_1 (q := 106) tX10_decline_105 rfl
theorem dX10_decline_106 : decode cX10_decline 106 = .ok (.getfield 136, 3) := de_b4 tX10_decline_106 (by decide +kernel)
def tX10_decline_109 := Bt_3 (q := 109) tX10_decline_106 rfl
theorem dX10_decline_109 : decode cX10_decline 109 = .ok (.ifCond .ge 6, 3) := de_9c tX10_decline_109 (by decide +kernel)
def tX10_decline_112 := Bt_3 (q := 112) tX10_decline_109 rfl
theorem dX10_decline_112 : decode cX10_decline 112 = .ok (.bipush (-9), 2) := de_10 tX10_decline_112 (by decide +kernel)
def tX10_decline_114 := Bt_2 (q := 114) tX10_decline_112 rfl
theorem dX10_decline_114 : decode cX10_decline 114 = .ok (.ireturn, 1) := de_ac tX10_decline_114
def tX10_decline_115 := Bt_1 (q := 115) tX10_decline_114 rfl
theorem dX10_decline_115 : decode cX10_decline 115 = .ok (.aload_n 0, 1) := de_2a tX10_decline_115
def tX10_decline_116 := Bt_1 (q := 116) tX10_decline_115 rfl
theorem dX10_decline_116 : decode cX10_decline 116 = .ok (.aload_n 0, 1) := de_2a tX10_decline_116
def tX10_decline_117 := Bt_1 (q := 117) tX10_decline_116 rfl
theorem dX10_decline_117 : decode cX10_decline 117 = .ok (.getfield 136, 3) := de_b4 tX10_decline_117 (by decide +kernel)
def tX10_decline_120 := Bt_3 (q := 120) tX10_decline_117 rfl
theorem dX10_decline_120 : decode cX10_decline 120 = .ok (.putfield 133, 3) := de_b5 tX10_decline_120 (by decide +kernel)
def tX10_decline_123 := Bt_3 (q := 123) tX10_decline_120 rfl
theorem dX10_decline_123 : decode cX10_decline 123 = .ok (.aload_n 0, 1) := de_2a tX10_decline_123
def tX10_decline_124 := Bt_1 (q := 124) tX10_decline_123 rfl
theorem dX10_decline_124 : decode cX10_decline 124 = .ok (.getfield 130, 3) := de_b4 tX10_decline_124 (by decide +kernel)
def tX10_decline_127 := Bt_3 (q := 127) tX10_decline_124 rfl
theorem dX10_decline_127 : decode cX10_decline 127 = .ok (.aload_n 0, 1) := de_2a tX10_decline_127
def tX10_decline_128 := Bt_1 (q := 128) tX10_decline_127 rfl
theorem dX10_decline_128 : decode cX10_decline 128 = .ok (.getfield 136, 3) := de_b4 tX10_decline_128 (by decide +kernel)
def tX10_decline_131 := Bt_3 (q := 131) tX10_decline_128 rfl
theorem dX10_decline_131 : decode cX10_decline 131 = .ok (.dup2, 1) := de_5c tX10_decline_131
def tX10_decline_132 := Bt_1 (q := 132) tX10_decline_131 rfl
theorem dX10_decline_132 : decode cX10_decline 132 = .ok (.iaload, 1) := de_2e tX10_decline_132
def tX10_decline_133 := Bt_1 (q := 133) tX10_decline_132 rfl
theorem dX10_decline_133 : decode cX10_decline 133 = .ok (.aload_n 0, 1) := de_2a tX10_decline_133
def tX10_decline_134 := Bt_1 (q := 134) tX10_decline_133 rfl
theorem dX10_decline_134 : decode cX10_decline 134 = .ok (.getfield 400, 3) := de_b4 tX10_decline_134 (by decide +kernel)
def tX10_decline_137 := Bt_3 (q := 137) tX10_decline_134 rfl
theorem dX10_decline_137 : decode cX10_decline 137 = .ok (.isub, 1) := de_64 tX10_decline_137
def tX10_decline_138 := Bt_1 (q := 138) tX10_decline_137 rfl
theorem dX10_decline_138 : decode cX10_decline 138 = .ok (.iastore, 1) := de_4f tX10_decline_138
def tX10_decline_139 := Bt_1 (q := 139) tX10_decline_138 rfl
theorem dX10_decline_139 : decode cX10_decline 139 = .ok (.aload_n 0, 1) := de_2a tX10_decline_139
def tX10_decline_140 := Bt_1 (q := 140) tX10_decline_139 rfl
theorem dX10_decline_140 : decode cX10_decline 140 = .ok (.getfield 127, 3) := de_b4 tX10_decline_140 (by decide +kernel)
def tX10_decline_143 := Bt_3 (q := 143) tX10_decline_140 rfl
theorem dX10_decline_143 : decode cX10_decline 143 = .ok (.aload_n 0, 1) := de_2a tX10_decline_143
def tX10_decline_144 := Bt_1 (q := 144) tX10_decline_143 rfl
theorem dX10_decline_144 : decode cX10_decline 144 = .ok (.getfield 136, 3) := de_b4 tX10_decline_144 (by decide +kernel)
def tX10_decline_147 := Bt_3 (q := 147) tX10_decline_144 rfl
theorem dX10_decline_147 : decode cX10_decline 147 = .ok (.iaload, 1) := de_2e tX10_decline_147
def tX10_decline_148 := Bt_1 (q := 148) tX10_decline_147 rfl
theorem dX10_decline_148 : decode cX10_decline 148 = .ok (.ireturn, 1) := de_ac tX10_decline_148
def tX10_room_0 := Bt_0 cX10_room
theorem dX10_room_0 : decode cX10_room 0 = .ok (.iload_n 1, 1) := de_1b tX10_room_0
def tX10_room_1 := Bt_1 (q := 1) tX10_room_0 rfl
theorem dX10_room_1 : decode cX10_room 1 = .ok (.invokestatic 166, 3) := de_b8 tX10_room_1 (by decide +kernel)
def tX10_room_4 := Bt_3 (q := 4) tX10_room_1 rfl
theorem dX10_room_4 : decode cX10_room 4 = .ok (.ifCond .ne 9, 3) := de_9a tX10_room_4 (by decide +kernel)
def tX10_room_7 := Bt_3 (q := 7) tX10_room_4 rfl
theorem dX10_room_7 : decode cX10_room 7 = .ok (.aload_n 0, 1) := de_2a tX10_room_7
def tX10_room_8 := Bt_1 (q := 8) tX10_room_7 rfl
theorem dX10_room_8 : decode cX10_room 8 = .ok (.iconst (-1), 1) := de_02 tX10_room_8
def tX10_room_9 := Bt_1 (q := 9) tX10_room_8 rfl
theorem dX10_room_9 : decode cX10_room 9 = .ok (.invokevirtual 151, 3) := de_b6 tX10_room_9 (by decide +kernel)
def tX10_room_12 := Bt_3 (q := 12) tX10_room_9 rfl
theorem dX10_room_12 : decode cX10_room 12 = .ok (.ireturn, 1) := de_ac tX10_room_12
def tX10_room_13 := Bt_1 (q := 13) tX10_room_12 rfl
theorem dX10_room_13 : decode cX10_room 13 = .ok (.aload_n 0, 1) := de_2a tX10_room_13
def tX10_room_14 := Bt_1 (q := 14) tX10_room_13 rfl
theorem dX10_room_14 : decode cX10_room 14 = .ok (.iload_n 1, 1) := de_1b tX10_room_14
def tX10_room_15 := Bt_1 (q := 15) tX10_room_14 rfl
theorem dX10_room_15 : decode cX10_room 15 = .ok (.invokevirtual 397, 3) := de_b6 tX10_room_15 (by decide +kernel)
def tX10_room_18 := Bt_3 (q := 18) tX10_room_15 rfl
theorem dX10_room_18 : decode cX10_room 18 = .ok (.istore_n 2, 1) := de_3d tX10_room_18
def tX10_room_19 := Bt_1 (q := 19) tX10_room_18 rfl
theorem dX10_room_19 : decode cX10_room 19 = .ok (.iload_n 2, 1) := de_1c tX10_room_19
def tX10_room_20 := Bt_1 (q := 20) tX10_room_19 rfl
theorem dX10_room_20 : decode cX10_room 20 = .ok (.ifCond .ge 12, 3) := de_9c tX10_room_20 (by decide +kernel)
def tX10_room_23 := Bt_3 (q := 23) tX10_room_20 rfl
theorem dX10_room_23 : decode cX10_room 23 = .ok (.aload_n 0, 1) := de_2a tX10_room_23
def tX10_room_24 := Bt_1 (q := 24) tX10_room_23 rfl
theorem dX10_room_24 : decode cX10_room 24 = .ok (.bipush (-3), 2) := de_10 tX10_room_24 (by decide +kernel)
def tX10_room_26 := Bt_2 (q := 26) tX10_room_24 rfl
theorem dX10_room_26 : decode cX10_room 26 = .ok (.invokevirtual 151, 3) := de_b6 tX10_room_26 (by decide +kernel)
def tX10_room_29 := Bt_3 (q := 29) tX10_room_26 rfl
theorem dX10_room_29 : decode cX10_room 29 = .ok (.goto 9, 3) := de_a7 tX10_room_29 (by decide +kernel)
def tX10_room_32 := Bt_3 (q := 32) tX10_room_29 rfl
theorem dX10_room_32 : decode cX10_room 32 = .ok (.aload_n 0, 1) := de_2a tX10_room_32
def tX10_room_33 := Bt_1 (q := 33) tX10_room_32 rfl
theorem dX10_room_33 : decode cX10_room 33 = .ok (.getfield 130, 3) := de_b4 tX10_room_33 (by decide +kernel)
def tX10_room_36 := Bt_3 (q := 36) tX10_room_33 rfl
theorem dX10_room_36 : decode cX10_room 36 = .ok (.iload_n 2, 1) := de_1c tX10_room_36
def tX10_room_37 := Bt_1 (q := 37) tX10_room_36 rfl
theorem dX10_room_37 : decode cX10_room 37 = .ok (.iaload, 1) := de_2e tX10_room_37
def tX10_room_38 := Bt_1 (q := 38) tX10_room_37 rfl
theorem dX10_room_38 : decode cX10_room 38 = .ok (.ireturn, 1) := de_ac tX10_room_38
def tX10_count_0 := Bt_0 cX10_count
theorem dX10_count_0 : decode cX10_count 0 = .ok (.iconst 0, 1) := de_03 tX10_count_0
def tX10_count_1 := Bt_1 (q := 1) tX10_count_0 rfl
theorem dX10_count_1 : decode cX10_count 1 = .ok (.istore_n 2, 1) := de_3d tX10_count_1
def tX10_count_2 := Bt_1 (q := 2) tX10_count_1 rfl
theorem dX10_count_2 : decode cX10_count 2 = .ok (.iload_n 1, 1) := de_1b tX10_count_2
def tX10_count_3 := Bt_1 (q := 3) tX10_count_2 rfl
theorem dX10_count_3 : decode cX10_count 3 = .ok (.tableswitch 171 0 9 #[53, 58, 63, 63, 117, 122, 135, 148, 161, 166], 53) := by decide +kernel
def tX10_count_56 := Bt_n (q := 56) 53 tX10_count_3 rfl rfl
theorem dX10_count_56 : decode cX10_count 56 = .ok (.aload_n 0, 1) := de_2a tX10_count_56
def tX10_count_57 := Bt_1 (q := 57) tX10_count_56 rfl
theorem dX10_count_57 : decode cX10_count 57 = .ok (.getfield 148, 3) := de_b4 tX10_count_57 (by decide +kernel)
def tX10_count_60 := Bt_3 (q := 60) tX10_count_57 rfl
theorem dX10_count_60 : decode cX10_count 60 = .ok (.ireturn, 1) := de_ac tX10_count_60
def tX10_count_61 := Bt_1 (q := 61) tX10_count_60 rfl
theorem dX10_count_61 : decode cX10_count 61 = .ok (.aload_n 0, 1) := de_2a tX10_count_61
def tX10_count_62 := Bt_1 (q := 62) tX10_count_61 rfl
theorem dX10_count_62 : decode cX10_count 62 = .ok (.getfield 17, 3) := de_b4 tX10_count_62 (by decide +kernel)
def tX10_count_65 := Bt_3 (q := 65) tX10_count_62 rfl
theorem dX10_count_65 : decode cX10_count 65 = .ok (.ireturn, 1) := de_ac tX10_count_65
def tX10_count_66 := Bt_1 (q := 66) tX10_count_65 rfl
theorem dX10_count_66 : decode cX10_count 66 = .ok (.iconst 0, 1) := de_03 tX10_count_66
def tX10_count_67 := Bt_1 (q := 67) tX10_count_66 rfl
theorem dX10_count_67 : decode cX10_count 67 = .ok (.istore_n 3, 1) := de_3e tX10_count_67
def tX10_count_68 := Bt_1 (q := 68) tX10_count_67 rfl
theorem dX10_count_68 : decode cX10_count 68 = .ok (.iload_n 3, 1) := de_1d tX10_count_68
def tX10_count_69 := Bt_1 (q := 69) tX10_count_68 rfl
theorem dX10_count_69 : decode cX10_count 69 = .ok (.bipush 8, 2) := de_10 tX10_count_69 (by decide +kernel)
def tX10_count_71 := Bt_2 (q := 71) tX10_count_69 rfl
theorem dX10_count_71 : decode cX10_count 71 = .ok (.aload_n 0, 1) := de_2a tX10_count_71
def tX10_count_72 := Bt_1 (q := 72) tX10_count_71 rfl
theorem dX10_count_72 : decode cX10_count 72 = .ok (.getfield 17, 3) := de_b4 tX10_count_72 (by decide +kernel)
def tX10_count_75 := Bt_3 (q := 75) tX10_count_72 rfl
theorem dX10_count_75 : decode cX10_count 75 = .ok (.imul, 1) := de_68 tX10_count_75
def tX10_count_76 := Bt_1 (q := 76) tX10_count_75 rfl
theorem dX10_count_76 : decode cX10_count 76 = .ok (.if_icmp .ge 42, 3) := de_a2 tX10_count_76 (by decide +kernel)
def tX10_count_79 := Bt_3 (q := 79) tX10_count_76 rfl
theorem dX10_count_79 : decode cX10_count 79 = .ok (.iload_n 2, 1) := de_1c tX10_count_79
def tX10_count_80 := Bt_1 (q := 80) tX10_count_79 rfl
theorem dX10_count_80 : decode cX10_count 80 = .ok (.iload_n 1, 1) := de_1b tX10_count_80
def tX10_count_81 := Bt_1 (q := 81) tX10_count_80 rfl
theorem dX10_count_81 : decode cX10_count 81 = .ok (.iconst 2, 1) := de_05 tX10_count_81
def tX10_count_82 := Bt_1 (q := 82) tX10_count_81 rfl
theorem dX10_count_82 : decode cX10_count 82 = .ok (.if_icmp .ne 15, 3) := de_a0 tX10_count_82 (by decide +kernel)
def tX10_count_85 := Bt_3 (q := 85) tX10_count_82 rfl
theorem dX10_count_85 : decode cX10_count 85 = .ok (.aload_n 0, 1) := de_2a tX10_count_85
def tX10_count_86 := Bt_1 (q := 86) tX10_count_85 rfl
theorem dX10_count_86 : decode cX10_count 86 = .ok (.getfield 20, 3) := de_b4 tX10_count_86 (by decide +kernel)
def tX10_count_89 := Bt_3 (q := 89) tX10_count_86 rfl
theorem dX10_count_89 : decode cX10_count 89 = .ok (.iload_n 3, 1) := de_1d tX10_count_89
def tX10_count_90 := Bt_1 (q := 90) tX10_count_89 rfl
theorem dX10_count_90 : decode cX10_count 90 = .ok (.baload, 1) := de_33 tX10_count_90
def tX10_count_91 := Bt_1 (q := 91) tX10_count_90 rfl
theorem dX10_count_91 : decode cX10_count 91 = .ok (.ifCond .eq 18, 3) := de_99 tX10_count_91 (by decide +kernel)
def tX10_count_94 := Bt_3 (q := 94) tX10_count_91 rfl
theorem dX10_count_94 : decode cX10_count 94 = .ok (.goto 11, 3) := de_a7 tX10_count_94 (by decide +kernel)
def tX10_count_97 := Bt_3 (q := 97) tX10_count_94 rfl
theorem dX10_count_97 : decode cX10_count 97 = .ok (.aload_n 0, 1) := de_2a tX10_count_97
def tX10_count_98 := Bt_1 (q := 98) tX10_count_97 rfl
theorem dX10_count_98 : decode cX10_count 98 = .ok (.iload_n 3, 1) := de_1d tX10_count_98
def tX10_count_99 := Bt_1 (q := 99) tX10_count_98 rfl
theorem dX10_count_99 : decode cX10_count 99 = .ok (.invokevirtual 197, 3) := de_b6 tX10_count_99 (by decide +kernel)
def tX10_count_102 := Bt_3 (q := 102) tX10_count_99 rfl
theorem dX10_count_102 : decode cX10_count 102 = .ok (.ifCond .eq 7, 3) := de_99 tX10_count_102 (by decide +kernel)
def tX10_count_105 := Bt_3 (q := 105) tX10_count_102 rfl
theorem dX10_count_105 : decode cX10_count 105 = .ok (.iconst 1, 1) := de_04 tX10_count_105
def tX10_count_106 := Bt_1 (q := 106) tX10_count_105 rfl
theorem dX10_count_106 : decode cX10_count 106 = .ok (.goto 4, 3) := de_a7 tX10_count_106 (by decide +kernel)
def tX10_count_109 := Bt_3 (q := 109) tX10_count_106 rfl
theorem dX10_count_109 : decode cX10_count 109 = .ok (.iconst 0, 1) := de_03 tX10_count_109
def tX10_count_110 := Bt_1 (q := 110) tX10_count_109 rfl
theorem dX10_count_110 : decode cX10_count 110 = .ok (.iadd, 1) := de_60 tX10_count_110
def tX10_count_111 := Bt_1 (q := 111) tX10_count_110 rfl
theorem dX10_count_111 : decode cX10_count 111 = .ok (.istore_n 2, 1) := de_3d tX10_count_111
def tX10_count_112 := Bt_1 (q := 112) tX10_count_111 rfl
theorem dX10_count_112 : decode cX10_count 112 = .ok (.iinc 3 1, 3) := de_84 tX10_count_112 (by decide +kernel) (by decide +kernel)
def tX10_count_115 := Bt_3 (q := 115) tX10_count_112 rfl
theorem dX10_count_115 : decode cX10_count 115 = .ok (.goto (-47), 3) := de_a7 tX10_count_115 (by decide +kernel)
def tX10_count_118 := Bt_3 (q := 118) tX10_count_115 rfl
theorem dX10_count_118 : decode cX10_count 118 = .ok (.iload_n 2, 1) := de_1c tX10_count_118
def tX10_count_119 := Bt_1 (q := 119) tX10_count_118 rfl
theorem dX10_count_119 : decode cX10_count 119 = .ok (.ireturn, 1) := de_ac tX10_count_119
def tX10_count_120 := Bt_1 (q := 120) tX10_count_119 rfl
theorem dX10_count_120 : decode cX10_count 120 = .ok (.aload_n 0, 1) := de_2a tX10_count_120
def tX10_count_121 := Bt_1 (q := 121) tX10_count_120 rfl
theorem dX10_count_121 : decode cX10_count 121 = .ok (.getfield 177, 3) := de_b4 tX10_count_121 (by decide +kernel)
def tX10_count_124 := Bt_3 (q := 124) tX10_count_121 rfl
theorem dX10_count_124 : decode cX10_count 124 = .ok (.ireturn, 1) := de_ac tX10_count_124
def tX10_count_125 := Bt_1 (q := 125) tX10_count_124 rfl
theorem dX10_count_125 : decode cX10_count 125 = .ok (.aload_n 0, 1) := de_2a tX10_count_125
def tX10_count_126 := Bt_1 (q := 126) tX10_count_125 rfl
theorem dX10_count_126 : decode cX10_count 126 = .ok (.invokevirtual 160, 3) := de_b6 tX10_count_126 (by decide +kernel)
def tX10_count_129 := Bt_3 (q := 129) tX10_count_126 rfl
theorem dX10_count_129 : decode cX10_count 129 = .ok (.ifCond .eq 7, 3) := de_99 tX10_count_129 (by decide +kernel)
def tX10_count_132 := Bt_3 (q := 132) tX10_count_129 rfl
theorem dX10_count_132 : decode cX10_count 132 = .ok (.iconst 1, 1) := de_04 tX10_count_132
def tX10_count_133 := Bt_1 (q := 133) tX10_count_132 rfl
theorem dX10_count_133 : decode cX10_count 133 = .ok (.goto 4, 3) := de_a7 tX10_count_133 (by decide +kernel)
def tX10_count_136 := Bt_3 (q := 136) tX10_count_133 rfl
theorem dX10_count_136 : decode cX10_count 136 = .ok (.iconst 0, 1) := de_03 tX10_count_136
def tX10_count_137 := Bt_1 (q := 137) tX10_count_136 rfl
theorem dX10_count_137 : decode cX10_count 137 = .ok (.ireturn, 1) := de_ac tX10_count_137
def tX10_count_138 := Bt_1 (q := 138) tX10_count_137 rfl
theorem dX10_count_138 : decode cX10_count 138 = .ok (.aload_n 0, 1) := de_2a tX10_count_138
def tX10_count_139 := Bt_1 (q := 139) tX10_count_138 rfl
theorem dX10_count_139 : decode cX10_count 139 = .ok (.getfield 356, 3) := de_b4 tX10_count_139 (by decide +kernel)
def tX10_count_142 := Bt_3 (q := 142) tX10_count_139 rfl
theorem dX10_count_142 : decode cX10_count 142 = .ok (.ifCond .eq 7, 3) := de_99 tX10_count_142 (by decide +kernel)
def tX10_count_145 := Bt_3 (q := 145) tX10_count_142 rfl
theorem dX10_count_145 : decode cX10_count 145 = .ok (.iconst 1, 1) := de_04 tX10_count_145
def tX10_count_146 := Bt_1 (q := 146) tX10_count_145 rfl
theorem dX10_count_146 : decode cX10_count 146 = .ok (.goto 4, 3) := de_a7 tX10_count_146 (by decide +kernel)
def tX10_count_149 := Bt_3 (q := 149) tX10_count_146 rfl
theorem dX10_count_149 : decode cX10_count 149 = .ok (.iconst 0, 1) := de_03 tX10_count_149
def tX10_count_150 := Bt_1 (q := 150) tX10_count_149 rfl
theorem dX10_count_150 : decode cX10_count 150 = .ok (.ireturn, 1) := de_ac tX10_count_150
def tX10_count_151 := Bt_1 (q := 151) tX10_count_150 rfl
theorem dX10_count_151 : decode cX10_count 151 = .ok (.aload_n 0, 1) := de_2a tX10_count_151
def tX10_count_152 := Bt_1 (q := 152) tX10_count_151 rfl
theorem dX10_count_152 : decode cX10_count 152 = .ok (.getfield 362, 3) := de_b4 tX10_count_152 (by decide +kernel)
def tX10_count_155 := Bt_3 (q := 155) tX10_count_152 rfl
theorem dX10_count_155 : decode cX10_count 155 = .ok (.ifCond .eq 7, 3) := de_99 tX10_count_155 (by decide +kernel)
def tX10_count_158 := Bt_3 (q := 158) tX10_count_155 rfl
theorem dX10_count_158 : decode cX10_count 158 = .ok (.iconst 1, 1) := de_04 tX10_count_158
def tX10_count_159 := Bt_1 (q := 159) tX10_count_158 rfl
theorem dX10_count_159 : decode cX10_count 159 = .ok (.goto 4, 3) := de_a7 tX10_count_159 (by decide +kernel)
def tX10_count_162 := Bt_3 (q := 162) tX10_count_159 rfl
theorem dX10_count_162 : decode cX10_count 162 = .ok (.iconst 0, 1) := de_03 tX10_count_162
def tX10_count_163 := Bt_1 (q := 163) tX10_count_162 rfl
theorem dX10_count_163 : decode cX10_count 163 = .ok (.ireturn, 1) := de_ac tX10_count_163
def tX10_count_164 := Bt_1 (q := 164) tX10_count_163 rfl
theorem dX10_count_164 : decode cX10_count 164 = .ok (.aload_n 0, 1) := de_2a tX10_count_164
def tX10_count_165 := Bt_1 (q := 165) tX10_count_164 rfl
theorem dX10_count_165 : decode cX10_count 165 = .ok (.invokevirtual 371, 3) := de_b6 tX10_count_165 (by decide +kernel)
def tX10_count_168 := Bt_3 (q := 168) tX10_count_165 rfl
theorem dX10_count_168 : decode cX10_count 168 = .ok (.ireturn, 1) := de_ac tX10_count_168
def tX10_count_169 := Bt_1 (q := 169) tX10_count_168 rfl
theorem dX10_count_169 : decode cX10_count 169 = .ok (.aload_n 0, 1) := de_2a tX10_count_169
def tX10_count_170 := Bt_1 (q := 170) tX10_count_169 rfl
theorem dX10_count_170 : decode cX10_count 170 = .ok (.getfield 223, 3) := de_b4 tX10_count_170 (by decide +kernel)
def tX10_count_173 := Bt_3 (q := 173) tX10_count_170 rfl
theorem dX10_count_173 : decode cX10_count 173 = .ok (.ireturn, 1) := de_ac tX10_count_173
def tX10_count_174 := Bt_1 (q := 174) tX10_count_173 rfl
theorem dX10_count_174 : decode cX10_count 174 = .ok (.iload_n 1, 1) := de_1b tX10_count_174
def tX10_count_175 := Bt_1 (q := 175) tX10_count_174 rfl
theorem dX10_count_175 : decode cX10_count 175 = .ok (.bipush 11, 2) := de_10 tX10_count_175 (by decide +kernel)
def tX10_count_177 := Bt_2 (q := 177) tX10_count_175 rfl
theorem dX10_count_177 : decode cX10_count 177 = .ok (.bipush 17, 2) := de_10 tX10_count_177 (by decide +kernel)
def tX10_count_179 := Bt_2 (q := 179) tX10_count_177 rfl
theorem dX10_count_179 : decode cX10_count 179 = .ok (.invokestatic 144, 3) := de_b8 tX10_count_179 (by decide +kernel)
def tX10_count_182 := Bt_3 (q := 182) tX10_count_179 rfl
theorem dX10_count_182 : decode cX10_count 182 = .ok (.ifCond .eq 15, 3) := de_99 tX10_count_182 (by decide +kernel)
def tX10_count_185 := Bt_3 (q := 185) tX10_count_182 rfl
theorem dX10_count_185 : decode cX10_count 185 = .ok (.aload_n 0, 1) := de_2a tX10_count_185
def tX10_count_186 := Bt_1 (q := 186) tX10_count_185 rfl
theorem dX10_count_186 : decode cX10_count 186 = .ok (.getfield 51, 3) := de_b4 tX10_count_186 (by decide +kernel)
def tX10_count_189 := Bt_3 (q := 189) tX10_count_186 rfl
theorem dX10_count_189 : decode cX10_count 189 = .ok (.iload_n 1, 1) := de_1b tX10_count_189
def tX10_count_190 := Bt_1 (q := 190) tX10_count_189 rfl
theorem dX10_count_190 : decode cX10_count 190 = .ok (.bipush 10, 2) := de_10 tX10_count_190 (by decide +kernel)
def tX10_count_192 := Bt_2 (q := 192) tX10_count_190 rfl
theorem dX10_count_192 : decode cX10_count 192 = .ok (.isub, 1) := de_64 tX10_count_192
def tX10_count_193 := Bt_1 (q := 193) tX10_count_192 rfl
theorem dX10_count_193 : decode cX10_count 193 = .ok (.iaload, 1) := de_2e tX10_count_193
def tX10_count_194 := Bt_1 (q := 194) tX10_count_193 rfl
theorem dX10_count_194 : decode cX10_count 194 = .ok (.goto 5, 3) := de_a7 tX10_count_194 (by decide +kernel)
def tX10_count_197 := Bt_3 (q := 197) tX10_count_194 rfl
theorem dX10_count_197 : decode cX10_count 197 = .ok (.bipush (-9), 2) := de_10 tX10_count_197 (by decide +kernel)
def tX10_count_199 := Bt_2 (q := 199) tX10_count_197 rfl
theorem dX10_count_199 : decode cX10_count 199 = .ok (.ireturn, 1) := de_ac tX10_count_199
