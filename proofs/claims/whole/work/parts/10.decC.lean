theorem dX11_init_0 : decode cX11_init 0 = .ok (.aload_n 0, 1) := by decide +kernel
theorem dX11_init_1 : decode cX11_init 1 = .ok (.invokespecial 1, 3) := by decide +kernel
theorem dX11_init_4 : decode cX11_init 4 = .ok (.aload_n 0, 1) := by decide +kernel
theorem dX11_init_5 : decode cX11_init 5 = .ok (.sipush 365, 3) := by decide +kernel
theorem dX11_init_8 : decode cX11_init 8 = .ok (.newarray .int, 2) := by decide +kernel
theorem dX11_init_10 : decode cX11_init 10 = .ok (.putfield 9, 3) := by decide +kernel
theorem dX11_init_13 : decode cX11_init 13 = .ok (.aload_n 0, 1) := by decide +kernel
theorem dX11_init_14 : decode cX11_init 14 = .ok (.bipush 12, 2) := by decide +kernel
theorem dX11_init_16 : decode cX11_init 16 = .ok (.newarray .long, 2) := by decide +kernel
theorem dX11_init_18 : decode cX11_init 18 = .ok (.putfield 13, 3) := by decide +kernel
theorem dX11_init_21 : decode cX11_init 21 = .ok (.aload_n 0, 1) := by decide +kernel
theorem dX11_init_22 : decode cX11_init 22 = .ok (.sipush 7300, 3) := by decide +kernel
theorem dX11_init_25 : decode cX11_init 25 = .ok (.newarray .int, 2) := by decide +kernel
theorem dX11_init_27 : decode cX11_init 27 = .ok (.putfield 17, 3) := by decide +kernel
theorem dX11_init_30 : decode cX11_init 30 = .ok (.aload_n 0, 1) := by decide +kernel
theorem dX11_init_31 : decode cX11_init 31 = .ok (.sipush 240, 3) := by decide +kernel
theorem dX11_init_34 : decode cX11_init 34 = .ok (.newarray .long, 2) := by decide +kernel
theorem dX11_init_36 : decode cX11_init 36 = .ok (.putfield 20, 3) := by decide +kernel
theorem dX11_init_39 : decode cX11_init 39 = .ok (.aload_n 0, 1) := by decide +kernel
theorem dX11_init_40 : decode cX11_init 40 = .ok (.iconst 4, 1) := by decide +kernel
theorem dX11_init_41 : decode cX11_init 41 = .ok (.newarray .int, 2) := by decide +kernel
theorem dX11_init_43 : decode cX11_init 43 = .ok (.putfield 23, 3) := by decide +kernel
theorem dX11_init_46 : decode cX11_init 46 = .ok (.aload_n 0, 1) := by decide +kernel
theorem dX11_init_47 : decode cX11_init 47 = .ok (.iconst 4, 1) := by decide +kernel
theorem dX11_init_48 : decode cX11_init 48 = .ok (.newarray .int, 2) := by decide +kernel
theorem dX11_init_50 : decode cX11_init 50 = .ok (.putfield 26, 3) := by decide +kernel
theorem dX11_init_53 : decode cX11_init 53 = .ok (.aload_n 0, 1) := by decide +kernel
theorem dX11_init_54 : decode cX11_init 54 = .ok (.bipush 120, 2) := by decide +kernel
theorem dX11_init_56 : decode cX11_init 56 = .ok (.newarray .int, 2) := by decide +kernel
theorem dX11_init_58 : decode cX11_init 58 = .ok (.putfield 29, 3) := by decide +kernel
theorem dX11_init_61 : decode cX11_init 61 = .ok (.aload_n 0, 1) := by decide +kernel
theorem dX11_init_62 : decode cX11_init 62 = .ok (.sipush 225, 3) := by decide +kernel
theorem dX11_init_65 : decode cX11_init 65 = .ok (.newarray .int, 2) := by decide +kernel
theorem dX11_init_67 : decode cX11_init 67 = .ok (.putfield 32, 3) := by decide +kernel
theorem dX11_init_70 : decode cX11_init 70 = .ok (.aload_n 0, 1) := by decide +kernel
theorem dX11_init_71 : decode cX11_init 71 = .ok (.bipush 8, 2) := by decide +kernel
theorem dX11_init_73 : decode cX11_init 73 = .ok (.newarray .int, 2) := by decide +kernel
theorem dX11_init_75 : decode cX11_init 75 = .ok (.putfield 35, 3) := by decide +kernel
theorem dX11_init_78 : decode cX11_init 78 = .ok (.aload_n 0, 1) := by decide +kernel
theorem dX11_init_79 : decode cX11_init 79 = .ok (.bipush 8, 2) := by decide +kernel
theorem dX11_init_81 : decode cX11_init 81 = .ok (.newarray .int, 2) := by decide +kernel
theorem dX11_init_83 : decode cX11_init 83 = .ok (.putfield 38, 3) := by decide +kernel
theorem dX11_init_86 : decode cX11_init 86 = .ok (.aload_n 0, 1) := by decide +kernel
theorem dX11_init_87 : decode cX11_init 87 = .ok (.bipush 7, 2) := by decide +kernel
theorem dX11_init_89 : decode cX11_init 89 = .ok (.newarray .int, 2) := by decide +kernel
theorem dX11_init_91 : decode cX11_init 91 = .ok (.putfield 41, 3) := by decide +kernel
theorem dX11_init_94 : decode cX11_init 94 = .ok (.aload_n 0, 1) := by decide +kernel
theorem dX11_init_95 : decode cX11_init 95 = .ok (.bipush 7, 2) := by decide +kernel
theorem dX11_init_97 : decode cX11_init 97 = .ok (.newarray .int, 2) := by decide +kernel
theorem dX11_init_99 : decode cX11_init 99 = .ok (.putfield 44, 3) := by decide +kernel
theorem dX11_init_102 : decode cX11_init 102 = .ok (.aload_n 0, 1) := by decide +kernel
theorem dX11_init_103 : decode cX11_init 103 = .ok (.bipush 7, 2) := by decide +kernel
theorem dX11_init_105 : decode cX11_init 105 = .ok (.newarray .int, 2) := by decide +kernel
theorem dX11_init_107 : decode cX11_init 107 = .ok (.putfield 47, 3) := by decide +kernel
theorem dX11_init_110 : decode cX11_init 110 = .ok (.aload_n 0, 1) := by decide +kernel
theorem dX11_init_111 : decode cX11_init 111 = .ok (.sipush 625, 3) := by decide +kernel
theorem dX11_init_114 : decode cX11_init 114 = .ok (.newarray .int, 2) := by decide +kernel
theorem dX11_init_116 : decode cX11_init 116 = .ok (.putfield 50, 3) := by decide +kernel
theorem dX11_init_119 : decode cX11_init 119 = .ok (.aload_n 0, 1) := by decide +kernel
theorem dX11_init_120 : decode cX11_init 120 = .ok (.bipush 30, 2) := by decide +kernel
theorem dX11_init_122 : decode cX11_init 122 = .ok (.newarray .int, 2) := by decide +kernel
theorem dX11_init_124 : decode cX11_init 124 = .ok (.putfield 53, 3) := by decide +kernel
theorem dX11_init_127 : decode cX11_init 127 = .ok (.iconst 0, 1) := by decide +kernel
theorem dX11_init_128 : decode cX11_init 128 = .ok (.istore_n 1, 1) := by decide +kernel
theorem dX11_init_129 : decode cX11_init 129 = .ok (.iload_n 1, 1) := by decide +kernel
theorem dX11_init_130 : decode cX11_init 130 = .ok (.bipush 32, 2) := by decide +kernel
theorem dX11_init_132 : decode cX11_init 132 = .ok (.if_icmp .ge 20, 3) := by decide +kernel
theorem dX11_init_135 : decode cX11_init 135 = .ok (.aload_n 0, 1) := by decide +kernel
theorem dX11_init_136 : decode cX11_init 136 = .ok (.getfield 9, 3) := by decide +kernel
theorem dX11_init_139 : decode cX11_init 139 = .ok (.sipush 308, 3) := by decide +kernel
theorem dX11_init_142 : decode cX11_init 142 = .ok (.iload_n 1, 1) := by decide +kernel
theorem dX11_init_143 : decode cX11_init 143 = .ok (.iadd, 1) := by decide +kernel
theorem dX11_init_144 : decode cX11_init 144 = .ok (.iconst (-1), 1) := by decide +kernel
theorem dX11_init_145 : decode cX11_init 145 = .ok (.iastore, 1) := by decide +kernel
theorem dX11_init_146 : decode cX11_init 146 = .ok (.iinc 1 1, 3) := by decide +kernel
theorem dX11_init_149 : decode cX11_init 149 = .ok (.goto (-20), 3) := by decide +kernel
theorem dX11_init_152 : decode cX11_init 152 = .ok (.iconst 0, 1) := by decide +kernel
theorem dX11_init_153 : decode cX11_init 153 = .ok (.istore_n 1, 1) := by decide +kernel
theorem dX11_init_154 : decode cX11_init 154 = .ok (.iload_n 1, 1) := by decide +kernel
theorem dX11_init_155 : decode cX11_init 155 = .ok (.bipush 6, 2) := by decide +kernel
theorem dX11_init_157 : decode cX11_init 157 = .ok (.if_icmp .ge 20, 3) := by decide +kernel
theorem dX11_init_160 : decode cX11_init 160 = .ok (.aload_n 0, 1) := by decide +kernel
theorem dX11_init_161 : decode cX11_init 161 = .ok (.getfield 9, 3) := by decide +kernel
theorem dX11_init_164 : decode cX11_init 164 = .ok (.sipush 340, 3) := by decide +kernel
theorem dX11_init_167 : decode cX11_init 167 = .ok (.iload_n 1, 1) := by decide +kernel
theorem dX11_init_168 : decode cX11_init 168 = .ok (.iadd, 1) := by decide +kernel
theorem dX11_init_169 : decode cX11_init 169 = .ok (.iconst (-1), 1) := by decide +kernel
theorem dX11_init_170 : decode cX11_init 170 = .ok (.iastore, 1) := by decide +kernel
theorem dX11_init_171 : decode cX11_init 171 = .ok (.iinc 1 1, 3) := by decide +kernel
theorem dX11_init_174 : decode cX11_init 174 = .ok (.goto (-20), 3) := by decide +kernel
theorem dX11_init_177 : decode cX11_init 177 = .ok (.iconst 0, 1) := by decide +kernel
theorem dX11_init_178 : decode cX11_init 178 = .ok (.istore_n 1, 1) := by decide +kernel
theorem dX11_init_179 : decode cX11_init 179 = .ok (.iload_n 1, 1) := by decide +kernel
theorem dX11_init_180 : decode cX11_init 180 = .ok (.bipush 8, 2) := by decide +kernel
theorem dX11_init_182 : decode cX11_init 182 = .ok (.if_icmp .ge 21, 3) := by decide +kernel
theorem dX11_init_185 : decode cX11_init 185 = .ok (.aload_n 0, 1) := by decide +kernel
theorem dX11_init_186 : decode cX11_init 186 = .ok (.getfield 9, 3) := by decide +kernel
theorem dX11_init_189 : decode cX11_init 189 = .ok (.sipush 346, 3) := by decide +kernel
theorem dX11_init_192 : decode cX11_init 192 = .ok (.iload_n 1, 1) := by decide +kernel
theorem dX11_init_193 : decode cX11_init 193 = .ok (.iadd, 1) := by decide +kernel
theorem dX11_init_194 : decode cX11_init 194 = .ok (.bipush 15, 2) := by decide +kernel
theorem dX11_init_196 : decode cX11_init 196 = .ok (.iastore, 1) := by decide +kernel
theorem dX11_init_197 : decode cX11_init 197 = .ok (.iinc 1 1, 3) := by decide +kernel
theorem dX11_init_200 : decode cX11_init 200 = .ok (.goto (-21), 3) := by decide +kernel
theorem dX11_init_203 : decode cX11_init 203 = .ok (.iconst 0, 1) := by decide +kernel
theorem dX11_init_204 : decode cX11_init 204 = .ok (.istore_n 1, 1) := by decide +kernel
theorem dX11_init_205 : decode cX11_init 205 = .ok (.iload_n 1, 1) := by decide +kernel
theorem dX11_init_206 : decode cX11_init 206 = .ok (.iconst 4, 1) := by decide +kernel
theorem dX11_init_207 : decode cX11_init 207 = .ok (.if_icmp .ge 21, 3) := by decide +kernel
theorem dX11_init_210 : decode cX11_init 210 = .ok (.aload_n 0, 1) := by decide +kernel
theorem dX11_init_211 : decode cX11_init 211 = .ok (.getfield 9, 3) := by decide +kernel
theorem dX11_init_214 : decode cX11_init 214 = .ok (.sipush 354, 3) := by decide +kernel
theorem dX11_init_217 : decode cX11_init 217 = .ok (.iload_n 1, 1) := by decide +kernel
theorem dX11_init_218 : decode cX11_init 218 = .ok (.iadd, 1) := by decide +kernel
theorem dX11_init_219 : decode cX11_init 219 = .ok (.bipush 60, 2) := by decide +kernel
theorem dX11_init_221 : decode cX11_init 221 = .ok (.iastore, 1) := by decide +kernel
theorem dX11_init_222 : decode cX11_init 222 = .ok (.iinc 1 1, 3) := by decide +kernel
theorem dX11_init_225 : decode cX11_init 225 = .ok (.goto (-20), 3) := by decide +kernel
theorem dX11_init_228 : decode cX11_init 228 = .ok (.return_, 1) := by decide +kernel
theorem dX11_finding_0 : decode cX11_finding 0 = .ok (.aload_n 0, 1) := by decide +kernel
theorem dX11_finding_1 : decode cX11_finding 1 = .ok (.dup, 1) := by decide +kernel
theorem dX11_finding_2 : decode cX11_finding 2 = .ok (.getfield 56, 3) := by decide +kernel
theorem dX11_finding_5 : decode cX11_finding 5 = .ok (.iconst 1, 1) := by decide +kernel
theorem dX11_finding_6 : decode cX11_finding 6 = .ok (.iadd, 1) := by decide +kernel
theorem dX11_finding_7 : decode cX11_finding 7 = .ok (.putfield 56, 3) := by decide +kernel
theorem dX11_finding_10 : decode cX11_finding 10 = .ok (.iload_n 1, 1) := by decide +kernel
theorem dX11_finding_11 : decode cX11_finding 11 = .ok (.ireturn, 1) := by decide +kernel
theorem dX11_within_0 : decode cX11_within 0 = .ok (.iload_n 0, 1) := by decide +kernel
theorem dX11_within_1 : decode cX11_within 1 = .ok (.iload_n 1, 1) := by decide +kernel
theorem dX11_within_2 : decode cX11_within 2 = .ok (.if_icmp .lt 12, 3) := by decide +kernel
theorem dX11_within_5 : decode cX11_within 5 = .ok (.iload_n 0, 1) := by decide +kernel
theorem dX11_within_6 : decode cX11_within 6 = .ok (.iload_n 2, 1) := by decide +kernel
theorem dX11_within_7 : decode cX11_within 7 = .ok (.if_icmp .gt 7, 3) := by decide +kernel
theorem dX11_within_10 : decode cX11_within 10 = .ok (.iconst 1, 1) := by decide +kernel
theorem dX11_within_11 : decode cX11_within 11 = .ok (.goto 4, 3) := by decide +kernel
theorem dX11_within_14 : decode cX11_within 14 = .ok (.iconst 0, 1) := by decide +kernel
theorem dX11_within_15 : decode cX11_within 15 = .ok (.ireturn, 1) := by decide +kernel
theorem dX11_isLine_0 : decode cX11_isLine 0 = .ok (.iload_n 1, 1) := by decide +kernel
theorem dX11_isLine_1 : decode cX11_isLine 1 = .ok (.iconst 0, 1) := by decide +kernel
theorem dX11_isLine_2 : decode cX11_isLine 2 = .ok (.aload_n 0, 1) := by decide +kernel
theorem dX11_isLine_3 : decode cX11_isLine 3 = .ok (.getfield 9, 3) := by decide +kernel
theorem dX11_isLine_6 : decode cX11_isLine 6 = .ok (.iconst 0, 1) := by decide +kernel
theorem dX11_isLine_7 : decode cX11_isLine 7 = .ok (.iaload, 1) := by decide +kernel
theorem dX11_isLine_8 : decode cX11_isLine 8 = .ok (.iconst 1, 1) := by decide +kernel
theorem dX11_isLine_9 : decode cX11_isLine 9 = .ok (.isub, 1) := by decide +kernel
theorem dX11_isLine_10 : decode cX11_isLine 10 = .ok (.invokestatic 60, 3) := by decide +kernel
theorem dX11_isLine_13 : decode cX11_isLine 13 = .ok (.ireturn, 1) := by decide +kernel
theorem dX11_isWording_0 : decode cX11_isWording 0 = .ok (.iload_n 1, 1) := by decide +kernel
theorem dX11_isWording_1 : decode cX11_isWording 1 = .ok (.iconst 0, 1) := by decide +kernel
theorem dX11_isWording_2 : decode cX11_isWording 2 = .ok (.aload_n 0, 1) := by decide +kernel
theorem dX11_isWording_3 : decode cX11_isWording 3 = .ok (.getfield 9, 3) := by decide +kernel
theorem dX11_isWording_6 : decode cX11_isWording 6 = .ok (.iconst 1, 1) := by decide +kernel
theorem dX11_isWording_7 : decode cX11_isWording 7 = .ok (.iaload, 1) := by decide +kernel
theorem dX11_isWording_8 : decode cX11_isWording 8 = .ok (.iconst 1, 1) := by decide +kernel
theorem dX11_isWording_9 : decode cX11_isWording 9 = .ok (.isub, 1) := by decide +kernel
theorem dX11_isWording_10 : decode cX11_isWording 10 = .ok (.invokestatic 60, 3) := by decide +kernel
theorem dX11_isWording_13 : decode cX11_isWording 13 = .ok (.ireturn, 1) := by decide +kernel
theorem dX11_isLand_0 : decode cX11_isLand 0 = .ok (.iload_n 0, 1) := by decide +kernel
theorem dX11_isLand_1 : decode cX11_isLand 1 = .ok (.iconst 0, 1) := by decide +kernel
theorem dX11_isLand_2 : decode cX11_isLand 2 = .ok (.iconst 2, 1) := by decide +kernel
theorem dX11_isLand_3 : decode cX11_isLand 3 = .ok (.invokestatic 60, 3) := by decide +kernel
theorem dX11_isLand_6 : decode cX11_isLand 6 = .ok (.ireturn, 1) := by decide +kernel
theorem dX11_isDay_0 : decode cX11_isDay 0 = .ok (.iload_n 0, 1) := by decide +kernel
theorem dX11_isDay_1 : decode cX11_isDay 1 = .ok (.iconst 0, 1) := by decide +kernel
theorem dX11_isDay_2 : decode cX11_isDay 2 = .ok (.sipush 999, 3) := by decide +kernel
theorem dX11_isDay_5 : decode cX11_isDay 5 = .ok (.invokestatic 60, 3) := by decide +kernel
theorem dX11_isDay_8 : decode cX11_isDay 8 = .ok (.ireturn, 1) := by decide +kernel
theorem dX11_isWord_0 : decode cX11_isWord 0 = .ok (.iload_n 0, 1) := by decide +kernel
theorem dX11_isWord_1 : decode cX11_isWord 1 = .ok (.iconst 0, 1) := by decide +kernel
theorem dX11_isWord_2 : decode cX11_isWord 2 = .ok (.bipush 31, 2) := by decide +kernel
theorem dX11_isWord_4 : decode cX11_isWord 4 = .ok (.invokestatic 60, 3) := by decide +kernel
theorem dX11_isWord_7 : decode cX11_isWord 7 = .ok (.ireturn, 1) := by decide +kernel
theorem dX11_keep_0 : decode cX11_keep 0 = .ok (.aload_n 0, 1) := by decide +kernel
theorem dX11_keep_1 : decode cX11_keep 1 = .ok (.getfield 64, 3) := by decide +kernel
theorem dX11_keep_4 : decode cX11_keep 4 = .ok (.bipush 20, 2) := by decide +kernel
theorem dX11_keep_6 : decode cX11_keep 6 = .ok (.if_icmp .ne 74, 3) := by decide +kernel
theorem dX11_keep_9 : decode cX11_keep 9 = .ok (.iconst 0, 1) := by decide +kernel
theorem dX11_keep_10 : decode cX11_keep 10 = .ok (.istore_n 1, 1) := by decide +kernel
theorem dX11_keep_11 : decode cX11_keep 11 = .ok (.iload_n 1, 1) := by decide +kernel
theorem dX11_keep_12 : decode cX11_keep 12 = .ok (.sipush 6935, 3) := by decide +kernel
theorem dX11_keep_15 : decode cX11_keep 15 = .ok (.if_icmp .ge 25, 3) := by decide +kernel
theorem dX11_keep_18 : decode cX11_keep 18 = .ok (.aload_n 0, 1) := by decide +kernel
theorem dX11_keep_19 : decode cX11_keep 19 = .ok (.getfield 17, 3) := by decide +kernel
theorem dX11_keep_22 : decode cX11_keep 22 = .ok (.iload_n 1, 1) := by decide +kernel
theorem dX11_keep_23 : decode cX11_keep 23 = .ok (.aload_n 0, 1) := by decide +kernel
theorem dX11_keep_24 : decode cX11_keep 24 = .ok (.getfield 17, 3) := by decide +kernel
theorem dX11_keep_27 : decode cX11_keep 27 = .ok (.iload_n 1, 1) := by decide +kernel
theorem dX11_keep_28 : decode cX11_keep 28 = .ok (.sipush 365, 3) := by decide +kernel
theorem dX11_keep_31 : decode cX11_keep 31 = .ok (.iadd, 1) := by decide +kernel
theorem dX11_keep_32 : decode cX11_keep 32 = .ok (.iaload, 1) := by decide +kernel
theorem dX11_keep_33 : decode cX11_keep 33 = .ok (.iastore, 1) := by decide +kernel
theorem dX11_keep_34 : decode cX11_keep 34 = .ok (.iinc 1 1, 3) := by decide +kernel
theorem dX11_keep_37 : decode cX11_keep 37 = .ok (.goto (-26), 3) := by decide +kernel
theorem dX11_keep_40 : decode cX11_keep 40 = .ok (.iconst 0, 1) := by decide +kernel
theorem dX11_keep_41 : decode cX11_keep 41 = .ok (.istore_n 1, 1) := by decide +kernel
theorem dX11_keep_42 : decode cX11_keep 42 = .ok (.iload_n 1, 1) := by decide +kernel
theorem dX11_keep_43 : decode cX11_keep 43 = .ok (.sipush 228, 3) := by decide +kernel
theorem dX11_keep_46 : decode cX11_keep 46 = .ok (.if_icmp .ge 24, 3) := by decide +kernel
theorem dX11_keep_49 : decode cX11_keep 49 = .ok (.aload_n 0, 1) := by decide +kernel
theorem dX11_keep_50 : decode cX11_keep 50 = .ok (.getfield 20, 3) := by decide +kernel
theorem dX11_keep_53 : decode cX11_keep 53 = .ok (.iload_n 1, 1) := by decide +kernel
theorem dX11_keep_54 : decode cX11_keep 54 = .ok (.aload_n 0, 1) := by decide +kernel
theorem dX11_keep_55 : decode cX11_keep 55 = .ok (.getfield 20, 3) := by decide +kernel
theorem dX11_keep_58 : decode cX11_keep 58 = .ok (.iload_n 1, 1) := by decide +kernel
theorem dX11_keep_59 : decode cX11_keep 59 = .ok (.bipush 12, 2) := by decide +kernel
theorem dX11_keep_61 : decode cX11_keep 61 = .ok (.iadd, 1) := by decide +kernel
theorem dX11_keep_62 : decode cX11_keep 62 = .ok (.laload, 1) := by decide +kernel
theorem dX11_keep_63 : decode cX11_keep 63 = .ok (.lastore, 1) := by decide +kernel
theorem dX11_keep_64 : decode cX11_keep 64 = .ok (.iinc 1 1, 3) := by decide +kernel
theorem dX11_keep_67 : decode cX11_keep 67 = .ok (.goto (-25), 3) := by decide +kernel
theorem dX11_keep_70 : decode cX11_keep 70 = .ok (.aload_n 0, 1) := by decide +kernel
theorem dX11_keep_71 : decode cX11_keep 71 = .ok (.dup, 1) := by decide +kernel
theorem dX11_keep_72 : decode cX11_keep 72 = .ok (.getfield 64, 3) := by decide +kernel
theorem dX11_keep_75 : decode cX11_keep 75 = .ok (.iconst 1, 1) := by decide +kernel
theorem dX11_keep_76 : decode cX11_keep 76 = .ok (.isub, 1) := by decide +kernel
theorem dX11_keep_77 : decode cX11_keep 77 = .ok (.putfield 64, 3) := by decide +kernel
theorem dX11_keep_80 : decode cX11_keep 80 = .ok (.iconst 0, 1) := by decide +kernel
theorem dX11_keep_81 : decode cX11_keep 81 = .ok (.istore_n 1, 1) := by decide +kernel
theorem dX11_keep_82 : decode cX11_keep 82 = .ok (.iload_n 1, 1) := by decide +kernel
theorem dX11_keep_83 : decode cX11_keep 83 = .ok (.sipush 365, 3) := by decide +kernel
theorem dX11_keep_86 : decode cX11_keep 86 = .ok (.if_icmp .ge 30, 3) := by decide +kernel
theorem dX11_keep_89 : decode cX11_keep 89 = .ok (.aload_n 0, 1) := by decide +kernel
theorem dX11_keep_90 : decode cX11_keep 90 = .ok (.getfield 17, 3) := by decide +kernel
theorem dX11_keep_93 : decode cX11_keep 93 = .ok (.aload_n 0, 1) := by decide +kernel
theorem dX11_keep_94 : decode cX11_keep 94 = .ok (.getfield 64, 3) := by decide +kernel
theorem dX11_keep_97 : decode cX11_keep 97 = .ok (.sipush 365, 3) := by decide +kernel
theorem dX11_keep_100 : decode cX11_keep 100 = .ok (.imul, 1) := by decide +kernel
theorem dX11_keep_101 : decode cX11_keep 101 = .ok (.iload_n 1, 1) := by decide +kernel
theorem dX11_keep_102 : decode cX11_keep 102 = .ok (.iadd, 1) := by decide +kernel
theorem dX11_keep_103 : decode cX11_keep 103 = .ok (.aload_n 0, 1) := by decide +kernel
theorem dX11_keep_104 : decode cX11_keep 104 = .ok (.getfield 9, 3) := by decide +kernel
theorem dX11_keep_107 : decode cX11_keep 107 = .ok (.iload_n 1, 1) := by decide +kernel
theorem dX11_keep_108 : decode cX11_keep 108 = .ok (.iaload, 1) := by decide +kernel
theorem dX11_keep_109 : decode cX11_keep 109 = .ok (.iastore, 1) := by decide +kernel
theorem dX11_keep_110 : decode cX11_keep 110 = .ok (.iinc 1 1, 3) := by decide +kernel
theorem dX11_keep_113 : decode cX11_keep 113 = .ok (.goto (-31), 3) := by decide +kernel
theorem dX11_keep_116 : decode cX11_keep 116 = .ok (.iconst 0, 1) := by decide +kernel
theorem dX11_keep_117 : decode cX11_keep 117 = .ok (.istore_n 1, 1) := by decide +kernel
theorem dX11_keep_118 : decode cX11_keep 118 = .ok (.iload_n 1, 1) := by decide +kernel
theorem dX11_keep_119 : decode cX11_keep 119 = .ok (.bipush 12, 2) := by decide +kernel
theorem dX11_keep_121 : decode cX11_keep 121 = .ok (.if_icmp .ge 29, 3) := by decide +kernel
theorem dX11_keep_124 : decode cX11_keep 124 = .ok (.aload_n 0, 1) := by decide +kernel
theorem dX11_keep_125 : decode cX11_keep 125 = .ok (.getfield 20, 3) := by decide +kernel
theorem dX11_keep_128 : decode cX11_keep 128 = .ok (.aload_n 0, 1) := by decide +kernel
theorem dX11_keep_129 : decode cX11_keep 129 = .ok (.getfield 64, 3) := by decide +kernel
theorem dX11_keep_132 : decode cX11_keep 132 = .ok (.bipush 12, 2) := by decide +kernel
theorem dX11_keep_134 : decode cX11_keep 134 = .ok (.imul, 1) := by decide +kernel
theorem dX11_keep_135 : decode cX11_keep 135 = .ok (.iload_n 1, 1) := by decide +kernel
theorem dX11_keep_136 : decode cX11_keep 136 = .ok (.iadd, 1) := by decide +kernel
theorem dX11_keep_137 : decode cX11_keep 137 = .ok (.aload_n 0, 1) := by decide +kernel
theorem dX11_keep_138 : decode cX11_keep 138 = .ok (.getfield 13, 3) := by decide +kernel
theorem dX11_keep_141 : decode cX11_keep 141 = .ok (.iload_n 1, 1) := by decide +kernel
theorem dX11_keep_142 : decode cX11_keep 142 = .ok (.laload, 1) := by decide +kernel
theorem dX11_keep_143 : decode cX11_keep 143 = .ok (.lastore, 1) := by decide +kernel
theorem dX11_keep_144 : decode cX11_keep 144 = .ok (.iinc 1 1, 3) := by decide +kernel
theorem dX11_keep_147 : decode cX11_keep 147 = .ok (.goto (-29), 3) := by decide +kernel
theorem dX11_keep_150 : decode cX11_keep 150 = .ok (.aload_n 0, 1) := by decide +kernel
theorem dX11_keep_151 : decode cX11_keep 151 = .ok (.dup, 1) := by decide +kernel
theorem dX11_keep_152 : decode cX11_keep 152 = .ok (.getfield 64, 3) := by decide +kernel
theorem dX11_keep_155 : decode cX11_keep 155 = .ok (.iconst 1, 1) := by decide +kernel
theorem dX11_keep_156 : decode cX11_keep 156 = .ok (.iadd, 1) := by decide +kernel
theorem dX11_keep_157 : decode cX11_keep 157 = .ok (.putfield 64, 3) := by decide +kernel
theorem dX11_keep_160 : decode cX11_keep 160 = .ok (.return_, 1) := by decide +kernel
theorem dX11_undo_0 : decode cX11_undo 0 = .ok (.aload_n 0, 1) := by decide +kernel
theorem dX11_undo_1 : decode cX11_undo 1 = .ok (.getfield 64, 3) := by decide +kernel
theorem dX11_undo_4 : decode cX11_undo 4 = .ok (.ifCond .ne 10, 3) := by decide +kernel
theorem dX11_undo_7 : decode cX11_undo 7 = .ok (.aload_n 0, 1) := by decide +kernel
theorem dX11_undo_8 : decode cX11_undo 8 = .ok (.ldc 67, 2) := by decide +kernel
theorem dX11_undo_10 : decode cX11_undo 10 = .ok (.invokevirtual 68, 3) := by decide +kernel
theorem dX11_undo_13 : decode cX11_undo 13 = .ok (.ireturn, 1) := by decide +kernel
theorem dX11_undo_14 : decode cX11_undo 14 = .ok (.aload_n 0, 1) := by decide +kernel
theorem dX11_undo_15 : decode cX11_undo 15 = .ok (.dup, 1) := by decide +kernel
theorem dX11_undo_16 : decode cX11_undo 16 = .ok (.getfield 64, 3) := by decide +kernel
theorem dX11_undo_19 : decode cX11_undo 19 = .ok (.iconst 1, 1) := by decide +kernel
theorem dX11_undo_20 : decode cX11_undo 20 = .ok (.isub, 1) := by decide +kernel
theorem dX11_undo_21 : decode cX11_undo 21 = .ok (.putfield 64, 3) := by decide +kernel
theorem dX11_undo_24 : decode cX11_undo 24 = .ok (.iconst 0, 1) := by decide +kernel
theorem dX11_undo_25 : decode cX11_undo 25 = .ok (.istore_n 1, 1) := by decide +kernel
theorem dX11_undo_26 : decode cX11_undo 26 = .ok (.iload_n 1, 1) := by decide +kernel
theorem dX11_undo_27 : decode cX11_undo 27 = .ok (.sipush 365, 3) := by decide +kernel
theorem dX11_undo_30 : decode cX11_undo 30 = .ok (.if_icmp .ge 30, 3) := by decide +kernel
theorem dX11_undo_33 : decode cX11_undo 33 = .ok (.aload_n 0, 1) := by decide +kernel
theorem dX11_undo_34 : decode cX11_undo 34 = .ok (.getfield 9, 3) := by decide +kernel
theorem dX11_undo_37 : decode cX11_undo 37 = .ok (.iload_n 1, 1) := by decide +kernel
theorem dX11_undo_38 : decode cX11_undo 38 = .ok (.aload_n 0, 1) := by decide +kernel
theorem dX11_undo_39 : decode cX11_undo 39 = .ok (.getfield 17, 3) := by decide +kernel
theorem dX11_undo_42 : decode cX11_undo 42 = .ok (.aload_n 0, 1) := by decide +kernel
theorem dX11_undo_43 : decode cX11_undo 43 = .ok (.getfield 64, 3) := by decide +kernel
theorem dX11_undo_46 : decode cX11_undo 46 = .ok (.sipush 365, 3) := by decide +kernel
theorem dX11_undo_49 : decode cX11_undo 49 = .ok (.imul, 1) := by decide +kernel
theorem dX11_undo_50 : decode cX11_undo 50 = .ok (.iload_n 1, 1) := by decide +kernel
theorem dX11_undo_51 : decode cX11_undo 51 = .ok (.iadd, 1) := by decide +kernel
theorem dX11_undo_52 : decode cX11_undo 52 = .ok (.iaload, 1) := by decide +kernel
theorem dX11_undo_53 : decode cX11_undo 53 = .ok (.iastore, 1) := by decide +kernel
theorem dX11_undo_54 : decode cX11_undo 54 = .ok (.iinc 1 1, 3) := by decide +kernel
theorem dX11_undo_57 : decode cX11_undo 57 = .ok (.goto (-31), 3) := by decide +kernel
theorem dX11_undo_60 : decode cX11_undo 60 = .ok (.iconst 0, 1) := by decide +kernel
theorem dX11_undo_61 : decode cX11_undo 61 = .ok (.istore_n 1, 1) := by decide +kernel
theorem dX11_undo_62 : decode cX11_undo 62 = .ok (.iload_n 1, 1) := by decide +kernel
theorem dX11_undo_63 : decode cX11_undo 63 = .ok (.bipush 12, 2) := by decide +kernel
theorem dX11_undo_65 : decode cX11_undo 65 = .ok (.if_icmp .ge 29, 3) := by decide +kernel
theorem dX11_undo_68 : decode cX11_undo 68 = .ok (.aload_n 0, 1) := by decide +kernel
theorem dX11_undo_69 : decode cX11_undo 69 = .ok (.getfield 13, 3) := by decide +kernel
theorem dX11_undo_72 : decode cX11_undo 72 = .ok (.iload_n 1, 1) := by decide +kernel
theorem dX11_undo_73 : decode cX11_undo 73 = .ok (.aload_n 0, 1) := by decide +kernel
theorem dX11_undo_74 : decode cX11_undo 74 = .ok (.getfield 20, 3) := by decide +kernel
theorem dX11_undo_77 : decode cX11_undo 77 = .ok (.aload_n 0, 1) := by decide +kernel
theorem dX11_undo_78 : decode cX11_undo 78 = .ok (.getfield 64, 3) := by decide +kernel
theorem dX11_undo_81 : decode cX11_undo 81 = .ok (.bipush 12, 2) := by decide +kernel
theorem dX11_undo_83 : decode cX11_undo 83 = .ok (.imul, 1) := by decide +kernel
theorem dX11_undo_84 : decode cX11_undo 84 = .ok (.iload_n 1, 1) := by decide +kernel
theorem dX11_undo_85 : decode cX11_undo 85 = .ok (.iadd, 1) := by decide +kernel
theorem dX11_undo_86 : decode cX11_undo 86 = .ok (.laload, 1) := by decide +kernel
theorem dX11_undo_87 : decode cX11_undo 87 = .ok (.lastore, 1) := by decide +kernel
theorem dX11_undo_88 : decode cX11_undo 88 = .ok (.iinc 1 1, 3) := by decide +kernel
theorem dX11_undo_91 : decode cX11_undo 91 = .ok (.goto (-29), 3) := by decide +kernel
theorem dX11_undo_94 : decode cX11_undo 94 = .ok (.aload_n 0, 1) := by decide +kernel
theorem dX11_undo_95 : decode cX11_undo 95 = .ok (.getfield 64, 3) := by decide +kernel
theorem dX11_undo_98 : decode cX11_undo 98 = .ok (.ireturn, 1) := by decide +kernel
theorem dX11_line_0 : decode cX11_line 0 = .ok (.iload_n 1, 1) := by decide +kernel
theorem dX11_line_1 : decode cX11_line 1 = .ok (.iconst 0, 1) := by decide +kernel
theorem dX11_line_2 : decode cX11_line 2 = .ok (.iconst 5, 1) := by decide +kernel
theorem dX11_line_3 : decode cX11_line 3 = .ok (.invokestatic 60, 3) := by decide +kernel
theorem dX11_line_6 : decode cX11_line 6 = .ok (.ifCond .ne 10, 3) := by decide +kernel
theorem dX11_line_9 : decode cX11_line 9 = .ok (.aload_n 0, 1) := by decide +kernel
theorem dX11_line_10 : decode cX11_line 10 = .ok (.ldc 72, 2) := by decide +kernel
theorem dX11_line_12 : decode cX11_line 12 = .ok (.invokevirtual 68, 3) := by decide +kernel
theorem dX11_line_15 : decode cX11_line 15 = .ok (.ireturn, 1) := by decide +kernel
theorem dX11_line_16 : decode cX11_line 16 = .ok (.aload_n 0, 1) := by decide +kernel
theorem dX11_line_17 : decode cX11_line 17 = .ok (.getfield 9, 3) := by decide +kernel
theorem dX11_line_20 : decode cX11_line 20 = .ok (.iconst 0, 1) := by decide +kernel
theorem dX11_line_21 : decode cX11_line 21 = .ok (.iaload, 1) := by decide +kernel
theorem dX11_line_22 : decode cX11_line 22 = .ok (.istore_n 2, 1) := by decide +kernel
theorem dX11_line_23 : decode cX11_line 23 = .ok (.iload_n 2, 1) := by decide +kernel
theorem dX11_line_24 : decode cX11_line 24 = .ok (.bipush 12, 2) := by decide +kernel
theorem dX11_line_26 : decode cX11_line 26 = .ok (.if_icmp .ne 10, 3) := by decide +kernel
theorem dX11_line_29 : decode cX11_line 29 = .ok (.aload_n 0, 1) := by decide +kernel
theorem dX11_line_30 : decode cX11_line 30 = .ok (.ldc 73, 2) := by decide +kernel
theorem dX11_line_32 : decode cX11_line 32 = .ok (.invokevirtual 68, 3) := by decide +kernel
theorem dX11_line_35 : decode cX11_line 35 = .ok (.ireturn, 1) := by decide +kernel
theorem dX11_line_36 : decode cX11_line 36 = .ok (.aload_n 0, 1) := by decide +kernel
theorem dX11_line_37 : decode cX11_line 37 = .ok (.invokevirtual 74, 3) := by decide +kernel
theorem dX11_line_40 : decode cX11_line 40 = .ok (.aload_n 0, 1) := by decide +kernel
theorem dX11_line_41 : decode cX11_line 41 = .ok (.getfield 9, 3) := by decide +kernel
theorem dX11_line_44 : decode cX11_line 44 = .ok (.iconst 4, 1) := by decide +kernel
theorem dX11_line_45 : decode cX11_line 45 = .ok (.iload_n 2, 1) := by decide +kernel
theorem dX11_line_46 : decode cX11_line 46 = .ok (.iadd, 1) := by decide +kernel
theorem dX11_line_47 : decode cX11_line 47 = .ok (.iload_n 1, 1) := by decide +kernel
theorem dX11_line_48 : decode cX11_line 48 = .ok (.iastore, 1) := by decide +kernel
theorem dX11_line_49 : decode cX11_line 49 = .ok (.aload_n 0, 1) := by decide +kernel
theorem dX11_line_50 : decode cX11_line 50 = .ok (.getfield 9, 3) := by decide +kernel
theorem dX11_line_53 : decode cX11_line 53 = .ok (.bipush 16, 2) := by decide +kernel
theorem dX11_line_55 : decode cX11_line 55 = .ok (.iload_n 2, 1) := by decide +kernel
theorem dX11_line_56 : decode cX11_line 56 = .ok (.iadd, 1) := by decide +kernel
theorem dX11_line_57 : decode cX11_line 57 = .ok (.iconst 0, 1) := by decide +kernel
theorem dX11_line_58 : decode cX11_line 58 = .ok (.iastore, 1) := by decide +kernel
theorem dX11_line_59 : decode cX11_line 59 = .ok (.aload_n 0, 1) := by decide +kernel
theorem dX11_line_60 : decode cX11_line 60 = .ok (.getfield 13, 3) := by decide +kernel
theorem dX11_line_63 : decode cX11_line 63 = .ok (.iload_n 2, 1) := by decide +kernel
theorem dX11_line_64 : decode cX11_line 64 = .ok (.lconst 0, 1) := by decide +kernel
theorem dX11_line_65 : decode cX11_line 65 = .ok (.lastore, 1) := by decide +kernel
theorem dX11_line_66 : decode cX11_line 66 = .ok (.aload_n 0, 1) := by decide +kernel
theorem dX11_line_67 : decode cX11_line 67 = .ok (.getfield 9, 3) := by decide +kernel
theorem dX11_line_70 : decode cX11_line 70 = .ok (.iconst 0, 1) := by decide +kernel
theorem dX11_line_71 : decode cX11_line 71 = .ok (.dup2, 1) := by decide +kernel
theorem dX11_line_72 : decode cX11_line 72 = .ok (.iaload, 1) := by decide +kernel
theorem dX11_line_73 : decode cX11_line 73 = .ok (.iconst 1, 1) := by decide +kernel
theorem dX11_line_74 : decode cX11_line 74 = .ok (.iadd, 1) := by decide +kernel
theorem dX11_line_75 : decode cX11_line 75 = .ok (.iastore, 1) := by decide +kernel
theorem dX11_line_76 : decode cX11_line 76 = .ok (.iload_n 2, 1) := by decide +kernel
theorem dX11_line_77 : decode cX11_line 77 = .ok (.ireturn, 1) := by decide +kernel
theorem dX11_frame_0 : decode cX11_frame 0 = .ok (.aload_n 0, 1) := by decide +kernel
theorem dX11_frame_1 : decode cX11_frame 1 = .ok (.iload_n 1, 1) := by decide +kernel
theorem dX11_frame_2 : decode cX11_frame 2 = .ok (.invokevirtual 77, 3) := by decide +kernel
theorem dX11_frame_5 : decode cX11_frame 5 = .ok (.ifCond .eq 12, 3) := by decide +kernel
theorem dX11_frame_8 : decode cX11_frame 8 = .ok (.iload_n 2, 1) := by decide +kernel
theorem dX11_frame_9 : decode cX11_frame 9 = .ok (.iconst 0, 1) := by decide +kernel
theorem dX11_frame_10 : decode cX11_frame 10 = .ok (.iconst 3, 1) := by decide +kernel
theorem dX11_frame_11 : decode cX11_frame 11 = .ok (.invokestatic 60, 3) := by decide +kernel
theorem dX11_frame_14 : decode cX11_frame 14 = .ok (.ifCond .ne 10, 3) := by decide +kernel
theorem dX11_frame_17 : decode cX11_frame 17 = .ok (.aload_n 0, 1) := by decide +kernel
theorem dX11_frame_18 : decode cX11_frame 18 = .ok (.ldc 72, 2) := by decide +kernel
theorem dX11_frame_20 : decode cX11_frame 20 = .ok (.invokevirtual 68, 3) := by decide +kernel
theorem dX11_frame_23 : decode cX11_frame 23 = .ok (.ireturn, 1) := by decide +kernel
theorem dX11_frame_24 : decode cX11_frame 24 = .ok (.aload_n 0, 1) := by decide +kernel
theorem dX11_frame_25 : decode cX11_frame 25 = .ok (.getfield 9, 3) := by decide +kernel
theorem dX11_frame_28 : decode cX11_frame 28 = .ok (.bipush 16, 2) := by decide +kernel
theorem dX11_frame_30 : decode cX11_frame 30 = .ok (.iload_n 1, 1) := by decide +kernel
theorem dX11_frame_31 : decode cX11_frame 31 = .ok (.iadd, 1) := by decide +kernel
theorem dX11_frame_32 : decode cX11_frame 32 = .ok (.iaload, 1) := by decide +kernel
theorem dX11_frame_33 : decode cX11_frame 33 = .ok (.istore_n 3, 1) := by decide +kernel
theorem dX11_frame_34 : decode cX11_frame 34 = .ok (.iload_n 3, 1) := by decide +kernel
theorem dX11_frame_35 : decode cX11_frame 35 = .ok (.bipush 24, 2) := by decide +kernel
theorem dX11_frame_37 : decode cX11_frame 37 = .ok (.if_icmp .ne 10, 3) := by decide +kernel
theorem dX11_frame_40 : decode cX11_frame 40 = .ok (.aload_n 0, 1) := by decide +kernel
theorem dX11_frame_41 : decode cX11_frame 41 = .ok (.ldc 73, 2) := by decide +kernel
theorem dX11_frame_43 : decode cX11_frame 43 = .ok (.invokevirtual 68, 3) := by decide +kernel
theorem dX11_frame_46 : decode cX11_frame 46 = .ok (.ireturn, 1) := by decide +kernel
theorem dX11_frame_47 : decode cX11_frame 47 = .ok (.aload_n 0, 1) := by decide +kernel
theorem dX11_frame_48 : decode cX11_frame 48 = .ok (.invokevirtual 74, 3) := by decide +kernel
theorem dX11_frame_51 : decode cX11_frame 51 = .ok (.aload_n 0, 1) := by decide +kernel
theorem dX11_frame_52 : decode cX11_frame 52 = .ok (.getfield 13, 3) := by decide +kernel
theorem dX11_frame_55 : decode cX11_frame 55 = .ok (.iload_n 1, 1) := by decide +kernel
theorem dX11_frame_56 : decode cX11_frame 56 = .ok (.aload_n 0, 1) := by decide +kernel
theorem dX11_frame_57 : decode cX11_frame 57 = .ok (.getfield 13, 3) := by decide +kernel
theorem dX11_frame_60 : decode cX11_frame 60 = .ok (.iload_n 1, 1) := by decide +kernel
theorem dX11_frame_61 : decode cX11_frame 61 = .ok (.laload, 1) := by decide +kernel
theorem dX11_frame_62 : decode cX11_frame 62 = .ok (.ldc2_w 81, 3) := by decide +kernel
theorem dX11_frame_65 : decode cX11_frame 65 = .ok (.iconst 2, 1) := by decide +kernel
theorem dX11_frame_66 : decode cX11_frame 66 = .ok (.iload_n 3, 1) := by decide +kernel
theorem dX11_frame_67 : decode cX11_frame 67 = .ok (.imul, 1) := by decide +kernel
theorem dX11_frame_68 : decode cX11_frame 68 = .ok (.lshl, 1) := by decide +kernel
theorem dX11_frame_69 : decode cX11_frame 69 = .ok (.ldc2_w 83, 3) := by decide +kernel
theorem dX11_frame_72 : decode cX11_frame 72 = .ok (.lxor, 1) := by decide +kernel
theorem dX11_frame_73 : decode cX11_frame 73 = .ok (.land, 1) := by decide +kernel
theorem dX11_frame_74 : decode cX11_frame 74 = .ok (.iload_n 2, 1) := by decide +kernel
theorem dX11_frame_75 : decode cX11_frame 75 = .ok (.i2l, 1) := by decide +kernel
theorem dX11_frame_76 : decode cX11_frame 76 = .ok (.iconst 2, 1) := by decide +kernel
theorem dX11_frame_77 : decode cX11_frame 77 = .ok (.iload_n 3, 1) := by decide +kernel
theorem dX11_frame_78 : decode cX11_frame 78 = .ok (.imul, 1) := by decide +kernel
theorem dX11_frame_79 : decode cX11_frame 79 = .ok (.lshl, 1) := by decide +kernel
theorem dX11_frame_80 : decode cX11_frame 80 = .ok (.lor, 1) := by decide +kernel
theorem dX11_frame_81 : decode cX11_frame 81 = .ok (.lastore, 1) := by decide +kernel
theorem dX11_frame_82 : decode cX11_frame 82 = .ok (.aload_n 0, 1) := by decide +kernel
theorem dX11_frame_83 : decode cX11_frame 83 = .ok (.getfield 9, 3) := by decide +kernel
theorem dX11_frame_86 : decode cX11_frame 86 = .ok (.bipush 16, 2) := by decide +kernel
theorem dX11_frame_88 : decode cX11_frame 88 = .ok (.iload_n 1, 1) := by decide +kernel
theorem dX11_frame_89 : decode cX11_frame 89 = .ok (.iadd, 1) := by decide +kernel
theorem dX11_frame_90 : decode cX11_frame 90 = .ok (.dup2, 1) := by decide +kernel
theorem dX11_frame_91 : decode cX11_frame 91 = .ok (.iaload, 1) := by decide +kernel
theorem dX11_frame_92 : decode cX11_frame 92 = .ok (.iconst 1, 1) := by decide +kernel
theorem dX11_frame_93 : decode cX11_frame 93 = .ok (.iadd, 1) := by decide +kernel
theorem dX11_frame_94 : decode cX11_frame 94 = .ok (.iastore, 1) := by decide +kernel
theorem dX11_frame_95 : decode cX11_frame 95 = .ok (.iload_n 3, 1) := by decide +kernel
theorem dX11_frame_96 : decode cX11_frame 96 = .ok (.iconst 1, 1) := by decide +kernel
theorem dX11_frame_97 : decode cX11_frame 97 = .ok (.iadd, 1) := by decide +kernel
theorem dX11_frame_98 : decode cX11_frame 98 = .ok (.ireturn, 1) := by decide +kernel
theorem dX11_wording_0 : decode cX11_wording 0 = .ok (.aload_n 0, 1) := by decide +kernel
theorem dX11_wording_1 : decode cX11_wording 1 = .ok (.iload_n 1, 1) := by decide +kernel
theorem dX11_wording_2 : decode cX11_wording 2 = .ok (.invokevirtual 77, 3) := by decide +kernel
theorem dX11_wording_5 : decode cX11_wording 5 = .ok (.ifCond .eq 22, 3) := by decide +kernel
theorem dX11_wording_8 : decode cX11_wording 8 = .ok (.iload_n 2, 1) := by decide +kernel
theorem dX11_wording_9 : decode cX11_wording 9 = .ok (.iconst 0, 1) := by decide +kernel
theorem dX11_wording_10 : decode cX11_wording 10 = .ok (.iconst 3, 1) := by decide +kernel
theorem dX11_wording_11 : decode cX11_wording 11 = .ok (.invokestatic 60, 3) := by decide +kernel
theorem dX11_wording_14 : decode cX11_wording 14 = .ok (.ifCond .eq 13, 3) := by decide +kernel
theorem dX11_wording_17 : decode cX11_wording 17 = .ok (.iload_n 3, 1) := by decide +kernel
theorem dX11_wording_18 : decode cX11_wording 18 = .ok (.iconst 0, 1) := by decide +kernel
theorem dX11_wording_19 : decode cX11_wording 19 = .ok (.bipush 100, 2) := by decide +kernel
theorem dX11_wording_21 : decode cX11_wording 21 = .ok (.invokestatic 60, 3) := by decide +kernel
theorem dX11_wording_24 : decode cX11_wording 24 = .ok (.ifCond .ne 10, 3) := by decide +kernel
theorem dX11_wording_27 : decode cX11_wording 27 = .ok (.aload_n 0, 1) := by decide +kernel
theorem dX11_wording_28 : decode cX11_wording 28 = .ok (.ldc 72, 2) := by decide +kernel
theorem dX11_wording_30 : decode cX11_wording 30 = .ok (.invokevirtual 68, 3) := by decide +kernel
theorem dX11_wording_33 : decode cX11_wording 33 = .ok (.ireturn, 1) := by decide +kernel
theorem dX11_wording_34 : decode cX11_wording 34 = .ok (.aload_n 0, 1) := by decide +kernel
theorem dX11_wording_35 : decode cX11_wording 35 = .ok (.getfield 9, 3) := by decide +kernel
theorem dX11_wording_38 : decode cX11_wording 38 = .ok (.iconst 1, 1) := by decide +kernel
theorem dX11_wording_39 : decode cX11_wording 39 = .ok (.iaload, 1) := by decide +kernel
theorem dX11_wording_40 : decode cX11_wording 40 = .ok (.istore 4, 2) := by decide +kernel
theorem dX11_wording_42 : decode cX11_wording 42 = .ok (.iload 4, 2) := by decide +kernel
theorem dX11_wording_44 : decode cX11_wording 44 = .ok (.bipush 20, 2) := by decide +kernel
theorem dX11_wording_46 : decode cX11_wording 46 = .ok (.if_icmp .ne 10, 3) := by decide +kernel
theorem dX11_wording_49 : decode cX11_wording 49 = .ok (.aload_n 0, 1) := by decide +kernel
theorem dX11_wording_50 : decode cX11_wording 50 = .ok (.ldc 73, 2) := by decide +kernel
theorem dX11_wording_52 : decode cX11_wording 52 = .ok (.invokevirtual 68, 3) := by decide +kernel
theorem dX11_wording_55 : decode cX11_wording 55 = .ok (.ireturn, 1) := by decide +kernel
theorem dX11_wording_56 : decode cX11_wording 56 = .ok (.aload_n 0, 1) := by decide +kernel
theorem dX11_wording_57 : decode cX11_wording 57 = .ok (.invokevirtual 74, 3) := by decide +kernel
theorem dX11_wording_60 : decode cX11_wording 60 = .ok (.aload_n 0, 1) := by decide +kernel
theorem dX11_wording_61 : decode cX11_wording 61 = .ok (.getfield 9, 3) := by decide +kernel
theorem dX11_wording_64 : decode cX11_wording 64 = .ok (.bipush 28, 2) := by decide +kernel
theorem dX11_wording_66 : decode cX11_wording 66 = .ok (.iload 4, 2) := by decide +kernel
theorem dX11_wording_68 : decode cX11_wording 68 = .ok (.iadd, 1) := by decide +kernel
theorem dX11_wording_69 : decode cX11_wording 69 = .ok (.iload_n 1, 1) := by decide +kernel
theorem dX11_wording_70 : decode cX11_wording 70 = .ok (.iastore, 1) := by decide +kernel
theorem dX11_wording_71 : decode cX11_wording 71 = .ok (.aload_n 0, 1) := by decide +kernel
theorem dX11_wording_72 : decode cX11_wording 72 = .ok (.getfield 9, 3) := by decide +kernel
theorem dX11_wording_75 : decode cX11_wording 75 = .ok (.bipush 48, 2) := by decide +kernel
theorem dX11_wording_77 : decode cX11_wording 77 = .ok (.iload 4, 2) := by decide +kernel
theorem dX11_wording_79 : decode cX11_wording 79 = .ok (.iadd, 1) := by decide +kernel
theorem dX11_wording_80 : decode cX11_wording 80 = .ok (.iload_n 2, 1) := by decide +kernel
theorem dX11_wording_81 : decode cX11_wording 81 = .ok (.iastore, 1) := by decide +kernel
theorem dX11_wording_82 : decode cX11_wording 82 = .ok (.aload_n 0, 1) := by decide +kernel
theorem dX11_wording_83 : decode cX11_wording 83 = .ok (.getfield 9, 3) := by decide +kernel
theorem dX11_wording_86 : decode cX11_wording 86 = .ok (.bipush 68, 2) := by decide +kernel
theorem dX11_wording_88 : decode cX11_wording 88 = .ok (.iload 4, 2) := by decide +kernel
theorem dX11_wording_90 : decode cX11_wording 90 = .ok (.iadd, 1) := by decide +kernel
theorem dX11_wording_91 : decode cX11_wording 91 = .ok (.iload_n 3, 1) := by decide +kernel
theorem dX11_wording_92 : decode cX11_wording 92 = .ok (.iastore, 1) := by decide +kernel
theorem dX11_wording_93 : decode cX11_wording 93 = .ok (.aload_n 0, 1) := by decide +kernel
theorem dX11_wording_94 : decode cX11_wording 94 = .ok (.getfield 9, 3) := by decide +kernel
theorem dX11_wording_97 : decode cX11_wording 97 = .ok (.bipush 88, 2) := by decide +kernel
theorem dX11_wording_99 : decode cX11_wording 99 = .ok (.iload 4, 2) := by decide +kernel
theorem dX11_wording_101 : decode cX11_wording 101 = .ok (.iadd, 1) := by decide +kernel
theorem dX11_wording_102 : decode cX11_wording 102 = .ok (.iconst 0, 1) := by decide +kernel
theorem dX11_wording_103 : decode cX11_wording 103 = .ok (.iastore, 1) := by decide +kernel
theorem dX11_wording_104 : decode cX11_wording 104 = .ok (.aload_n 0, 1) := by decide +kernel
theorem dX11_wording_105 : decode cX11_wording 105 = .ok (.getfield 9, 3) := by decide +kernel
theorem dX11_wording_108 : decode cX11_wording 108 = .ok (.iconst 1, 1) := by decide +kernel
theorem dX11_wording_109 : decode cX11_wording 109 = .ok (.dup2, 1) := by decide +kernel
theorem dX11_wording_110 : decode cX11_wording 110 = .ok (.iaload, 1) := by decide +kernel
theorem dX11_wording_111 : decode cX11_wording 111 = .ok (.iconst 1, 1) := by decide +kernel
theorem dX11_wording_112 : decode cX11_wording 112 = .ok (.iadd, 1) := by decide +kernel
theorem dX11_wording_113 : decode cX11_wording 113 = .ok (.iastore, 1) := by decide +kernel
theorem dX11_wording_114 : decode cX11_wording 114 = .ok (.iload 4, 2) := by decide +kernel
theorem dX11_wording_116 : decode cX11_wording 116 = .ok (.ireturn, 1) := by decide +kernel
theorem dX11_as_0 : decode cX11_as 0 = .ok (.aload_n 0, 1) := by decide +kernel
theorem dX11_as_1 : decode cX11_as 1 = .ok (.iload_n 1, 1) := by decide +kernel
theorem dX11_as_2 : decode cX11_as 2 = .ok (.invokevirtual 85, 3) := by decide +kernel
theorem dX11_as_5 : decode cX11_as 5 = .ok (.ifCond .eq 12, 3) := by decide +kernel
theorem dX11_as_8 : decode cX11_as 8 = .ok (.iload_n 2, 1) := by decide +kernel
theorem dX11_as_9 : decode cX11_as 9 = .ok (.iconst 0, 1) := by decide +kernel
theorem dX11_as_10 : decode cX11_as 10 = .ok (.iconst 3, 1) := by decide +kernel
theorem dX11_as_11 : decode cX11_as 11 = .ok (.invokestatic 60, 3) := by decide +kernel
theorem dX11_as_14 : decode cX11_as 14 = .ok (.ifCond .ne 10, 3) := by decide +kernel
theorem dX11_as_17 : decode cX11_as 17 = .ok (.aload_n 0, 1) := by decide +kernel
theorem dX11_as_18 : decode cX11_as 18 = .ok (.ldc 72, 2) := by decide +kernel
theorem dX11_as_20 : decode cX11_as 20 = .ok (.invokevirtual 68, 3) := by decide +kernel
theorem dX11_as_23 : decode cX11_as 23 = .ok (.ireturn, 1) := by decide +kernel
theorem dX11_as_24 : decode cX11_as 24 = .ok (.aload_n 0, 1) := by decide +kernel
theorem dX11_as_25 : decode cX11_as 25 = .ok (.getfield 9, 3) := by decide +kernel
theorem dX11_as_28 : decode cX11_as 28 = .ok (.bipush 48, 2) := by decide +kernel
theorem dX11_as_30 : decode cX11_as 30 = .ok (.iload_n 1, 1) := by decide +kernel
theorem dX11_as_31 : decode cX11_as 31 = .ok (.iadd, 1) := by decide +kernel
theorem dX11_as_32 : decode cX11_as 32 = .ok (.iaload, 1) := by decide +kernel
theorem dX11_as_33 : decode cX11_as 33 = .ok (.istore_n 3, 1) := by decide +kernel
theorem dX11_as_34 : decode cX11_as 34 = .ok (.iload_n 2, 1) := by decide +kernel
theorem dX11_as_35 : decode cX11_as 35 = .ok (.ifCond .eq 18, 3) := by decide +kernel
theorem dX11_as_38 : decode cX11_as 38 = .ok (.iload_n 3, 1) := by decide +kernel
theorem dX11_as_39 : decode cX11_as 39 = .ok (.iload_n 2, 1) := by decide +kernel
theorem dX11_as_40 : decode cX11_as 40 = .ok (.if_icmp .eq 13, 3) := by decide +kernel
theorem dX11_as_43 : decode cX11_as 43 = .ok (.iload_n 2, 1) := by decide +kernel
theorem dX11_as_44 : decode cX11_as 44 = .ok (.iconst 1, 1) := by decide +kernel
theorem dX11_as_45 : decode cX11_as 45 = .ok (.if_icmp .ne 12, 3) := by decide +kernel
theorem dX11_as_48 : decode cX11_as 48 = .ok (.iload_n 3, 1) := by decide +kernel
theorem dX11_as_49 : decode cX11_as 49 = .ok (.iconst 3, 1) := by decide +kernel
theorem dX11_as_50 : decode cX11_as 50 = .ok (.if_icmp .ne 7, 3) := by decide +kernel
theorem dX11_as_53 : decode cX11_as 53 = .ok (.iload_n 1, 1) := by decide +kernel
theorem dX11_as_54 : decode cX11_as 54 = .ok (.goto 9, 3) := by decide +kernel
theorem dX11_as_57 : decode cX11_as 57 = .ok (.aload_n 0, 1) := by decide +kernel
theorem dX11_as_58 : decode cX11_as 58 = .ok (.ldc 88, 2) := by decide +kernel
theorem dX11_as_60 : decode cX11_as 60 = .ok (.invokevirtual 68, 3) := by decide +kernel
theorem dX11_as_63 : decode cX11_as 63 = .ok (.ireturn, 1) := by decide +kernel
theorem dX11_syllable_0 : decode cX11_syllable 0 = .ok (.aload_n 0, 1) := by decide +kernel
theorem dX11_syllable_1 : decode cX11_syllable 1 = .ok (.iload_n 1, 1) := by decide +kernel
theorem dX11_syllable_2 : decode cX11_syllable 2 = .ok (.invokevirtual 85, 3) := by decide +kernel
theorem dX11_syllable_5 : decode cX11_syllable 5 = .ok (.ifCond .eq 41, 3) := by decide +kernel
theorem dX11_syllable_8 : decode cX11_syllable 8 = .ok (.iload_n 2, 1) := by decide +kernel
theorem dX11_syllable_9 : decode cX11_syllable 9 = .ok (.iconst 0, 1) := by decide +kernel
theorem dX11_syllable_10 : decode cX11_syllable 10 = .ok (.iconst 3, 1) := by decide +kernel
theorem dX11_syllable_11 : decode cX11_syllable 11 = .ok (.invokestatic 60, 3) := by decide +kernel
theorem dX11_syllable_14 : decode cX11_syllable 14 = .ok (.ifCond .eq 32, 3) := by decide +kernel
theorem dX11_syllable_17 : decode cX11_syllable 17 = .ok (.iload_n 3, 1) := by decide +kernel
theorem dX11_syllable_18 : decode cX11_syllable 18 = .ok (.iconst 1, 1) := by decide +kernel
theorem dX11_syllable_19 : decode cX11_syllable 19 = .ok (.bipush 6, 2) := by decide +kernel
theorem dX11_syllable_21 : decode cX11_syllable 21 = .ok (.invokestatic 60, 3) := by decide +kernel
theorem dX11_syllable_24 : decode cX11_syllable 24 = .ok (.ifCond .eq 22, 3) := by decide +kernel
theorem dX11_syllable_27 : decode cX11_syllable 27 = .ok (.iload 4, 2) := by decide +kernel
theorem dX11_syllable_29 : decode cX11_syllable 29 = .ok (.iconst 1, 1) := by decide +kernel
theorem dX11_syllable_30 : decode cX11_syllable 30 = .ok (.bipush 6, 2) := by decide +kernel
theorem dX11_syllable_32 : decode cX11_syllable 32 = .ok (.invokestatic 60, 3) := by decide +kernel
theorem dX11_syllable_35 : decode cX11_syllable 35 = .ok (.ifCond .eq 11, 3) := by decide +kernel
theorem dX11_syllable_38 : decode cX11_syllable 38 = .ok (.iload 5, 2) := by decide +kernel
theorem dX11_syllable_40 : decode cX11_syllable 40 = .ok (.invokestatic 89, 3) := by decide +kernel
theorem dX11_syllable_43 : decode cX11_syllable 43 = .ok (.ifCond .ne 10, 3) := by decide +kernel
theorem dX11_syllable_46 : decode cX11_syllable 46 = .ok (.aload_n 0, 1) := by decide +kernel
theorem dX11_syllable_47 : decode cX11_syllable 47 = .ok (.ldc 72, 2) := by decide +kernel
theorem dX11_syllable_49 : decode cX11_syllable 49 = .ok (.invokevirtual 68, 3) := by decide +kernel
theorem dX11_syllable_52 : decode cX11_syllable 52 = .ok (.ireturn, 1) := by decide +kernel
theorem dX11_syllable_53 : decode cX11_syllable 53 = .ok (.iload_n 3, 1) := by decide +kernel
theorem dX11_syllable_54 : decode cX11_syllable 54 = .ok (.iload 4, 2) := by decide +kernel
theorem dX11_syllable_56 : decode cX11_syllable 56 = .ok (.if_icmp .le 10, 3) := by decide +kernel
theorem dX11_syllable_59 : decode cX11_syllable 59 = .ok (.aload_n 0, 1) := by decide +kernel
theorem dX11_syllable_60 : decode cX11_syllable 60 = .ok (.ldc 92, 2) := by decide +kernel
theorem dX11_syllable_62 : decode cX11_syllable 62 = .ok (.invokevirtual 68, 3) := by decide +kernel
theorem dX11_syllable_65 : decode cX11_syllable 65 = .ok (.ireturn, 1) := by decide +kernel
theorem dX11_syllable_66 : decode cX11_syllable 66 = .ok (.aload_n 0, 1) := by decide +kernel
theorem dX11_syllable_67 : decode cX11_syllable 67 = .ok (.getfield 9, 3) := by decide +kernel
theorem dX11_syllable_70 : decode cX11_syllable 70 = .ok (.bipush 88, 2) := by decide +kernel
theorem dX11_syllable_72 : decode cX11_syllable 72 = .ok (.iload_n 1, 1) := by decide +kernel
theorem dX11_syllable_73 : decode cX11_syllable 73 = .ok (.iadd, 1) := by decide +kernel
theorem dX11_syllable_74 : decode cX11_syllable 74 = .ok (.iaload, 1) := by decide +kernel
theorem dX11_syllable_75 : decode cX11_syllable 75 = .ok (.istore 6, 2) := by decide +kernel
theorem dX11_syllable_77 : decode cX11_syllable 77 = .ok (.iload 6, 2) := by decide +kernel
theorem dX11_syllable_79 : decode cX11_syllable 79 = .ok (.bipush 8, 2) := by decide +kernel
theorem dX11_syllable_81 : decode cX11_syllable 81 = .ok (.if_icmp .ne 10, 3) := by decide +kernel
theorem dX11_syllable_84 : decode cX11_syllable 84 = .ok (.aload_n 0, 1) := by decide +kernel
theorem dX11_syllable_85 : decode cX11_syllable 85 = .ok (.ldc 73, 2) := by decide +kernel
theorem dX11_syllable_87 : decode cX11_syllable 87 = .ok (.invokevirtual 68, 3) := by decide +kernel
theorem dX11_syllable_90 : decode cX11_syllable 90 = .ok (.ireturn, 1) := by decide +kernel
theorem dX11_syllable_91 : decode cX11_syllable 91 = .ok (.aload_n 0, 1) := by decide +kernel
theorem dX11_syllable_92 : decode cX11_syllable 92 = .ok (.invokevirtual 74, 3) := by decide +kernel
theorem dX11_syllable_95 : decode cX11_syllable 95 = .ok (.aload_n 0, 1) := by decide +kernel
theorem dX11_syllable_96 : decode cX11_syllable 96 = .ok (.getfield 9, 3) := by decide +kernel
theorem dX11_syllable_99 : decode cX11_syllable 99 = .ok (.bipush 108, 2) := by decide +kernel
theorem dX11_syllable_101 : decode cX11_syllable 101 = .ok (.bipush 8, 2) := by decide +kernel
theorem dX11_syllable_103 : decode cX11_syllable 103 = .ok (.iload_n 1, 1) := by decide +kernel
theorem dX11_syllable_104 : decode cX11_syllable 104 = .ok (.imul, 1) := by decide +kernel
theorem dX11_syllable_105 : decode cX11_syllable 105 = .ok (.iadd, 1) := by decide +kernel
theorem dX11_syllable_106 : decode cX11_syllable 106 = .ok (.iload 6, 2) := by decide +kernel
theorem dX11_syllable_108 : decode cX11_syllable 108 = .ok (.iadd, 1) := by decide +kernel
theorem dX11_syllable_109 : decode cX11_syllable 109 = .ok (.iload_n 2, 1) := by decide +kernel
theorem dX11_syllable_110 : decode cX11_syllable 110 = .ok (.iload_n 3, 1) := by decide +kernel
theorem dX11_syllable_111 : decode cX11_syllable 111 = .ok (.iconst 2, 1) := by decide +kernel
theorem dX11_syllable_112 : decode cX11_syllable 112 = .ok (.ishl, 1) := by decide +kernel
theorem dX11_syllable_113 : decode cX11_syllable 113 = .ok (.ior, 1) := by decide +kernel
theorem dX11_syllable_114 : decode cX11_syllable 114 = .ok (.iload 4, 2) := by decide +kernel
theorem dX11_syllable_116 : decode cX11_syllable 116 = .ok (.iconst 5, 1) := by decide +kernel
theorem dX11_syllable_117 : decode cX11_syllable 117 = .ok (.ishl, 1) := by decide +kernel
theorem dX11_syllable_118 : decode cX11_syllable 118 = .ok (.ior, 1) := by decide +kernel
theorem dX11_syllable_119 : decode cX11_syllable 119 = .ok (.iload 5, 2) := by decide +kernel
theorem dX11_syllable_121 : decode cX11_syllable 121 = .ok (.bipush 8, 2) := by decide +kernel
theorem dX11_syllable_123 : decode cX11_syllable 123 = .ok (.ishl, 1) := by decide +kernel
theorem dX11_syllable_124 : decode cX11_syllable 124 = .ok (.ior, 1) := by decide +kernel
theorem dX11_syllable_125 : decode cX11_syllable 125 = .ok (.iastore, 1) := by decide +kernel
theorem dX11_syllable_126 : decode cX11_syllable 126 = .ok (.aload_n 0, 1) := by decide +kernel
theorem dX11_syllable_127 : decode cX11_syllable 127 = .ok (.getfield 9, 3) := by decide +kernel
theorem dX11_syllable_130 : decode cX11_syllable 130 = .ok (.bipush 88, 2) := by decide +kernel
theorem dX11_syllable_132 : decode cX11_syllable 132 = .ok (.iload_n 1, 1) := by decide +kernel
theorem dX11_syllable_133 : decode cX11_syllable 133 = .ok (.iadd, 1) := by decide +kernel
theorem dX11_syllable_134 : decode cX11_syllable 134 = .ok (.dup2, 1) := by decide +kernel
theorem dX11_syllable_135 : decode cX11_syllable 135 = .ok (.iaload, 1) := by decide +kernel
theorem dX11_syllable_136 : decode cX11_syllable 136 = .ok (.iconst 1, 1) := by decide +kernel
theorem dX11_syllable_137 : decode cX11_syllable 137 = .ok (.iadd, 1) := by decide +kernel
theorem dX11_syllable_138 : decode cX11_syllable 138 = .ok (.iastore, 1) := by decide +kernel
theorem dX11_syllable_139 : decode cX11_syllable 139 = .ok (.iload 6, 2) := by decide +kernel
theorem dX11_syllable_141 : decode cX11_syllable 141 = .ok (.iconst 1, 1) := by decide +kernel
theorem dX11_syllable_142 : decode cX11_syllable 142 = .ok (.iadd, 1) := by decide +kernel
theorem dX11_syllable_143 : decode cX11_syllable 143 = .ok (.ireturn, 1) := by decide +kernel
theorem dX11_cut_0 : decode cX11_cut 0 = .ok (.aload_n 0, 1) := by decide +kernel
theorem dX11_cut_1 : decode cX11_cut 1 = .ok (.iload_n 1, 1) := by decide +kernel
theorem dX11_cut_2 : decode cX11_cut 2 = .ok (.invokevirtual 85, 3) := by decide +kernel
theorem dX11_cut_5 : decode cX11_cut 5 = .ok (.ifCond .ne 10, 3) := by decide +kernel
theorem dX11_cut_8 : decode cX11_cut 8 = .ok (.aload_n 0, 1) := by decide +kernel
theorem dX11_cut_9 : decode cX11_cut 9 = .ok (.ldc 72, 2) := by decide +kernel
theorem dX11_cut_11 : decode cX11_cut 11 = .ok (.invokevirtual 68, 3) := by decide +kernel
theorem dX11_cut_14 : decode cX11_cut 14 = .ok (.ireturn, 1) := by decide +kernel
theorem dX11_cut_15 : decode cX11_cut 15 = .ok (.aload_n 0, 1) := by decide +kernel
theorem dX11_cut_16 : decode cX11_cut 16 = .ok (.getfield 9, 3) := by decide +kernel
theorem dX11_cut_19 : decode cX11_cut 19 = .ok (.bipush 88, 2) := by decide +kernel
theorem dX11_cut_21 : decode cX11_cut 21 = .ok (.iload_n 1, 1) := by decide +kernel
theorem dX11_cut_22 : decode cX11_cut 22 = .ok (.iadd, 1) := by decide +kernel
theorem dX11_cut_23 : decode cX11_cut 23 = .ok (.iaload, 1) := by decide +kernel
theorem dX11_cut_24 : decode cX11_cut 24 = .ok (.ifCond .ne 10, 3) := by decide +kernel
theorem dX11_cut_27 : decode cX11_cut 27 = .ok (.aload_n 0, 1) := by decide +kernel
theorem dX11_cut_28 : decode cX11_cut 28 = .ok (.ldc 67, 2) := by decide +kernel
theorem dX11_cut_30 : decode cX11_cut 30 = .ok (.invokevirtual 68, 3) := by decide +kernel
theorem dX11_cut_33 : decode cX11_cut 33 = .ok (.ireturn, 1) := by decide +kernel
theorem dX11_cut_34 : decode cX11_cut 34 = .ok (.aload_n 0, 1) := by decide +kernel
theorem dX11_cut_35 : decode cX11_cut 35 = .ok (.invokevirtual 74, 3) := by decide +kernel
theorem dX11_cut_38 : decode cX11_cut 38 = .ok (.aload_n 0, 1) := by decide +kernel
theorem dX11_cut_39 : decode cX11_cut 39 = .ok (.getfield 9, 3) := by decide +kernel
theorem dX11_cut_42 : decode cX11_cut 42 = .ok (.bipush 88, 2) := by decide +kernel
theorem dX11_cut_44 : decode cX11_cut 44 = .ok (.iload_n 1, 1) := by decide +kernel
theorem dX11_cut_45 : decode cX11_cut 45 = .ok (.iadd, 1) := by decide +kernel
theorem dX11_cut_46 : decode cX11_cut 46 = .ok (.dup2, 1) := by decide +kernel
theorem dX11_cut_47 : decode cX11_cut 47 = .ok (.iaload, 1) := by decide +kernel
theorem dX11_cut_48 : decode cX11_cut 48 = .ok (.iconst 1, 1) := by decide +kernel
theorem dX11_cut_49 : decode cX11_cut 49 = .ok (.isub, 1) := by decide +kernel
theorem dX11_cut_50 : decode cX11_cut 50 = .ok (.iastore, 1) := by decide +kernel
theorem dX11_cut_51 : decode cX11_cut 51 = .ok (.aload_n 0, 1) := by decide +kernel
theorem dX11_cut_52 : decode cX11_cut 52 = .ok (.getfield 9, 3) := by decide +kernel
theorem dX11_cut_55 : decode cX11_cut 55 = .ok (.bipush 88, 2) := by decide +kernel
theorem dX11_cut_57 : decode cX11_cut 57 = .ok (.iload_n 1, 1) := by decide +kernel
theorem dX11_cut_58 : decode cX11_cut 58 = .ok (.iadd, 1) := by decide +kernel
theorem dX11_cut_59 : decode cX11_cut 59 = .ok (.iaload, 1) := by decide +kernel
theorem dX11_cut_60 : decode cX11_cut 60 = .ok (.ireturn, 1) := by decide +kernel
theorem dX11_of_0 : decode cX11_of 0 = .ok (.aload_n 0, 1) := by decide +kernel
theorem dX11_of_1 : decode cX11_of 1 = .ok (.iload_n 1, 1) := by decide +kernel
theorem dX11_of_2 : decode cX11_of 2 = .ok (.invokevirtual 85, 3) := by decide +kernel
theorem dX11_of_5 : decode cX11_of 5 = .ok (.ifCond .eq 29, 3) := by decide +kernel
theorem dX11_of_8 : decode cX11_of 8 = .ok (.iload_n 2, 1) := by decide +kernel
theorem dX11_of_9 : decode cX11_of 9 = .ok (.iconst 0, 1) := by decide +kernel
theorem dX11_of_10 : decode cX11_of 10 = .ok (.iconst 3, 1) := by decide +kernel
theorem dX11_of_11 : decode cX11_of 11 = .ok (.invokestatic 60, 3) := by decide +kernel
theorem dX11_of_14 : decode cX11_of 14 = .ok (.ifCond .eq 20, 3) := by decide +kernel
theorem dX11_of_17 : decode cX11_of 17 = .ok (.aload_n 0, 1) := by decide +kernel
theorem dX11_of_18 : decode cX11_of 18 = .ok (.getfield 9, 3) := by decide +kernel
theorem dX11_of_21 : decode cX11_of 21 = .ok (.bipush 28, 2) := by decide +kernel
theorem dX11_of_23 : decode cX11_of 23 = .ok (.bipush 20, 2) := by decide +kernel
theorem dX11_of_25 : decode cX11_of 25 = .ok (.iload_n 2, 1) := by decide +kernel
theorem dX11_of_26 : decode cX11_of 26 = .ok (.imul, 1) := by decide +kernel
theorem dX11_of_27 : decode cX11_of 27 = .ok (.iadd, 1) := by decide +kernel
theorem dX11_of_28 : decode cX11_of 28 = .ok (.iload_n 1, 1) := by decide +kernel
theorem dX11_of_29 : decode cX11_of 29 = .ok (.iadd, 1) := by decide +kernel
theorem dX11_of_30 : decode cX11_of 30 = .ok (.iaload, 1) := by decide +kernel
theorem dX11_of_31 : decode cX11_of 31 = .ok (.goto 9, 3) := by decide +kernel
theorem dX11_of_34 : decode cX11_of 34 = .ok (.aload_n 0, 1) := by decide +kernel
theorem dX11_of_35 : decode cX11_of 35 = .ok (.ldc 72, 2) := by decide +kernel
theorem dX11_of_37 : decode cX11_of 37 = .ok (.invokevirtual 68, 3) := by decide +kernel
theorem dX11_of_40 : decode cX11_of 40 = .ok (.ireturn, 1) := by decide +kernel
theorem dX11_told_0 : decode cX11_told 0 = .ok (.aload_n 0, 1) := by decide +kernel
theorem dX11_told_1 : decode cX11_told 1 = .ok (.iload_n 1, 1) := by decide +kernel
theorem dX11_told_2 : decode cX11_told 2 = .ok (.invokevirtual 77, 3) := by decide +kernel
theorem dX11_told_5 : decode cX11_told 5 = .ok (.ifCond .eq 12, 3) := by decide +kernel
theorem dX11_told_8 : decode cX11_told 8 = .ok (.iload_n 2, 1) := by decide +kernel
theorem dX11_told_9 : decode cX11_told 9 = .ok (.iconst 0, 1) := by decide +kernel
theorem dX11_told_10 : decode cX11_told 10 = .ok (.iconst 2, 1) := by decide +kernel
theorem dX11_told_11 : decode cX11_told 11 = .ok (.invokestatic 60, 3) := by decide +kernel
theorem dX11_told_14 : decode cX11_told 14 = .ok (.ifCond .ne 10, 3) := by decide +kernel
theorem dX11_told_17 : decode cX11_told 17 = .ok (.aload_n 0, 1) := by decide +kernel
theorem dX11_told_18 : decode cX11_told 18 = .ok (.ldc 72, 2) := by decide +kernel
theorem dX11_told_20 : decode cX11_told 20 = .ok (.invokevirtual 68, 3) := by decide +kernel
theorem dX11_told_23 : decode cX11_told 23 = .ok (.ireturn, 1) := by decide +kernel
theorem dX11_told_24 : decode cX11_told 24 = .ok (.iconst 0, 1) := by decide +kernel
theorem dX11_told_25 : decode cX11_told 25 = .ok (.istore_n 3, 1) := by decide +kernel
theorem dX11_told_26 : decode cX11_told 26 = .ok (.iconst 0, 1) := by decide +kernel
theorem dX11_told_27 : decode cX11_told 27 = .ok (.istore 4, 2) := by decide +kernel
theorem dX11_told_29 : decode cX11_told 29 = .ok (.iload 4, 2) := by decide +kernel
theorem dX11_told_31 : decode cX11_told 31 = .ok (.aload_n 0, 1) := by decide +kernel
theorem dX11_told_32 : decode cX11_told 32 = .ok (.getfield 9, 3) := by decide +kernel
theorem dX11_told_35 : decode cX11_told 35 = .ok (.iconst 1, 1) := by decide +kernel
theorem dX11_told_36 : decode cX11_told 36 = .ok (.iaload, 1) := by decide +kernel
theorem dX11_told_37 : decode cX11_told 37 = .ok (.if_icmp .ge 31, 3) := by decide +kernel
theorem dX11_told_40 : decode cX11_told 40 = .ok (.iload_n 3, 1) := by decide +kernel
theorem dX11_told_41 : decode cX11_told 41 = .ok (.aload_n 0, 1) := by decide +kernel
theorem dX11_told_42 : decode cX11_told 42 = .ok (.getfield 9, 3) := by decide +kernel
theorem dX11_told_45 : decode cX11_told 45 = .ok (.bipush 28, 2) := by decide +kernel
theorem dX11_told_47 : decode cX11_told 47 = .ok (.iload 4, 2) := by decide +kernel
theorem dX11_told_49 : decode cX11_told 49 = .ok (.iadd, 1) := by decide +kernel
theorem dX11_told_50 : decode cX11_told 50 = .ok (.iaload, 1) := by decide +kernel
theorem dX11_told_51 : decode cX11_told 51 = .ok (.iload_n 1, 1) := by decide +kernel
theorem dX11_told_52 : decode cX11_told 52 = .ok (.if_icmp .ne 7, 3) := by decide +kernel
theorem dX11_told_55 : decode cX11_told 55 = .ok (.iconst 1, 1) := by decide +kernel
theorem dX11_told_56 : decode cX11_told 56 = .ok (.goto 4, 3) := by decide +kernel
theorem dX11_told_59 : decode cX11_told 59 = .ok (.iconst 0, 1) := by decide +kernel
theorem dX11_told_60 : decode cX11_told 60 = .ok (.iadd, 1) := by decide +kernel
theorem dX11_told_61 : decode cX11_told 61 = .ok (.istore_n 3, 1) := by decide +kernel
theorem dX11_told_62 : decode cX11_told 62 = .ok (.iinc 4 1, 3) := by decide +kernel
theorem dX11_told_65 : decode cX11_told 65 = .ok (.goto (-36), 3) := by decide +kernel
theorem dX11_told_68 : decode cX11_told 68 = .ok (.iload_n 2, 1) := by decide +kernel
theorem dX11_told_69 : decode cX11_told 69 = .ok (.iconst 2, 1) := by decide +kernel
theorem dX11_told_70 : decode cX11_told 70 = .ok (.if_icmp .ne 7, 3) := by decide +kernel
theorem dX11_told_73 : decode cX11_told 73 = .ok (.iload_n 3, 1) := by decide +kernel
theorem dX11_told_74 : decode cX11_told 74 = .ok (.goto 16, 3) := by decide +kernel
theorem dX11_told_77 : decode cX11_told 77 = .ok (.aload_n 0, 1) := by decide +kernel
theorem dX11_told_78 : decode cX11_told 78 = .ok (.getfield 9, 3) := by decide +kernel
theorem dX11_told_81 : decode cX11_told 81 = .ok (.iconst 4, 1) := by decide +kernel
theorem dX11_told_82 : decode cX11_told 82 = .ok (.bipush 12, 2) := by decide +kernel
theorem dX11_told_84 : decode cX11_told 84 = .ok (.iload_n 2, 1) := by decide +kernel
theorem dX11_told_85 : decode cX11_told 85 = .ok (.imul, 1) := by decide +kernel
theorem dX11_told_86 : decode cX11_told 86 = .ok (.iadd, 1) := by decide +kernel
theorem dX11_told_87 : decode cX11_told 87 = .ok (.iload_n 1, 1) := by decide +kernel
theorem dX11_told_88 : decode cX11_told 88 = .ok (.iadd, 1) := by decide +kernel
theorem dX11_told_89 : decode cX11_told 89 = .ok (.iaload, 1) := by decide +kernel
theorem dX11_told_90 : decode cX11_told 90 = .ok (.ireturn, 1) := by decide +kernel
theorem dX11_shapeOf_0 : decode cX11_shapeOf 0 = .ok (.aload_n 0, 1) := by decide +kernel
theorem dX11_shapeOf_1 : decode cX11_shapeOf 1 = .ok (.getfield 13, 3) := by decide +kernel
theorem dX11_shapeOf_4 : decode cX11_shapeOf 4 = .ok (.iload_n 1, 1) := by decide +kernel
theorem dX11_shapeOf_5 : decode cX11_shapeOf 5 = .ok (.laload, 1) := by decide +kernel
theorem dX11_shapeOf_6 : decode cX11_shapeOf 6 = .ok (.iconst 2, 1) := by decide +kernel
theorem dX11_shapeOf_7 : decode cX11_shapeOf 7 = .ok (.iload_n 2, 1) := by decide +kernel
theorem dX11_shapeOf_8 : decode cX11_shapeOf 8 = .ok (.imul, 1) := by decide +kernel
theorem dX11_shapeOf_9 : decode cX11_shapeOf 9 = .ok (.lshr, 1) := by decide +kernel
theorem dX11_shapeOf_10 : decode cX11_shapeOf 10 = .ok (.ldc2_w 81, 3) := by decide +kernel
theorem dX11_shapeOf_13 : decode cX11_shapeOf 13 = .ok (.land, 1) := by decide +kernel
theorem dX11_shapeOf_14 : decode cX11_shapeOf 14 = .ok (.l2i, 1) := by decide +kernel
theorem dX11_shapeOf_15 : decode cX11_shapeOf 15 = .ok (.ireturn, 1) := by decide +kernel
theorem dX11_shape_0 : decode cX11_shape 0 = .ok (.aload_n 0, 1) := by decide +kernel
theorem dX11_shape_1 : decode cX11_shape 1 = .ok (.iload_n 1, 1) := by decide +kernel
theorem dX11_shape_2 : decode cX11_shape 2 = .ok (.invokevirtual 77, 3) := by decide +kernel
theorem dX11_shape_5 : decode cX11_shape 5 = .ok (.ifCond .eq 31, 3) := by decide +kernel
theorem dX11_shape_8 : decode cX11_shape 8 = .ok (.iload_n 2, 1) := by decide +kernel
theorem dX11_shape_9 : decode cX11_shape 9 = .ok (.iconst 0, 1) := by decide +kernel
theorem dX11_shape_10 : decode cX11_shape 10 = .ok (.aload_n 0, 1) := by decide +kernel
theorem dX11_shape_11 : decode cX11_shape 11 = .ok (.getfield 9, 3) := by decide +kernel
theorem dX11_shape_14 : decode cX11_shape 14 = .ok (.bipush 16, 2) := by decide +kernel
theorem dX11_shape_16 : decode cX11_shape 16 = .ok (.iload_n 1, 1) := by decide +kernel
theorem dX11_shape_17 : decode cX11_shape 17 = .ok (.iadd, 1) := by decide +kernel
theorem dX11_shape_18 : decode cX11_shape 18 = .ok (.iaload, 1) := by decide +kernel
theorem dX11_shape_19 : decode cX11_shape 19 = .ok (.iconst 1, 1) := by decide +kernel
theorem dX11_shape_20 : decode cX11_shape 20 = .ok (.isub, 1) := by decide +kernel
theorem dX11_shape_21 : decode cX11_shape 21 = .ok (.invokestatic 60, 3) := by decide +kernel
theorem dX11_shape_24 : decode cX11_shape 24 = .ok (.ifCond .eq 12, 3) := by decide +kernel
theorem dX11_shape_27 : decode cX11_shape 27 = .ok (.aload_n 0, 1) := by decide +kernel
theorem dX11_shape_28 : decode cX11_shape 28 = .ok (.iload_n 1, 1) := by decide +kernel
theorem dX11_shape_29 : decode cX11_shape 29 = .ok (.iload_n 2, 1) := by decide +kernel
theorem dX11_shape_30 : decode cX11_shape 30 = .ok (.invokevirtual 93, 3) := by decide +kernel
theorem dX11_shape_33 : decode cX11_shape 33 = .ok (.goto 9, 3) := by decide +kernel
theorem dX11_shape_36 : decode cX11_shape 36 = .ok (.aload_n 0, 1) := by decide +kernel
theorem dX11_shape_37 : decode cX11_shape 37 = .ok (.ldc 72, 2) := by decide +kernel
theorem dX11_shape_39 : decode cX11_shape 39 = .ok (.invokevirtual 68, 3) := by decide +kernel
theorem dX11_shape_42 : decode cX11_shape 42 = .ok (.ireturn, 1) := by decide +kernel
theorem dX11_syllableOf_0 : decode cX11_syllableOf 0 = .ok (.aload_n 0, 1) := by decide +kernel
theorem dX11_syllableOf_1 : decode cX11_syllableOf 1 = .ok (.getfield 9, 3) := by decide +kernel
theorem dX11_syllableOf_4 : decode cX11_syllableOf 4 = .ok (.bipush 108, 2) := by decide +kernel
theorem dX11_syllableOf_6 : decode cX11_syllableOf 6 = .ok (.bipush 8, 2) := by decide +kernel
theorem dX11_syllableOf_8 : decode cX11_syllableOf 8 = .ok (.iload_n 1, 1) := by decide +kernel
theorem dX11_syllableOf_9 : decode cX11_syllableOf 9 = .ok (.imul, 1) := by decide +kernel
theorem dX11_syllableOf_10 : decode cX11_syllableOf 10 = .ok (.iadd, 1) := by decide +kernel
theorem dX11_syllableOf_11 : decode cX11_syllableOf 11 = .ok (.iload_n 2, 1) := by decide +kernel
theorem dX11_syllableOf_12 : decode cX11_syllableOf 12 = .ok (.iadd, 1) := by decide +kernel
theorem dX11_syllableOf_13 : decode cX11_syllableOf 13 = .ok (.iaload, 1) := by decide +kernel
theorem dX11_syllableOf_14 : decode cX11_syllableOf 14 = .ok (.ireturn, 1) := by decide +kernel
theorem dX11_leastOf_0 : decode cX11_leastOf 0 = .ok (.aload_n 0, 1) := by decide +kernel
theorem dX11_leastOf_1 : decode cX11_leastOf 1 = .ok (.iload_n 1, 1) := by decide +kernel
theorem dX11_leastOf_2 : decode cX11_leastOf 2 = .ok (.iload_n 2, 1) := by decide +kernel
theorem dX11_leastOf_3 : decode cX11_leastOf 3 = .ok (.invokevirtual 97, 3) := by decide +kernel
theorem dX11_leastOf_6 : decode cX11_leastOf 6 = .ok (.iconst 2, 1) := by decide +kernel
theorem dX11_leastOf_7 : decode cX11_leastOf 7 = .ok (.ishr, 1) := by decide +kernel
theorem dX11_leastOf_8 : decode cX11_leastOf 8 = .ok (.bipush 7, 2) := by decide +kernel
theorem dX11_leastOf_10 : decode cX11_leastOf 10 = .ok (.iand, 1) := by decide +kernel
theorem dX11_leastOf_11 : decode cX11_leastOf 11 = .ok (.ireturn, 1) := by decide +kernel
theorem dX11_mostOf_0 : decode cX11_mostOf 0 = .ok (.aload_n 0, 1) := by decide +kernel
theorem dX11_mostOf_1 : decode cX11_mostOf 1 = .ok (.getfield 9, 3) := by decide +kernel
theorem dX11_mostOf_4 : decode cX11_mostOf 4 = .ok (.bipush 48, 2) := by decide +kernel
theorem dX11_mostOf_6 : decode cX11_mostOf 6 = .ok (.iload_n 1, 1) := by decide +kernel
theorem dX11_mostOf_7 : decode cX11_mostOf 7 = .ok (.iadd, 1) := by decide +kernel
theorem dX11_mostOf_8 : decode cX11_mostOf 8 = .ok (.iaload, 1) := by decide +kernel
theorem dX11_mostOf_9 : decode cX11_mostOf 9 = .ok (.istore_n 3, 1) := by decide +kernel
theorem dX11_mostOf_10 : decode cX11_mostOf 10 = .ok (.iload_n 3, 1) := by decide +kernel
theorem dX11_mostOf_11 : decode cX11_mostOf 11 = .ok (.iconst 1, 1) := by decide +kernel
theorem dX11_mostOf_12 : decode cX11_mostOf 12 = .ok (.if_icmp .eq 8, 3) := by decide +kernel
theorem dX11_mostOf_15 : decode cX11_mostOf 15 = .ok (.iload_n 3, 1) := by decide +kernel
theorem dX11_mostOf_16 : decode cX11_mostOf 16 = .ok (.iconst 3, 1) := by decide +kernel
theorem dX11_mostOf_17 : decode cX11_mostOf 17 = .ok (.if_icmp .ne 12, 3) := by decide +kernel
theorem dX11_mostOf_20 : decode cX11_mostOf 20 = .ok (.aload_n 0, 1) := by decide +kernel
theorem dX11_mostOf_21 : decode cX11_mostOf 21 = .ok (.iload_n 1, 1) := by decide +kernel
theorem dX11_mostOf_22 : decode cX11_mostOf 22 = .ok (.iload_n 2, 1) := by decide +kernel
theorem dX11_mostOf_23 : decode cX11_mostOf 23 = .ok (.invokevirtual 100, 3) := by decide +kernel
theorem dX11_mostOf_26 : decode cX11_mostOf 26 = .ok (.goto 14, 3) := by decide +kernel
theorem dX11_mostOf_29 : decode cX11_mostOf 29 = .ok (.aload_n 0, 1) := by decide +kernel
theorem dX11_mostOf_30 : decode cX11_mostOf 30 = .ok (.iload_n 1, 1) := by decide +kernel
theorem dX11_mostOf_31 : decode cX11_mostOf 31 = .ok (.iload_n 2, 1) := by decide +kernel
theorem dX11_mostOf_32 : decode cX11_mostOf 32 = .ok (.invokevirtual 97, 3) := by decide +kernel
theorem dX11_mostOf_35 : decode cX11_mostOf 35 = .ok (.iconst 5, 1) := by decide +kernel
theorem dX11_mostOf_36 : decode cX11_mostOf 36 = .ok (.ishr, 1) := by decide +kernel
theorem dX11_mostOf_37 : decode cX11_mostOf 37 = .ok (.bipush 7, 2) := by decide +kernel
theorem dX11_mostOf_39 : decode cX11_mostOf 39 = .ok (.iand, 1) := by decide +kernel
theorem dX11_mostOf_40 : decode cX11_mostOf 40 = .ok (.ireturn, 1) := by decide +kernel
theorem dX11_offOf_0 : decode cX11_offOf 0 = .ok (.aload_n 0, 1) := by decide +kernel
theorem dX11_offOf_1 : decode cX11_offOf 1 = .ok (.iload_n 1, 1) := by decide +kernel
theorem dX11_offOf_2 : decode cX11_offOf 2 = .ok (.iload_n 2, 1) := by decide +kernel
theorem dX11_offOf_3 : decode cX11_offOf 3 = .ok (.invokevirtual 97, 3) := by decide +kernel
theorem dX11_offOf_6 : decode cX11_offOf 6 = .ok (.iconst 3, 1) := by decide +kernel
theorem dX11_offOf_7 : decode cX11_offOf 7 = .ok (.iand, 1) := by decide +kernel
theorem dX11_offOf_8 : decode cX11_offOf 8 = .ok (.istore 4, 2) := by decide +kernel
theorem dX11_offOf_10 : decode cX11_offOf 10 = .ok (.aload_n 0, 1) := by decide +kernel
theorem dX11_offOf_11 : decode cX11_offOf 11 = .ok (.aload_n 0, 1) := by decide +kernel
theorem dX11_offOf_12 : decode cX11_offOf 12 = .ok (.getfield 9, 3) := by decide +kernel
theorem dX11_offOf_15 : decode cX11_offOf 15 = .ok (.bipush 28, 2) := by decide +kernel
theorem dX11_offOf_17 : decode cX11_offOf 17 = .ok (.iload_n 1, 1) := by decide +kernel
theorem dX11_offOf_18 : decode cX11_offOf 18 = .ok (.iadd, 1) := by decide +kernel
theorem dX11_offOf_19 : decode cX11_offOf 19 = .ok (.iaload, 1) := by decide +kernel
theorem dX11_offOf_20 : decode cX11_offOf 20 = .ok (.iload_n 3, 1) := by decide +kernel
theorem dX11_offOf_21 : decode cX11_offOf 21 = .ok (.invokevirtual 93, 3) := by decide +kernel
theorem dX11_offOf_24 : decode cX11_offOf 24 = .ok (.istore 5, 2) := by decide +kernel
theorem dX11_offOf_26 : decode cX11_offOf 26 = .ok (.aload_n 0, 1) := by decide +kernel
theorem dX11_offOf_27 : decode cX11_offOf 27 = .ok (.getfield 9, 3) := by decide +kernel
theorem dX11_offOf_30 : decode cX11_offOf 30 = .ok (.bipush 48, 2) := by decide +kernel
theorem dX11_offOf_32 : decode cX11_offOf 32 = .ok (.iload_n 1, 1) := by decide +kernel
theorem dX11_offOf_33 : decode cX11_offOf 33 = .ok (.iadd, 1) := by decide +kernel
theorem dX11_offOf_34 : decode cX11_offOf 34 = .ok (.iaload, 1) := by decide +kernel
theorem dX11_offOf_35 : decode cX11_offOf 35 = .ok (.istore 6, 2) := by decide +kernel
theorem dX11_offOf_37 : decode cX11_offOf 37 = .ok (.iload 4, 2) := by decide +kernel
theorem dX11_offOf_39 : decode cX11_offOf 39 = .ok (.iload 5, 2) := by decide +kernel
theorem dX11_offOf_41 : decode cX11_offOf 41 = .ok (.if_icmp .eq 9, 3) := by decide +kernel
theorem dX11_offOf_44 : decode cX11_offOf 44 = .ok (.iload 6, 2) := by decide +kernel
theorem dX11_offOf_46 : decode cX11_offOf 46 = .ok (.iconst 2, 1) := by decide +kernel
theorem dX11_offOf_47 : decode cX11_offOf 47 = .ok (.if_icmp .ne 5, 3) := by decide +kernel
theorem dX11_offOf_50 : decode cX11_offOf 50 = .ok (.iconst 0, 1) := by decide +kernel
theorem dX11_offOf_51 : decode cX11_offOf 51 = .ok (.ireturn, 1) := by decide +kernel
theorem dX11_offOf_52 : decode cX11_offOf 52 = .ok (.iload 4, 2) := by decide +kernel
theorem dX11_offOf_54 : decode cX11_offOf 54 = .ok (.ifCond .eq 8, 3) := by decide +kernel
theorem dX11_offOf_57 : decode cX11_offOf 57 = .ok (.iload 5, 2) := by decide +kernel
theorem dX11_offOf_59 : decode cX11_offOf 59 = .ok (.ifCond .ne 7, 3) := by decide +kernel
theorem dX11_offOf_62 : decode cX11_offOf 62 = .ok (.iconst 1, 1) := by decide +kernel
theorem dX11_offOf_63 : decode cX11_offOf 63 = .ok (.goto 4, 3) := by decide +kernel
theorem dX11_offOf_66 : decode cX11_offOf 66 = .ok (.iconst 0, 1) := by decide +kernel
theorem dX11_offOf_67 : decode cX11_offOf 67 = .ok (.istore 7, 2) := by decide +kernel
theorem dX11_offOf_69 : decode cX11_offOf 69 = .ok (.iload 7, 2) := by decide +kernel
theorem dX11_offOf_71 : decode cX11_offOf 71 = .ok (.ifCond .ne 7, 3) := by decide +kernel
theorem dX11_offOf_74 : decode cX11_offOf 74 = .ok (.iconst 1, 1) := by decide +kernel
theorem dX11_offOf_75 : decode cX11_offOf 75 = .ok (.goto 14, 3) := by decide +kernel
theorem dX11_offOf_78 : decode cX11_offOf 78 = .ok (.iload 6, 2) := by decide +kernel
theorem dX11_offOf_80 : decode cX11_offOf 80 = .ok (.iconst 3, 1) := by decide +kernel
theorem dX11_offOf_81 : decode cX11_offOf 81 = .ok (.if_icmp .ne 7, 3) := by decide +kernel
theorem dX11_offOf_84 : decode cX11_offOf 84 = .ok (.iconst 0, 1) := by decide +kernel
theorem dX11_offOf_85 : decode cX11_offOf 85 = .ok (.goto 4, 3) := by decide +kernel
theorem dX11_offOf_88 : decode cX11_offOf 88 = .ok (.iconst 3, 1) := by decide +kernel
theorem dX11_offOf_89 : decode cX11_offOf 89 = .ok (.ireturn, 1) := by decide +kernel
theorem dX11_pauseOf_0 : decode cX11_pauseOf 0 = .ok (.aload_n 0, 1) := by decide +kernel
theorem dX11_pauseOf_1 : decode cX11_pauseOf 1 = .ok (.aload_n 0, 1) := by decide +kernel
theorem dX11_pauseOf_2 : decode cX11_pauseOf 2 = .ok (.getfield 9, 3) := by decide +kernel
theorem dX11_pauseOf_5 : decode cX11_pauseOf 5 = .ok (.bipush 28, 2) := by decide +kernel
theorem dX11_pauseOf_7 : decode cX11_pauseOf 7 = .ok (.iload_n 1, 1) := by decide +kernel
theorem dX11_pauseOf_8 : decode cX11_pauseOf 8 = .ok (.iadd, 1) := by decide +kernel
theorem dX11_pauseOf_9 : decode cX11_pauseOf 9 = .ok (.iaload, 1) := by decide +kernel
theorem dX11_pauseOf_10 : decode cX11_pauseOf 10 = .ok (.iload_n 2, 1) := by decide +kernel
theorem dX11_pauseOf_11 : decode cX11_pauseOf 11 = .ok (.invokevirtual 93, 3) := by decide +kernel
theorem dX11_pauseOf_14 : decode cX11_pauseOf 14 = .ok (.ifCond .ne 7, 3) := by decide +kernel
theorem dX11_pauseOf_17 : decode cX11_pauseOf 17 = .ok (.iconst 0, 1) := by decide +kernel
theorem dX11_pauseOf_18 : decode cX11_pauseOf 18 = .ok (.goto 4, 3) := by decide +kernel
theorem dX11_pauseOf_21 : decode cX11_pauseOf 21 = .ok (.iconst 2, 1) := by decide +kernel
theorem dX11_pauseOf_22 : decode cX11_pauseOf 22 = .ok (.ireturn, 1) := by decide +kernel
theorem dX11_leastAt_0 : decode cX11_leastAt 0 = .ok (.aload_n 0, 1) := by decide +kernel
theorem dX11_leastAt_1 : decode cX11_leastAt 1 = .ok (.getfield 32, 3) := by decide +kernel
theorem dX11_leastAt_4 : decode cX11_leastAt 4 = .ok (.bipush 25, 2) := by decide +kernel
theorem dX11_leastAt_6 : decode cX11_leastAt 6 = .ok (.iload_n 1, 1) := by decide +kernel
theorem dX11_leastAt_7 : decode cX11_leastAt 7 = .ok (.imul, 1) := by decide +kernel
theorem dX11_leastAt_8 : decode cX11_leastAt 8 = .ok (.iload_n 2, 1) := by decide +kernel
theorem dX11_leastAt_9 : decode cX11_leastAt 9 = .ok (.iadd, 1) := by decide +kernel
theorem dX11_leastAt_10 : decode cX11_leastAt 10 = .ok (.iaload, 1) := by decide +kernel
theorem dX11_leastAt_11 : decode cX11_leastAt 11 = .ok (.ireturn, 1) := by decide +kernel
theorem dX11_laid_0 : decode cX11_laid 0 = .ok (.iload_n 3, 1) := by decide +kernel
theorem dX11_laid_1 : decode cX11_laid 1 = .ok (.iload 4, 2) := by decide +kernel
theorem dX11_laid_3 : decode cX11_laid 3 = .ok (.iadd, 1) := by decide +kernel
theorem dX11_laid_4 : decode cX11_laid 4 = .ok (.aload_n 0, 1) := by decide +kernel
theorem dX11_laid_5 : decode cX11_laid 5 = .ok (.getfield 9, 3) := by decide +kernel
theorem dX11_laid_8 : decode cX11_laid 8 = .ok (.bipush 16, 2) := by decide +kernel
theorem dX11_laid_10 : decode cX11_laid 10 = .ok (.aload_n 0, 1) := by decide +kernel
theorem dX11_laid_11 : decode cX11_laid 11 = .ok (.getfield 9, 3) := by decide +kernel
theorem dX11_laid_14 : decode cX11_laid 14 = .ok (.bipush 28, 2) := by decide +kernel
theorem dX11_laid_16 : decode cX11_laid 16 = .ok (.iload_n 1, 1) := by decide +kernel
theorem dX11_laid_17 : decode cX11_laid 17 = .ok (.iadd, 1) := by decide +kernel
theorem dX11_laid_18 : decode cX11_laid 18 = .ok (.iaload, 1) := by decide +kernel
theorem dX11_laid_19 : decode cX11_laid 19 = .ok (.iadd, 1) := by decide +kernel
theorem dX11_laid_20 : decode cX11_laid 20 = .ok (.iaload, 1) := by decide +kernel
theorem dX11_laid_21 : decode cX11_laid 21 = .ok (.if_icmp .le 6, 3) := by decide +kernel
theorem dX11_laid_24 : decode cX11_laid 24 = .ok (.ldc 103, 2) := by decide +kernel
theorem dX11_laid_26 : decode cX11_laid 26 = .ok (.ireturn, 1) := by decide +kernel
theorem dX11_laid_27 : decode cX11_laid 27 = .ok (.aload_n 0, 1) := by decide +kernel
theorem dX11_laid_28 : decode cX11_laid 28 = .ok (.iload_n 2, 1) := by decide +kernel
theorem dX11_laid_29 : decode cX11_laid 29 = .ok (.iconst 1, 1) := by decide +kernel
theorem dX11_laid_30 : decode cX11_laid 30 = .ok (.iadd, 1) := by decide +kernel
theorem dX11_laid_31 : decode cX11_laid 31 = .ok (.iload_n 3, 1) := by decide +kernel
theorem dX11_laid_32 : decode cX11_laid 32 = .ok (.iload 4, 2) := by decide +kernel
theorem dX11_laid_34 : decode cX11_laid 34 = .ok (.iadd, 1) := by decide +kernel
theorem dX11_laid_35 : decode cX11_laid 35 = .ok (.invokevirtual 104, 3) := by decide +kernel
theorem dX11_laid_38 : decode cX11_laid 38 = .ok (.istore 5, 2) := by decide +kernel
theorem dX11_laid_40 : decode cX11_laid 40 = .ok (.iconst 0, 1) := by decide +kernel
theorem dX11_laid_41 : decode cX11_laid 41 = .ok (.istore 6, 2) := by decide +kernel
theorem dX11_laid_43 : decode cX11_laid 43 = .ok (.iload 6, 2) := by decide +kernel
theorem dX11_laid_45 : decode cX11_laid 45 = .ok (.iload 4, 2) := by decide +kernel
theorem dX11_laid_47 : decode cX11_laid 47 = .ok (.if_icmp .ge 24, 3) := by decide +kernel
theorem dX11_laid_50 : decode cX11_laid 50 = .ok (.iload 5, 2) := by decide +kernel
theorem dX11_laid_52 : decode cX11_laid 52 = .ok (.aload_n 0, 1) := by decide +kernel
theorem dX11_laid_53 : decode cX11_laid 53 = .ok (.iload_n 1, 1) := by decide +kernel
theorem dX11_laid_54 : decode cX11_laid 54 = .ok (.iload_n 2, 1) := by decide +kernel
theorem dX11_laid_55 : decode cX11_laid 55 = .ok (.iload_n 3, 1) := by decide +kernel
theorem dX11_laid_56 : decode cX11_laid 56 = .ok (.iload 6, 2) := by decide +kernel
theorem dX11_laid_58 : decode cX11_laid 58 = .ok (.iadd, 1) := by decide +kernel
theorem dX11_laid_59 : decode cX11_laid 59 = .ok (.invokevirtual 107, 3) := by decide +kernel
theorem dX11_laid_62 : decode cX11_laid 62 = .ok (.iadd, 1) := by decide +kernel
theorem dX11_laid_63 : decode cX11_laid 63 = .ok (.istore 5, 2) := by decide +kernel
theorem dX11_laid_65 : decode cX11_laid 65 = .ok (.iinc 6 1, 3) := by decide +kernel
theorem dX11_laid_68 : decode cX11_laid 68 = .ok (.goto (-25), 3) := by decide +kernel
theorem dX11_laid_71 : decode cX11_laid 71 = .ok (.iload 5, 2) := by decide +kernel
theorem dX11_laid_73 : decode cX11_laid 73 = .ok (.ldc 103, 2) := by decide +kernel
theorem dX11_laid_75 : decode cX11_laid 75 = .ok (.invokestatic 111, 3) := by decide +kernel
theorem dX11_laid_78 : decode cX11_laid 78 = .ok (.ireturn, 1) := by decide +kernel
theorem dX11_fit_0 : decode cX11_fit 0 = .ok (.aload_n 0, 1) := by decide +kernel
theorem dX11_fit_1 : decode cX11_fit 1 = .ok (.getfield 9, 3) := by decide +kernel
theorem dX11_fit_4 : decode cX11_fit 4 = .ok (.bipush 16, 2) := by decide +kernel
theorem dX11_fit_6 : decode cX11_fit 6 = .ok (.aload_n 0, 1) := by decide +kernel
theorem dX11_fit_7 : decode cX11_fit 7 = .ok (.getfield 9, 3) := by decide +kernel
theorem dX11_fit_10 : decode cX11_fit 10 = .ok (.bipush 28, 2) := by decide +kernel
theorem dX11_fit_12 : decode cX11_fit 12 = .ok (.iload_n 1, 1) := by decide +kernel
theorem dX11_fit_13 : decode cX11_fit 13 = .ok (.iadd, 1) := by decide +kernel
theorem dX11_fit_14 : decode cX11_fit 14 = .ok (.iaload, 1) := by decide +kernel
theorem dX11_fit_15 : decode cX11_fit 15 = .ok (.iadd, 1) := by decide +kernel
theorem dX11_fit_16 : decode cX11_fit 16 = .ok (.iaload, 1) := by decide +kernel
theorem dX11_fit_17 : decode cX11_fit 17 = .ok (.istore_n 2, 1) := by decide +kernel
theorem dX11_fit_18 : decode cX11_fit 18 = .ok (.aload_n 0, 1) := by decide +kernel
theorem dX11_fit_19 : decode cX11_fit 19 = .ok (.getfield 9, 3) := by decide +kernel
theorem dX11_fit_22 : decode cX11_fit 22 = .ok (.bipush 88, 2) := by decide +kernel
theorem dX11_fit_24 : decode cX11_fit 24 = .ok (.iload_n 1, 1) := by decide +kernel
theorem dX11_fit_25 : decode cX11_fit 25 = .ok (.iadd, 1) := by decide +kernel
theorem dX11_fit_26 : decode cX11_fit 26 = .ok (.iaload, 1) := by decide +kernel
theorem dX11_fit_27 : decode cX11_fit 27 = .ok (.istore_n 3, 1) := by decide +kernel
theorem dX11_fit_28 : decode cX11_fit 28 = .ok (.iload_n 3, 1) := by decide +kernel
theorem dX11_fit_29 : decode cX11_fit 29 = .ok (.istore 4, 2) := by decide +kernel
theorem dX11_fit_31 : decode cX11_fit 31 = .ok (.iload 4, 2) := by decide +kernel
theorem dX11_fit_33 : decode cX11_fit 33 = .ok (.ifCond .lt 145, 3) := by decide +kernel
theorem dX11_fit_36 : decode cX11_fit 36 = .ok (.iload_n 2, 1) := by decide +kernel
theorem dX11_fit_37 : decode cX11_fit 37 = .ok (.istore 5, 2) := by decide +kernel
theorem dX11_fit_39 : decode cX11_fit 39 = .ok (.iload 5, 2) := by decide +kernel
theorem dX11_fit_41 : decode cX11_fit 41 = .ok (.ifCond .lt 131, 3) := by decide +kernel
theorem dX11_fit_44 : decode cX11_fit 44 = .ok (.iload 5, 2) := by decide +kernel
theorem dX11_fit_46 : decode cX11_fit 46 = .ok (.iload_n 2, 1) := by decide +kernel
theorem dX11_fit_47 : decode cX11_fit 47 = .ok (.if_icmp .ge 24, 3) := by decide +kernel
theorem dX11_fit_50 : decode cX11_fit 50 = .ok (.aload_n 0, 1) := by decide +kernel
theorem dX11_fit_51 : decode cX11_fit 51 = .ok (.iload_n 1, 1) := by decide +kernel
theorem dX11_fit_52 : decode cX11_fit 52 = .ok (.iload 5, 2) := by decide +kernel
theorem dX11_fit_54 : decode cX11_fit 54 = .ok (.invokevirtual 116, 3) := by decide +kernel
theorem dX11_fit_57 : decode cX11_fit 57 = .ok (.aload_n 0, 1) := by decide +kernel
theorem dX11_fit_58 : decode cX11_fit 58 = .ok (.iload 4, 2) := by decide +kernel
theorem dX11_fit_60 : decode cX11_fit 60 = .ok (.iload 5, 2) := by decide +kernel
theorem dX11_fit_62 : decode cX11_fit 62 = .ok (.iconst 1, 1) := by decide +kernel
theorem dX11_fit_63 : decode cX11_fit 63 = .ok (.iadd, 1) := by decide +kernel
theorem dX11_fit_64 : decode cX11_fit 64 = .ok (.invokevirtual 104, 3) := by decide +kernel
theorem dX11_fit_67 : decode cX11_fit 67 = .ok (.iadd, 1) := by decide +kernel
theorem dX11_fit_68 : decode cX11_fit 68 = .ok (.goto 15, 3) := by decide +kernel
theorem dX11_fit_71 : decode cX11_fit 71 = .ok (.iload 4, 2) := by decide +kernel
theorem dX11_fit_73 : decode cX11_fit 73 = .ok (.iload_n 3, 1) := by decide +kernel
theorem dX11_fit_74 : decode cX11_fit 74 = .ok (.if_icmp .ne 7, 3) := by decide +kernel
theorem dX11_fit_77 : decode cX11_fit 77 = .ok (.iconst 0, 1) := by decide +kernel
theorem dX11_fit_78 : decode cX11_fit 78 = .ok (.goto 5, 3) := by decide +kernel
theorem dX11_fit_81 : decode cX11_fit 81 = .ok (.ldc 103, 2) := by decide +kernel
theorem dX11_fit_83 : decode cX11_fit 83 = .ok (.istore 6, 2) := by decide +kernel
theorem dX11_fit_85 : decode cX11_fit 85 = .ok (.iload 4, 2) := by decide +kernel
theorem dX11_fit_87 : decode cX11_fit 87 = .ok (.iload_n 3, 1) := by decide +kernel
theorem dX11_fit_88 : decode cX11_fit 88 = .ok (.if_icmp .ge 13, 3) := by decide +kernel
theorem dX11_fit_91 : decode cX11_fit 91 = .ok (.aload_n 0, 1) := by decide +kernel
theorem dX11_fit_92 : decode cX11_fit 92 = .ok (.iload_n 1, 1) := by decide +kernel
theorem dX11_fit_93 : decode cX11_fit 93 = .ok (.iload 4, 2) := by decide +kernel
theorem dX11_fit_95 : decode cX11_fit 95 = .ok (.invokevirtual 100, 3) := by decide +kernel
theorem dX11_fit_98 : decode cX11_fit 98 = .ok (.goto 4, 3) := by decide +kernel
theorem dX11_fit_101 : decode cX11_fit 101 = .ok (.iconst 1, 1) := by decide +kernel
theorem dX11_fit_102 : decode cX11_fit 102 = .ok (.istore 7, 2) := by decide +kernel
theorem dX11_fit_104 : decode cX11_fit 104 = .ok (.iload 4, 2) := by decide +kernel
theorem dX11_fit_106 : decode cX11_fit 106 = .ok (.iload_n 3, 1) := by decide +kernel
theorem dX11_fit_107 : decode cX11_fit 107 = .ok (.if_icmp .ge 39, 3) := by decide +kernel
theorem dX11_fit_110 : decode cX11_fit 110 = .ok (.iload 7, 2) := by decide +kernel
theorem dX11_fit_112 : decode cX11_fit 112 = .ok (.aload_n 0, 1) := by decide +kernel
theorem dX11_fit_113 : decode cX11_fit 113 = .ok (.iload_n 1, 1) := by decide +kernel
theorem dX11_fit_114 : decode cX11_fit 114 = .ok (.iload 4, 2) := by decide +kernel
theorem dX11_fit_116 : decode cX11_fit 116 = .ok (.invokevirtual 119, 3) := by decide +kernel
theorem dX11_fit_119 : decode cX11_fit 119 = .ok (.if_icmp .gt 27, 3) := by decide +kernel
theorem dX11_fit_122 : decode cX11_fit 122 = .ok (.iload 6, 2) := by decide +kernel
theorem dX11_fit_124 : decode cX11_fit 124 = .ok (.aload_n 0, 1) := by decide +kernel
theorem dX11_fit_125 : decode cX11_fit 125 = .ok (.iload_n 1, 1) := by decide +kernel
theorem dX11_fit_126 : decode cX11_fit 126 = .ok (.iload 4, 2) := by decide +kernel
theorem dX11_fit_128 : decode cX11_fit 128 = .ok (.iload 5, 2) := by decide +kernel
theorem dX11_fit_130 : decode cX11_fit 130 = .ok (.iload 7, 2) := by decide +kernel
theorem dX11_fit_132 : decode cX11_fit 132 = .ok (.invokevirtual 122, 3) := by decide +kernel
theorem dX11_fit_135 : decode cX11_fit 135 = .ok (.invokestatic 111, 3) := by decide +kernel
theorem dX11_fit_138 : decode cX11_fit 138 = .ok (.istore 6, 2) := by decide +kernel
theorem dX11_fit_140 : decode cX11_fit 140 = .ok (.iinc 7 1, 3) := by decide +kernel
theorem dX11_fit_143 : decode cX11_fit 143 = .ok (.goto (-39), 3) := by decide +kernel
theorem dX11_fit_146 : decode cX11_fit 146 = .ok (.aload_n 0, 1) := by decide +kernel
theorem dX11_fit_147 : decode cX11_fit 147 = .ok (.getfield 32, 3) := by decide +kernel
theorem dX11_fit_150 : decode cX11_fit 150 = .ok (.bipush 25, 2) := by decide +kernel
theorem dX11_fit_152 : decode cX11_fit 152 = .ok (.iload 4, 2) := by decide +kernel
theorem dX11_fit_154 : decode cX11_fit 154 = .ok (.imul, 1) := by decide +kernel
theorem dX11_fit_155 : decode cX11_fit 155 = .ok (.iload 5, 2) := by decide +kernel
theorem dX11_fit_157 : decode cX11_fit 157 = .ok (.iadd, 1) := by decide +kernel
theorem dX11_fit_158 : decode cX11_fit 158 = .ok (.iload 6, 2) := by decide +kernel
theorem dX11_fit_160 : decode cX11_fit 160 = .ok (.ldc 103, 2) := by decide +kernel
theorem dX11_fit_162 : decode cX11_fit 162 = .ok (.invokestatic 111, 3) := by decide +kernel
theorem dX11_fit_165 : decode cX11_fit 165 = .ok (.iastore, 1) := by decide +kernel
theorem dX11_fit_166 : decode cX11_fit 166 = .ok (.iinc 5 (-1), 3) := by decide +kernel
theorem dX11_fit_169 : decode cX11_fit 169 = .ok (.goto (-130), 3) := by decide +kernel
theorem dX11_fit_172 : decode cX11_fit 172 = .ok (.iinc 4 (-1), 3) := by decide +kernel
theorem dX11_fit_175 : decode cX11_fit 175 = .ok (.goto (-144), 3) := by decide +kernel
theorem dX11_fit_178 : decode cX11_fit 178 = .ok (.aload_n 0, 1) := by decide +kernel
theorem dX11_fit_179 : decode cX11_fit 179 = .ok (.iconst 0, 1) := by decide +kernel
theorem dX11_fit_180 : decode cX11_fit 180 = .ok (.iconst 0, 1) := by decide +kernel
theorem dX11_fit_181 : decode cX11_fit 181 = .ok (.invokevirtual 104, 3) := by decide +kernel
theorem dX11_fit_184 : decode cX11_fit 184 = .ok (.ldc 103, 2) := by decide +kernel
theorem dX11_fit_186 : decode cX11_fit 186 = .ok (.if_icmp .ne 6, 3) := by decide +kernel
theorem dX11_fit_189 : decode cX11_fit 189 = .ok (.ldc 103, 2) := by decide +kernel
theorem dX11_fit_191 : decode cX11_fit 191 = .ok (.ireturn, 1) := by decide +kernel
theorem dX11_fit_192 : decode cX11_fit 192 = .ok (.iconst 0, 1) := by decide +kernel
theorem dX11_fit_193 : decode cX11_fit 193 = .ok (.istore 4, 2) := by decide +kernel
theorem dX11_fit_195 : decode cX11_fit 195 = .ok (.iconst 0, 1) := by decide +kernel
theorem dX11_fit_196 : decode cX11_fit 196 = .ok (.istore 5, 2) := by decide +kernel
theorem dX11_fit_198 : decode cX11_fit 198 = .ok (.iload 5, 2) := by decide +kernel
theorem dX11_fit_200 : decode cX11_fit 200 = .ok (.iload_n 3, 1) := by decide +kernel
theorem dX11_fit_201 : decode cX11_fit 201 = .ok (.if_icmp .ge 67, 3) := by decide +kernel
theorem dX11_fit_204 : decode cX11_fit 204 = .ok (.aload_n 0, 1) := by decide +kernel
theorem dX11_fit_205 : decode cX11_fit 205 = .ok (.iload_n 1, 1) := by decide +kernel
theorem dX11_fit_206 : decode cX11_fit 206 = .ok (.iload 5, 2) := by decide +kernel
theorem dX11_fit_208 : decode cX11_fit 208 = .ok (.iload 4, 2) := by decide +kernel
theorem dX11_fit_210 : decode cX11_fit 210 = .ok (.invokevirtual 126, 3) := by decide +kernel
theorem dX11_fit_213 : decode cX11_fit 213 = .ok (.istore 6, 2) := by decide +kernel
theorem dX11_fit_215 : decode cX11_fit 215 = .ok (.iload 6, 2) := by decide +kernel
theorem dX11_fit_217 : decode cX11_fit 217 = .ok (.ifCond .ge 20, 3) := by decide +kernel
theorem dX11_fit_220 : decode cX11_fit 220 = .ok (.iinc 4 1, 3) := by decide +kernel
theorem dX11_fit_223 : decode cX11_fit 223 = .ok (.aload_n 0, 1) := by decide +kernel
theorem dX11_fit_224 : decode cX11_fit 224 = .ok (.iload_n 1, 1) := by decide +kernel
theorem dX11_fit_225 : decode cX11_fit 225 = .ok (.iload 5, 2) := by decide +kernel
theorem dX11_fit_227 : decode cX11_fit 227 = .ok (.iload 4, 2) := by decide +kernel
theorem dX11_fit_229 : decode cX11_fit 229 = .ok (.invokevirtual 126, 3) := by decide +kernel
theorem dX11_fit_232 : decode cX11_fit 232 = .ok (.istore 6, 2) := by decide +kernel
theorem dX11_fit_234 : decode cX11_fit 234 = .ok (.goto (-19), 3) := by decide +kernel
theorem dX11_fit_237 : decode cX11_fit 237 = .ok (.aload_n 0, 1) := by decide +kernel
theorem dX11_fit_238 : decode cX11_fit 238 = .ok (.getfield 35, 3) := by decide +kernel
theorem dX11_fit_241 : decode cX11_fit 241 = .ok (.iload 5, 2) := by decide +kernel
theorem dX11_fit_243 : decode cX11_fit 243 = .ok (.iload 4, 2) := by decide +kernel
theorem dX11_fit_245 : decode cX11_fit 245 = .ok (.iastore, 1) := by decide +kernel
theorem dX11_fit_246 : decode cX11_fit 246 = .ok (.aload_n 0, 1) := by decide +kernel
theorem dX11_fit_247 : decode cX11_fit 247 = .ok (.getfield 38, 3) := by decide +kernel
theorem dX11_fit_250 : decode cX11_fit 250 = .ok (.iload 5, 2) := by decide +kernel
theorem dX11_fit_252 : decode cX11_fit 252 = .ok (.iload 6, 2) := by decide +kernel
theorem dX11_fit_254 : decode cX11_fit 254 = .ok (.iastore, 1) := by decide +kernel
theorem dX11_fit_255 : decode cX11_fit 255 = .ok (.iload 4, 2) := by decide +kernel
theorem dX11_fit_257 : decode cX11_fit 257 = .ok (.iload 6, 2) := by decide +kernel
theorem dX11_fit_259 : decode cX11_fit 259 = .ok (.iadd, 1) := by decide +kernel
theorem dX11_fit_260 : decode cX11_fit 260 = .ok (.istore 4, 2) := by decide +kernel
theorem dX11_fit_262 : decode cX11_fit 262 = .ok (.iinc 5 1, 3) := by decide +kernel
theorem dX11_fit_265 : decode cX11_fit 265 = .ok (.goto (-67), 3) := by decide +kernel
theorem dX11_fit_268 : decode cX11_fit 268 = .ok (.aload_n 0, 1) := by decide +kernel
theorem dX11_fit_269 : decode cX11_fit 269 = .ok (.iconst 0, 1) := by decide +kernel
theorem dX11_fit_270 : decode cX11_fit 270 = .ok (.iconst 0, 1) := by decide +kernel
theorem dX11_fit_271 : decode cX11_fit 271 = .ok (.invokevirtual 104, 3) := by decide +kernel
theorem dX11_fit_274 : decode cX11_fit 274 = .ok (.ireturn, 1) := by decide +kernel
theorem dX11_lengthAt_0 : decode cX11_lengthAt 0 = .ok (.aload_n 0, 1) := by decide +kernel
theorem dX11_lengthAt_1 : decode cX11_lengthAt 1 = .ok (.iload_n 1, 1) := by decide +kernel
theorem dX11_lengthAt_2 : decode cX11_lengthAt 2 = .ok (.iload_n 2, 1) := by decide +kernel
theorem dX11_lengthAt_3 : decode cX11_lengthAt 3 = .ok (.invokevirtual 100, 3) := by decide +kernel
theorem dX11_lengthAt_6 : decode cX11_lengthAt 6 = .ok (.istore 4, 2) := by decide +kernel
theorem dX11_lengthAt_8 : decode cX11_lengthAt 8 = .ok (.iload 4, 2) := by decide +kernel
theorem dX11_lengthAt_10 : decode cX11_lengthAt 10 = .ok (.aload_n 0, 1) := by decide +kernel
theorem dX11_lengthAt_11 : decode cX11_lengthAt 11 = .ok (.iload_n 1, 1) := by decide +kernel
theorem dX11_lengthAt_12 : decode cX11_lengthAt 12 = .ok (.iload_n 2, 1) := by decide +kernel
theorem dX11_lengthAt_13 : decode cX11_lengthAt 13 = .ok (.invokevirtual 119, 3) := by decide +kernel
theorem dX11_lengthAt_16 : decode cX11_lengthAt 16 = .ok (.if_icmp .gt 30, 3) := by decide +kernel
theorem dX11_lengthAt_19 : decode cX11_lengthAt 19 = .ok (.aload_n 0, 1) := by decide +kernel
theorem dX11_lengthAt_20 : decode cX11_lengthAt 20 = .ok (.iload_n 1, 1) := by decide +kernel
theorem dX11_lengthAt_21 : decode cX11_lengthAt 21 = .ok (.iload_n 2, 1) := by decide +kernel
theorem dX11_lengthAt_22 : decode cX11_lengthAt 22 = .ok (.iload_n 3, 1) := by decide +kernel
theorem dX11_lengthAt_23 : decode cX11_lengthAt 23 = .ok (.iload 4, 2) := by decide +kernel
theorem dX11_lengthAt_25 : decode cX11_lengthAt 25 = .ok (.invokevirtual 122, 3) := by decide +kernel
theorem dX11_lengthAt_28 : decode cX11_lengthAt 28 = .ok (.aload_n 0, 1) := by decide +kernel
theorem dX11_lengthAt_29 : decode cX11_lengthAt 29 = .ok (.iload_n 2, 1) := by decide +kernel
theorem dX11_lengthAt_30 : decode cX11_lengthAt 30 = .ok (.iload_n 3, 1) := by decide +kernel
theorem dX11_lengthAt_31 : decode cX11_lengthAt 31 = .ok (.invokevirtual 104, 3) := by decide +kernel
theorem dX11_lengthAt_34 : decode cX11_lengthAt 34 = .ok (.if_icmp .ne 6, 3) := by decide +kernel
theorem dX11_lengthAt_37 : decode cX11_lengthAt 37 = .ok (.iload 4, 2) := by decide +kernel
theorem dX11_lengthAt_39 : decode cX11_lengthAt 39 = .ok (.ireturn, 1) := by decide +kernel
theorem dX11_lengthAt_40 : decode cX11_lengthAt 40 = .ok (.iinc 4 1, 3) := by decide +kernel
theorem dX11_lengthAt_43 : decode cX11_lengthAt 43 = .ok (.goto (-35), 3) := by decide +kernel
theorem dX11_lengthAt_46 : decode cX11_lengthAt 46 = .ok (.iconst (-1), 1) := by decide +kernel
theorem dX11_lengthAt_47 : decode cX11_lengthAt 47 = .ok (.ireturn, 1) := by decide +kernel
theorem dX11_cost_0 : decode cX11_cost 0 = .ok (.aload_n 0, 1) := by decide +kernel
theorem dX11_cost_1 : decode cX11_cost 1 = .ok (.iload_n 1, 1) := by decide +kernel
theorem dX11_cost_2 : decode cX11_cost 2 = .ok (.invokevirtual 85, 3) := by decide +kernel
theorem dX11_cost_5 : decode cX11_cost 5 = .ok (.ifCond .ne 10, 3) := by decide +kernel
theorem dX11_cost_8 : decode cX11_cost 8 = .ok (.aload_n 0, 1) := by decide +kernel
theorem dX11_cost_9 : decode cX11_cost 9 = .ok (.ldc 72, 2) := by decide +kernel
theorem dX11_cost_11 : decode cX11_cost 11 = .ok (.invokevirtual 68, 3) := by decide +kernel
theorem dX11_cost_14 : decode cX11_cost 14 = .ok (.ireturn, 1) := by decide +kernel
theorem dX11_cost_15 : decode cX11_cost 15 = .ok (.aload_n 0, 1) := by decide +kernel
theorem dX11_cost_16 : decode cX11_cost 16 = .ok (.iload_n 1, 1) := by decide +kernel
theorem dX11_cost_17 : decode cX11_cost 17 = .ok (.invokevirtual 129, 3) := by decide +kernel
theorem dX11_cost_20 : decode cX11_cost 20 = .ok (.istore_n 2, 1) := by decide +kernel
theorem dX11_cost_21 : decode cX11_cost 21 = .ok (.iload_n 2, 1) := by decide +kernel
theorem dX11_cost_22 : decode cX11_cost 22 = .ok (.ldc 103, 2) := by decide +kernel
theorem dX11_cost_24 : decode cX11_cost 24 = .ok (.if_icmp .ne 12, 3) := by decide +kernel
theorem dX11_cost_27 : decode cX11_cost 27 = .ok (.aload_n 0, 1) := by decide +kernel
theorem dX11_cost_28 : decode cX11_cost 28 = .ok (.ldc 67, 2) := by decide +kernel
theorem dX11_cost_30 : decode cX11_cost 30 = .ok (.invokevirtual 68, 3) := by decide +kernel
theorem dX11_cost_33 : decode cX11_cost 33 = .ok (.goto 4, 3) := by decide +kernel
theorem dX11_cost_36 : decode cX11_cost 36 = .ok (.iload_n 2, 1) := by decide +kernel
theorem dX11_cost_37 : decode cX11_cost 37 = .ok (.ireturn, 1) := by decide +kernel
theorem dX11_place_0 : decode cX11_place 0 = .ok (.aload_n 0, 1) := by decide +kernel
theorem dX11_place_1 : decode cX11_place 1 = .ok (.iload_n 1, 1) := by decide +kernel
theorem dX11_place_2 : decode cX11_place 2 = .ok (.invokevirtual 85, 3) := by decide +kernel
theorem dX11_place_5 : decode cX11_place 5 = .ok (.ifCond .eq 22, 3) := by decide +kernel
theorem dX11_place_8 : decode cX11_place 8 = .ok (.iload_n 2, 1) := by decide +kernel
theorem dX11_place_9 : decode cX11_place 9 = .ok (.iconst 0, 1) := by decide +kernel
theorem dX11_place_10 : decode cX11_place 10 = .ok (.aload_n 0, 1) := by decide +kernel
theorem dX11_place_11 : decode cX11_place 11 = .ok (.getfield 9, 3) := by decide +kernel
theorem dX11_place_14 : decode cX11_place 14 = .ok (.bipush 88, 2) := by decide +kernel
theorem dX11_place_16 : decode cX11_place 16 = .ok (.iload_n 1, 1) := by decide +kernel
theorem dX11_place_17 : decode cX11_place 17 = .ok (.iadd, 1) := by decide +kernel
theorem dX11_place_18 : decode cX11_place 18 = .ok (.iaload, 1) := by decide +kernel
theorem dX11_place_19 : decode cX11_place 19 = .ok (.iconst 1, 1) := by decide +kernel
theorem dX11_place_20 : decode cX11_place 20 = .ok (.isub, 1) := by decide +kernel
theorem dX11_place_21 : decode cX11_place 21 = .ok (.invokestatic 60, 3) := by decide +kernel
theorem dX11_place_24 : decode cX11_place 24 = .ok (.ifCond .ne 10, 3) := by decide +kernel
theorem dX11_place_27 : decode cX11_place 27 = .ok (.aload_n 0, 1) := by decide +kernel
theorem dX11_place_28 : decode cX11_place 28 = .ok (.ldc 72, 2) := by decide +kernel
theorem dX11_place_30 : decode cX11_place 30 = .ok (.invokevirtual 68, 3) := by decide +kernel
theorem dX11_place_33 : decode cX11_place 33 = .ok (.ireturn, 1) := by decide +kernel
theorem dX11_place_34 : decode cX11_place 34 = .ok (.aload_n 0, 1) := by decide +kernel
theorem dX11_place_35 : decode cX11_place 35 = .ok (.iload_n 1, 1) := by decide +kernel
theorem dX11_place_36 : decode cX11_place 36 = .ok (.invokevirtual 129, 3) := by decide +kernel
theorem dX11_place_39 : decode cX11_place 39 = .ok (.ldc 103, 2) := by decide +kernel
theorem dX11_place_41 : decode cX11_place 41 = .ok (.if_icmp .ne 12, 3) := by decide +kernel
theorem dX11_place_44 : decode cX11_place 44 = .ok (.aload_n 0, 1) := by decide +kernel
theorem dX11_place_45 : decode cX11_place 45 = .ok (.ldc 67, 2) := by decide +kernel
theorem dX11_place_47 : decode cX11_place 47 = .ok (.invokevirtual 68, 3) := by decide +kernel
theorem dX11_place_50 : decode cX11_place 50 = .ok (.goto 22, 3) := by decide +kernel
theorem dX11_place_53 : decode cX11_place 53 = .ok (.iload_n 3, 1) := by decide +kernel
theorem dX11_place_54 : decode cX11_place 54 = .ok (.ifCond .eq 12, 3) := by decide +kernel
theorem dX11_place_57 : decode cX11_place 57 = .ok (.aload_n 0, 1) := by decide +kernel
theorem dX11_place_58 : decode cX11_place 58 = .ok (.getfield 38, 3) := by decide +kernel
theorem dX11_place_61 : decode cX11_place 61 = .ok (.iload_n 2, 1) := by decide +kernel
theorem dX11_place_62 : decode cX11_place 62 = .ok (.iaload, 1) := by decide +kernel
theorem dX11_place_63 : decode cX11_place 63 = .ok (.goto 9, 3) := by decide +kernel
theorem dX11_place_66 : decode cX11_place 66 = .ok (.aload_n 0, 1) := by decide +kernel
theorem dX11_place_67 : decode cX11_place 67 = .ok (.getfield 35, 3) := by decide +kernel
theorem dX11_place_70 : decode cX11_place 70 = .ok (.iload_n 2, 1) := by decide +kernel
theorem dX11_place_71 : decode cX11_place 71 = .ok (.iaload, 1) := by decide +kernel
theorem dX11_place_72 : decode cX11_place 72 = .ok (.ireturn, 1) := by decide +kernel
theorem dX11_on_0 : decode cX11_on 0 = .ok (.aload_n 0, 1) := by decide +kernel
theorem dX11_on_1 : decode cX11_on 1 = .ok (.iload_n 1, 1) := by decide +kernel
theorem dX11_on_2 : decode cX11_on 2 = .ok (.invokevirtual 85, 3) := by decide +kernel
theorem dX11_on_5 : decode cX11_on 5 = .ok (.ifCond .eq 30, 3) := by decide +kernel
theorem dX11_on_8 : decode cX11_on 8 = .ok (.iload_n 2, 1) := by decide +kernel
theorem dX11_on_9 : decode cX11_on 9 = .ok (.iconst 0, 1) := by decide +kernel
theorem dX11_on_10 : decode cX11_on 10 = .ok (.aload_n 0, 1) := by decide +kernel
theorem dX11_on_11 : decode cX11_on 11 = .ok (.getfield 9, 3) := by decide +kernel
theorem dX11_on_14 : decode cX11_on 14 = .ok (.bipush 16, 2) := by decide +kernel
theorem dX11_on_16 : decode cX11_on 16 = .ok (.aload_n 0, 1) := by decide +kernel
theorem dX11_on_17 : decode cX11_on 17 = .ok (.getfield 9, 3) := by decide +kernel
theorem dX11_on_20 : decode cX11_on 20 = .ok (.bipush 28, 2) := by decide +kernel
theorem dX11_on_22 : decode cX11_on 22 = .ok (.iload_n 1, 1) := by decide +kernel
theorem dX11_on_23 : decode cX11_on 23 = .ok (.iadd, 1) := by decide +kernel
theorem dX11_on_24 : decode cX11_on 24 = .ok (.iaload, 1) := by decide +kernel
theorem dX11_on_25 : decode cX11_on 25 = .ok (.iadd, 1) := by decide +kernel
theorem dX11_on_26 : decode cX11_on 26 = .ok (.iaload, 1) := by decide +kernel
theorem dX11_on_27 : decode cX11_on 27 = .ok (.iconst 1, 1) := by decide +kernel
theorem dX11_on_28 : decode cX11_on 28 = .ok (.isub, 1) := by decide +kernel
theorem dX11_on_29 : decode cX11_on 29 = .ok (.invokestatic 60, 3) := by decide +kernel
theorem dX11_on_32 : decode cX11_on 32 = .ok (.ifCond .ne 10, 3) := by decide +kernel
theorem dX11_on_35 : decode cX11_on 35 = .ok (.aload_n 0, 1) := by decide +kernel
theorem dX11_on_36 : decode cX11_on 36 = .ok (.ldc 72, 2) := by decide +kernel
theorem dX11_on_38 : decode cX11_on 38 = .ok (.invokevirtual 68, 3) := by decide +kernel
theorem dX11_on_41 : decode cX11_on 41 = .ok (.ireturn, 1) := by decide +kernel
theorem dX11_on_42 : decode cX11_on 42 = .ok (.aload_n 0, 1) := by decide +kernel
theorem dX11_on_43 : decode cX11_on 43 = .ok (.iload_n 1, 1) := by decide +kernel
theorem dX11_on_44 : decode cX11_on 44 = .ok (.invokevirtual 129, 3) := by decide +kernel
theorem dX11_on_47 : decode cX11_on 47 = .ok (.ldc 103, 2) := by decide +kernel
theorem dX11_on_49 : decode cX11_on 49 = .ok (.if_icmp .ne 10, 3) := by decide +kernel
theorem dX11_on_52 : decode cX11_on 52 = .ok (.aload_n 0, 1) := by decide +kernel
theorem dX11_on_53 : decode cX11_on 53 = .ok (.ldc 67, 2) := by decide +kernel
theorem dX11_on_55 : decode cX11_on 55 = .ok (.invokevirtual 68, 3) := by decide +kernel
theorem dX11_on_58 : decode cX11_on 58 = .ok (.ireturn, 1) := by decide +kernel
theorem dX11_on_59 : decode cX11_on 59 = .ok (.iconst (-1), 1) := by decide +kernel
theorem dX11_on_60 : decode cX11_on 60 = .ok (.istore_n 3, 1) := by decide +kernel
theorem dX11_on_61 : decode cX11_on 61 = .ok (.iconst 0, 1) := by decide +kernel
theorem dX11_on_62 : decode cX11_on 62 = .ok (.istore 4, 2) := by decide +kernel
theorem dX11_on_64 : decode cX11_on 64 = .ok (.iload 4, 2) := by decide +kernel
theorem dX11_on_66 : decode cX11_on 66 = .ok (.aload_n 0, 1) := by decide +kernel
theorem dX11_on_67 : decode cX11_on 67 = .ok (.getfield 9, 3) := by decide +kernel
theorem dX11_on_70 : decode cX11_on 70 = .ok (.bipush 88, 2) := by decide +kernel
theorem dX11_on_72 : decode cX11_on 72 = .ok (.iload_n 1, 1) := by decide +kernel
theorem dX11_on_73 : decode cX11_on 73 = .ok (.iadd, 1) := by decide +kernel
theorem dX11_on_74 : decode cX11_on 74 = .ok (.iaload, 1) := by decide +kernel
theorem dX11_on_75 : decode cX11_on 75 = .ok (.if_icmp .ge 47, 3) := by decide +kernel
theorem dX11_on_78 : decode cX11_on 78 = .ok (.iload_n 2, 1) := by decide +kernel
theorem dX11_on_79 : decode cX11_on 79 = .ok (.aload_n 0, 1) := by decide +kernel
theorem dX11_on_80 : decode cX11_on 80 = .ok (.getfield 35, 3) := by decide +kernel
theorem dX11_on_83 : decode cX11_on 83 = .ok (.iload 4, 2) := by decide +kernel
theorem dX11_on_85 : decode cX11_on 85 = .ok (.iaload, 1) := by decide +kernel
theorem dX11_on_86 : decode cX11_on 86 = .ok (.aload_n 0, 1) := by decide +kernel
theorem dX11_on_87 : decode cX11_on 87 = .ok (.getfield 35, 3) := by decide +kernel
theorem dX11_on_90 : decode cX11_on 90 = .ok (.iload 4, 2) := by decide +kernel
theorem dX11_on_92 : decode cX11_on 92 = .ok (.iaload, 1) := by decide +kernel
theorem dX11_on_93 : decode cX11_on 93 = .ok (.aload_n 0, 1) := by decide +kernel
theorem dX11_on_94 : decode cX11_on 94 = .ok (.getfield 38, 3) := by decide +kernel
theorem dX11_on_97 : decode cX11_on 97 = .ok (.iload 4, 2) := by decide +kernel
theorem dX11_on_99 : decode cX11_on 99 = .ok (.iaload, 1) := by decide +kernel
theorem dX11_on_100 : decode cX11_on 100 = .ok (.iadd, 1) := by decide +kernel
theorem dX11_on_101 : decode cX11_on 101 = .ok (.iconst 1, 1) := by decide +kernel
theorem dX11_on_102 : decode cX11_on 102 = .ok (.isub, 1) := by decide +kernel
theorem dX11_on_103 : decode cX11_on 103 = .ok (.invokestatic 60, 3) := by decide +kernel
theorem dX11_on_106 : decode cX11_on 106 = .ok (.ifCond .eq 8, 3) := by decide +kernel
theorem dX11_on_109 : decode cX11_on 109 = .ok (.iload 4, 2) := by decide +kernel
theorem dX11_on_111 : decode cX11_on 111 = .ok (.goto 4, 3) := by decide +kernel
theorem dX11_on_114 : decode cX11_on 114 = .ok (.iload_n 3, 1) := by decide +kernel
theorem dX11_on_115 : decode cX11_on 115 = .ok (.istore_n 3, 1) := by decide +kernel
theorem dX11_on_116 : decode cX11_on 116 = .ok (.iinc 4 1, 3) := by decide +kernel
theorem dX11_on_119 : decode cX11_on 119 = .ok (.goto (-55), 3) := by decide +kernel
theorem dX11_on_122 : decode cX11_on 122 = .ok (.iload_n 3, 1) := by decide +kernel
theorem dX11_on_123 : decode cX11_on 123 = .ok (.ireturn, 1) := by decide +kernel
theorem dX11_name_0 : decode cX11_name 0 = .ok (.iload_n 1, 1) := by decide +kernel
theorem dX11_name_1 : decode cX11_name 1 = .ok (.invokestatic 89, 3) := by decide +kernel
theorem dX11_name_4 : decode cX11_name 4 = .ok (.ifCond .eq 13, 3) := by decide +kernel
theorem dX11_name_7 : decode cX11_name 7 = .ok (.iload_n 2, 1) := by decide +kernel
theorem dX11_name_8 : decode cX11_name 8 = .ok (.iconst (-1), 1) := by decide +kernel
theorem dX11_name_9 : decode cX11_name 9 = .ok (.bipush 7, 2) := by decide +kernel
theorem dX11_name_11 : decode cX11_name 11 = .ok (.invokestatic 60, 3) := by decide +kernel
theorem dX11_name_14 : decode cX11_name 14 = .ok (.ifCond .ne 10, 3) := by decide +kernel
theorem dX11_name_17 : decode cX11_name 17 = .ok (.aload_n 0, 1) := by decide +kernel
theorem dX11_name_18 : decode cX11_name 18 = .ok (.ldc 72, 2) := by decide +kernel
theorem dX11_name_20 : decode cX11_name 20 = .ok (.invokevirtual 68, 3) := by decide +kernel
theorem dX11_name_23 : decode cX11_name 23 = .ok (.ireturn, 1) := by decide +kernel
theorem dX11_name_24 : decode cX11_name 24 = .ok (.aload_n 0, 1) := by decide +kernel
theorem dX11_name_25 : decode cX11_name 25 = .ok (.invokevirtual 74, 3) := by decide +kernel
theorem dX11_name_28 : decode cX11_name 28 = .ok (.aload_n 0, 1) := by decide +kernel
theorem dX11_name_29 : decode cX11_name 29 = .ok (.getfield 9, 3) := by decide +kernel
theorem dX11_name_32 : decode cX11_name 32 = .ok (.sipush 308, 3) := by decide +kernel
theorem dX11_name_35 : decode cX11_name 35 = .ok (.iload_n 1, 1) := by decide +kernel
theorem dX11_name_36 : decode cX11_name 36 = .ok (.iadd, 1) := by decide +kernel
theorem dX11_name_37 : decode cX11_name 37 = .ok (.iaload, 1) := by decide +kernel
theorem dX11_name_38 : decode cX11_name 38 = .ok (.istore_n 3, 1) := by decide +kernel
theorem dX11_name_39 : decode cX11_name 39 = .ok (.aload_n 0, 1) := by decide +kernel
theorem dX11_name_40 : decode cX11_name 40 = .ok (.getfield 9, 3) := by decide +kernel
theorem dX11_name_43 : decode cX11_name 43 = .ok (.sipush 308, 3) := by decide +kernel
theorem dX11_name_46 : decode cX11_name 46 = .ok (.iload_n 1, 1) := by decide +kernel
theorem dX11_name_47 : decode cX11_name 47 = .ok (.iadd, 1) := by decide +kernel
theorem dX11_name_48 : decode cX11_name 48 = .ok (.iload_n 2, 1) := by decide +kernel
theorem dX11_name_49 : decode cX11_name 49 = .ok (.iastore, 1) := by decide +kernel
theorem dX11_name_50 : decode cX11_name 50 = .ok (.iload_n 3, 1) := by decide +kernel
theorem dX11_name_51 : decode cX11_name 51 = .ok (.ireturn, 1) := by decide +kernel
theorem dX11_text_0 : decode cX11_text 0 = .ok (.iload_n 1, 1) := by decide +kernel
theorem dX11_text_1 : decode cX11_text 1 = .ok (.invokestatic 132, 3) := by decide +kernel
theorem dX11_text_4 : decode cX11_text 4 = .ok (.ifCond .eq 27, 3) := by decide +kernel
theorem dX11_text_7 : decode cX11_text 7 = .ok (.iload_n 2, 1) := by decide +kernel
theorem dX11_text_8 : decode cX11_text 8 = .ok (.iconst 0, 1) := by decide +kernel
theorem dX11_text_9 : decode cX11_text 9 = .ok (.iconst 2, 1) := by decide +kernel
theorem dX11_text_10 : decode cX11_text 10 = .ok (.invokestatic 60, 3) := by decide +kernel
theorem dX11_text_13 : decode cX11_text 13 = .ok (.ifCond .eq 18, 3) := by decide +kernel
theorem dX11_text_16 : decode cX11_text 16 = .ok (.iload_n 3, 1) := by decide +kernel
theorem dX11_text_17 : decode cX11_text 17 = .ok (.invokestatic 89, 3) := by decide +kernel
theorem dX11_text_20 : decode cX11_text 20 = .ok (.ifCond .eq 11, 3) := by decide +kernel
theorem dX11_text_23 : decode cX11_text 23 = .ok (.iload 4, 2) := by decide +kernel
theorem dX11_text_25 : decode cX11_text 25 = .ok (.invokestatic 135, 3) := by decide +kernel
theorem dX11_text_28 : decode cX11_text 28 = .ok (.ifCond .ne 10, 3) := by decide +kernel
theorem dX11_text_31 : decode cX11_text 31 = .ok (.aload_n 0, 1) := by decide +kernel
theorem dX11_text_32 : decode cX11_text 32 = .ok (.ldc 72, 2) := by decide +kernel
theorem dX11_text_34 : decode cX11_text 34 = .ok (.invokevirtual 68, 3) := by decide +kernel
theorem dX11_text_37 : decode cX11_text 37 = .ok (.ireturn, 1) := by decide +kernel
theorem dX11_text_38 : decode cX11_text 38 = .ok (.aload_n 0, 1) := by decide +kernel
theorem dX11_text_39 : decode cX11_text 39 = .ok (.getfield 9, 3) := by decide +kernel
theorem dX11_text_42 : decode cX11_text 42 = .ok (.iconst 2, 1) := by decide +kernel
theorem dX11_text_43 : decode cX11_text 43 = .ok (.iaload, 1) := by decide +kernel
theorem dX11_text_44 : decode cX11_text 44 = .ok (.istore 5, 2) := by decide +kernel
theorem dX11_text_46 : decode cX11_text 46 = .ok (.iload 5, 2) := by decide +kernel
theorem dX11_text_48 : decode cX11_text 48 = .ok (.bipush 40, 2) := by decide +kernel
theorem dX11_text_50 : decode cX11_text 50 = .ok (.if_icmp .ne 10, 3) := by decide +kernel
theorem dX11_text_53 : decode cX11_text 53 = .ok (.aload_n 0, 1) := by decide +kernel
theorem dX11_text_54 : decode cX11_text 54 = .ok (.ldc 73, 2) := by decide +kernel
theorem dX11_text_56 : decode cX11_text 56 = .ok (.invokevirtual 68, 3) := by decide +kernel
theorem dX11_text_59 : decode cX11_text 59 = .ok (.ireturn, 1) := by decide +kernel
theorem dX11_text_60 : decode cX11_text 60 = .ok (.aload_n 0, 1) := by decide +kernel
theorem dX11_text_61 : decode cX11_text 61 = .ok (.invokevirtual 74, 3) := by decide +kernel
theorem dX11_text_64 : decode cX11_text 64 = .ok (.aload_n 0, 1) := by decide +kernel
theorem dX11_text_65 : decode cX11_text 65 = .ok (.getfield 9, 3) := by decide +kernel
theorem dX11_text_68 : decode cX11_text 68 = .ok (.sipush 268, 3) := by decide +kernel
theorem dX11_text_71 : decode cX11_text 71 = .ok (.iload 5, 2) := by decide +kernel
theorem dX11_text_73 : decode cX11_text 73 = .ok (.iadd, 1) := by decide +kernel
theorem dX11_text_74 : decode cX11_text 74 = .ok (.iload_n 1, 1) := by decide +kernel
theorem dX11_text_75 : decode cX11_text 75 = .ok (.iload_n 2, 1) := by decide +kernel
theorem dX11_text_76 : decode cX11_text 76 = .ok (.iconst 2, 1) := by decide +kernel
theorem dX11_text_77 : decode cX11_text 77 = .ok (.ishl, 1) := by decide +kernel
theorem dX11_text_78 : decode cX11_text 78 = .ok (.ior, 1) := by decide +kernel
theorem dX11_text_79 : decode cX11_text 79 = .ok (.iload_n 3, 1) := by decide +kernel
theorem dX11_text_80 : decode cX11_text 80 = .ok (.iconst 4, 1) := by decide +kernel
theorem dX11_text_81 : decode cX11_text 81 = .ok (.ishl, 1) := by decide +kernel
theorem dX11_text_82 : decode cX11_text 82 = .ok (.ior, 1) := by decide +kernel
theorem dX11_text_83 : decode cX11_text 83 = .ok (.iload 4, 2) := by decide +kernel
theorem dX11_text_85 : decode cX11_text 85 = .ok (.bipush 9, 2) := by decide +kernel
theorem dX11_text_87 : decode cX11_text 87 = .ok (.ishl, 1) := by decide +kernel
theorem dX11_text_88 : decode cX11_text 88 = .ok (.ior, 1) := by decide +kernel
theorem dX11_text_89 : decode cX11_text 89 = .ok (.iastore, 1) := by decide +kernel
theorem dX11_text_90 : decode cX11_text 90 = .ok (.aload_n 0, 1) := by decide +kernel
theorem dX11_text_91 : decode cX11_text 91 = .ok (.getfield 9, 3) := by decide +kernel
theorem dX11_text_94 : decode cX11_text 94 = .ok (.iconst 2, 1) := by decide +kernel
theorem dX11_text_95 : decode cX11_text 95 = .ok (.dup2, 1) := by decide +kernel
theorem dX11_text_96 : decode cX11_text 96 = .ok (.iaload, 1) := by decide +kernel
theorem dX11_text_97 : decode cX11_text 97 = .ok (.iconst 1, 1) := by decide +kernel
theorem dX11_text_98 : decode cX11_text 98 = .ok (.iadd, 1) := by decide +kernel
theorem dX11_text_99 : decode cX11_text 99 = .ok (.iastore, 1) := by decide +kernel
theorem dX11_text_100 : decode cX11_text 100 = .ok (.iload 5, 2) := by decide +kernel
theorem dX11_text_102 : decode cX11_text 102 = .ok (.iconst 1, 1) := by decide +kernel
theorem dX11_text_103 : decode cX11_text 103 = .ok (.iadd, 1) := by decide +kernel
theorem dX11_text_104 : decode cX11_text 104 = .ok (.ireturn, 1) := by decide +kernel
theorem dX11_isOf_0 : decode cX11_isOf 0 = .ok (.iload_n 1, 1) := by decide +kernel
theorem dX11_isOf_1 : decode cX11_isOf 1 = .ok (.iconst 3, 1) := by decide +kernel
theorem dX11_isOf_2 : decode cX11_isOf 2 = .ok (.iand, 1) := by decide +kernel
theorem dX11_isOf_3 : decode cX11_isOf 3 = .ok (.iload_n 2, 1) := by decide +kernel
theorem dX11_isOf_4 : decode cX11_isOf 4 = .ok (.if_icmp .ne 15, 3) := by decide +kernel
theorem dX11_isOf_7 : decode cX11_isOf 7 = .ok (.iload_n 1, 1) := by decide +kernel
theorem dX11_isOf_8 : decode cX11_isOf 8 = .ok (.bipush 9, 2) := by decide +kernel
theorem dX11_isOf_10 : decode cX11_isOf 10 = .ok (.ishr, 1) := by decide +kernel
theorem dX11_isOf_11 : decode cX11_isOf 11 = .ok (.iload_n 3, 1) := by decide +kernel
theorem dX11_isOf_12 : decode cX11_isOf 12 = .ok (.if_icmp .gt 7, 3) := by decide +kernel
theorem dX11_isOf_15 : decode cX11_isOf 15 = .ok (.iconst 1, 1) := by decide +kernel
theorem dX11_isOf_16 : decode cX11_isOf 16 = .ok (.goto 4, 3) := by decide +kernel
theorem dX11_isOf_19 : decode cX11_isOf 19 = .ok (.iconst 0, 1) := by decide +kernel
theorem dX11_isOf_20 : decode cX11_isOf 20 = .ok (.ireturn, 1) := by decide +kernel
theorem dX11_isBarred_0 : decode cX11_isBarred 0 = .ok (.iconst (-1), 1) := by decide +kernel
theorem dX11_isBarred_1 : decode cX11_isBarred 1 = .ok (.istore 4, 2) := by decide +kernel
theorem dX11_isBarred_3 : decode cX11_isBarred 3 = .ok (.iconst 0, 1) := by decide +kernel
theorem dX11_isBarred_4 : decode cX11_isBarred 4 = .ok (.istore 5, 2) := by decide +kernel
theorem dX11_isBarred_6 : decode cX11_isBarred 6 = .ok (.iload 5, 2) := by decide +kernel
theorem dX11_isBarred_8 : decode cX11_isBarred 8 = .ok (.aload_n 0, 1) := by decide +kernel
theorem dX11_isBarred_9 : decode cX11_isBarred 9 = .ok (.getfield 9, 3) := by decide +kernel
theorem dX11_isBarred_12 : decode cX11_isBarred 12 = .ok (.iconst 2, 1) := by decide +kernel
theorem dX11_isBarred_13 : decode cX11_isBarred 13 = .ok (.iaload, 1) := by decide +kernel
theorem dX11_isBarred_14 : decode cX11_isBarred 14 = .ok (.if_icmp .ge 76, 3) := by decide +kernel
theorem dX11_isBarred_17 : decode cX11_isBarred 17 = .ok (.aload_n 0, 1) := by decide +kernel
theorem dX11_isBarred_18 : decode cX11_isBarred 18 = .ok (.getfield 9, 3) := by decide +kernel
theorem dX11_isBarred_21 : decode cX11_isBarred 21 = .ok (.sipush 268, 3) := by decide +kernel
theorem dX11_isBarred_24 : decode cX11_isBarred 24 = .ok (.iload 5, 2) := by decide +kernel
theorem dX11_isBarred_26 : decode cX11_isBarred 26 = .ok (.iadd, 1) := by decide +kernel
theorem dX11_isBarred_27 : decode cX11_isBarred 27 = .ok (.iaload, 1) := by decide +kernel
theorem dX11_isBarred_28 : decode cX11_isBarred 28 = .ok (.istore 6, 2) := by decide +kernel
theorem dX11_isBarred_30 : decode cX11_isBarred 30 = .ok (.aload_n 0, 1) := by decide +kernel
theorem dX11_isBarred_31 : decode cX11_isBarred 31 = .ok (.iload 6, 2) := by decide +kernel
theorem dX11_isBarred_33 : decode cX11_isBarred 33 = .ok (.iload_n 1, 1) := by decide +kernel
theorem dX11_isBarred_34 : decode cX11_isBarred 34 = .ok (.iload_n 3, 1) := by decide +kernel
theorem dX11_isBarred_35 : decode cX11_isBarred 35 = .ok (.invokevirtual 138, 3) := by decide +kernel
theorem dX11_isBarred_38 : decode cX11_isBarred 38 = .ok (.ifCond .eq 46, 3) := by decide +kernel
theorem dX11_isBarred_41 : decode cX11_isBarred 41 = .ok (.iload 6, 2) := by decide +kernel
theorem dX11_isBarred_43 : decode cX11_isBarred 43 = .ok (.iconst 2, 1) := by decide +kernel
theorem dX11_isBarred_44 : decode cX11_isBarred 44 = .ok (.ishr, 1) := by decide +kernel
theorem dX11_isBarred_45 : decode cX11_isBarred 45 = .ok (.iconst 3, 1) := by decide +kernel
theorem dX11_isBarred_46 : decode cX11_isBarred 46 = .ok (.iand, 1) := by decide +kernel
theorem dX11_isBarred_47 : decode cX11_isBarred 47 = .ok (.iconst 2, 1) := by decide +kernel
theorem dX11_isBarred_48 : decode cX11_isBarred 48 = .ok (.if_icmp .ge 36, 3) := by decide +kernel
theorem dX11_isBarred_51 : decode cX11_isBarred 51 = .ok (.iload 6, 2) := by decide +kernel
theorem dX11_isBarred_53 : decode cX11_isBarred 53 = .ok (.iconst 4, 1) := by decide +kernel
theorem dX11_isBarred_54 : decode cX11_isBarred 54 = .ok (.ishr, 1) := by decide +kernel
theorem dX11_isBarred_55 : decode cX11_isBarred 55 = .ok (.bipush 31, 2) := by decide +kernel
theorem dX11_isBarred_57 : decode cX11_isBarred 57 = .ok (.iand, 1) := by decide +kernel
theorem dX11_isBarred_58 : decode cX11_isBarred 58 = .ok (.iload_n 2, 1) := by decide +kernel
theorem dX11_isBarred_59 : decode cX11_isBarred 59 = .ok (.if_icmp .ne 25, 3) := by decide +kernel
theorem dX11_isBarred_62 : decode cX11_isBarred 62 = .ok (.iload 4, 2) := by decide +kernel
theorem dX11_isBarred_64 : decode cX11_isBarred 64 = .ok (.ifCond .lt 16, 3) := by decide +kernel
theorem dX11_isBarred_67 : decode cX11_isBarred 67 = .ok (.iload 6, 2) := by decide +kernel
theorem dX11_isBarred_69 : decode cX11_isBarred 69 = .ok (.bipush 9, 2) := by decide +kernel
theorem dX11_isBarred_71 : decode cX11_isBarred 71 = .ok (.ishr, 1) := by decide +kernel
theorem dX11_isBarred_72 : decode cX11_isBarred 72 = .ok (.iload 4, 2) := by decide +kernel
theorem dX11_isBarred_74 : decode cX11_isBarred 74 = .ok (.bipush 9, 2) := by decide +kernel
theorem dX11_isBarred_76 : decode cX11_isBarred 76 = .ok (.ishr, 1) := by decide +kernel
theorem dX11_isBarred_77 : decode cX11_isBarred 77 = .ok (.if_icmp .lt 7, 3) := by decide +kernel
theorem dX11_isBarred_80 : decode cX11_isBarred 80 = .ok (.iload 6, 2) := by decide +kernel
theorem dX11_isBarred_82 : decode cX11_isBarred 82 = .ok (.istore 4, 2) := by decide +kernel
theorem dX11_isBarred_84 : decode cX11_isBarred 84 = .ok (.iinc 5 1, 3) := by decide +kernel
theorem dX11_isBarred_87 : decode cX11_isBarred 87 = .ok (.goto (-81), 3) := by decide +kernel
theorem dX11_isBarred_90 : decode cX11_isBarred 90 = .ok (.iload 4, 2) := by decide +kernel
theorem dX11_isBarred_92 : decode cX11_isBarred 92 = .ok (.ifCond .lt 16, 3) := by decide +kernel
theorem dX11_isBarred_95 : decode cX11_isBarred 95 = .ok (.iload 4, 2) := by decide +kernel
theorem dX11_isBarred_97 : decode cX11_isBarred 97 = .ok (.iconst 2, 1) := by decide +kernel
theorem dX11_isBarred_98 : decode cX11_isBarred 98 = .ok (.ishr, 1) := by decide +kernel
theorem dX11_isBarred_99 : decode cX11_isBarred 99 = .ok (.iconst 3, 1) := by decide +kernel
theorem dX11_isBarred_100 : decode cX11_isBarred 100 = .ok (.iand, 1) := by decide +kernel
theorem dX11_isBarred_101 : decode cX11_isBarred 101 = .ok (.ifCond .ne 7, 3) := by decide +kernel
theorem dX11_isBarred_104 : decode cX11_isBarred 104 = .ok (.iconst 1, 1) := by decide +kernel
theorem dX11_isBarred_105 : decode cX11_isBarred 105 = .ok (.goto 4, 3) := by decide +kernel
theorem dX11_isBarred_108 : decode cX11_isBarred 108 = .ok (.iconst 0, 1) := by decide +kernel
theorem dX11_isBarred_109 : decode cX11_isBarred 109 = .ok (.ireturn, 1) := by decide +kernel
theorem dX11_chosenOf_0 : decode cX11_chosenOf 0 = .ok (.iconst (-1), 1) := by decide +kernel
theorem dX11_chosenOf_1 : decode cX11_chosenOf 1 = .ok (.istore 4, 2) := by decide +kernel
theorem dX11_chosenOf_3 : decode cX11_chosenOf 3 = .ok (.iconst 0, 1) := by decide +kernel
theorem dX11_chosenOf_4 : decode cX11_chosenOf 4 = .ok (.istore 5, 2) := by decide +kernel
theorem dX11_chosenOf_6 : decode cX11_chosenOf 6 = .ok (.iload 5, 2) := by decide +kernel
theorem dX11_chosenOf_8 : decode cX11_chosenOf 8 = .ok (.aload_n 0, 1) := by decide +kernel
theorem dX11_chosenOf_9 : decode cX11_chosenOf 9 = .ok (.getfield 9, 3) := by decide +kernel
theorem dX11_chosenOf_12 : decode cX11_chosenOf 12 = .ok (.iconst 2, 1) := by decide +kernel
theorem dX11_chosenOf_13 : decode cX11_chosenOf 13 = .ok (.iaload, 1) := by decide +kernel
theorem dX11_chosenOf_14 : decode cX11_chosenOf 14 = .ok (.if_icmp .ge 85, 3) := by decide +kernel
theorem dX11_chosenOf_17 : decode cX11_chosenOf 17 = .ok (.aload_n 0, 1) := by decide +kernel
theorem dX11_chosenOf_18 : decode cX11_chosenOf 18 = .ok (.getfield 9, 3) := by decide +kernel
theorem dX11_chosenOf_21 : decode cX11_chosenOf 21 = .ok (.sipush 268, 3) := by decide +kernel
theorem dX11_chosenOf_24 : decode cX11_chosenOf 24 = .ok (.iload 5, 2) := by decide +kernel
theorem dX11_chosenOf_26 : decode cX11_chosenOf 26 = .ok (.iadd, 1) := by decide +kernel
theorem dX11_chosenOf_27 : decode cX11_chosenOf 27 = .ok (.iaload, 1) := by decide +kernel
theorem dX11_chosenOf_28 : decode cX11_chosenOf 28 = .ok (.istore 6, 2) := by decide +kernel
theorem dX11_chosenOf_30 : decode cX11_chosenOf 30 = .ok (.aload_n 0, 1) := by decide +kernel
theorem dX11_chosenOf_31 : decode cX11_chosenOf 31 = .ok (.iload 6, 2) := by decide +kernel
theorem dX11_chosenOf_33 : decode cX11_chosenOf 33 = .ok (.iload_n 1, 1) := by decide +kernel
theorem dX11_chosenOf_34 : decode cX11_chosenOf 34 = .ok (.iload_n 3, 1) := by decide +kernel
theorem dX11_chosenOf_35 : decode cX11_chosenOf 35 = .ok (.invokevirtual 138, 3) := by decide +kernel
theorem dX11_chosenOf_38 : decode cX11_chosenOf 38 = .ok (.ifCond .eq 55, 3) := by decide +kernel
theorem dX11_chosenOf_41 : decode cX11_chosenOf 41 = .ok (.iload 6, 2) := by decide +kernel
theorem dX11_chosenOf_43 : decode cX11_chosenOf 43 = .ok (.iconst 2, 1) := by decide +kernel
theorem dX11_chosenOf_44 : decode cX11_chosenOf 44 = .ok (.ishr, 1) := by decide +kernel
theorem dX11_chosenOf_45 : decode cX11_chosenOf 45 = .ok (.iconst 3, 1) := by decide +kernel
theorem dX11_chosenOf_46 : decode cX11_chosenOf 46 = .ok (.iand, 1) := by decide +kernel
theorem dX11_chosenOf_47 : decode cX11_chosenOf 47 = .ok (.iconst 2, 1) := by decide +kernel
theorem dX11_chosenOf_48 : decode cX11_chosenOf 48 = .ok (.if_icmp .ne 45, 3) := by decide +kernel
theorem dX11_chosenOf_51 : decode cX11_chosenOf 51 = .ok (.aload_n 0, 1) := by decide +kernel
theorem dX11_chosenOf_52 : decode cX11_chosenOf 52 = .ok (.getfield 9, 3) := by decide +kernel
theorem dX11_chosenOf_55 : decode cX11_chosenOf 55 = .ok (.sipush 308, 3) := by decide +kernel
theorem dX11_chosenOf_58 : decode cX11_chosenOf 58 = .ok (.iload 6, 2) := by decide +kernel
theorem dX11_chosenOf_60 : decode cX11_chosenOf 60 = .ok (.iconst 4, 1) := by decide +kernel
theorem dX11_chosenOf_61 : decode cX11_chosenOf 61 = .ok (.ishr, 1) := by decide +kernel
theorem dX11_chosenOf_62 : decode cX11_chosenOf 62 = .ok (.bipush 31, 2) := by decide +kernel
theorem dX11_chosenOf_64 : decode cX11_chosenOf 64 = .ok (.iand, 1) := by decide +kernel
theorem dX11_chosenOf_65 : decode cX11_chosenOf 65 = .ok (.iadd, 1) := by decide +kernel
theorem dX11_chosenOf_66 : decode cX11_chosenOf 66 = .ok (.iaload, 1) := by decide +kernel
theorem dX11_chosenOf_67 : decode cX11_chosenOf 67 = .ok (.iload_n 2, 1) := by decide +kernel
theorem dX11_chosenOf_68 : decode cX11_chosenOf 68 = .ok (.if_icmp .ne 25, 3) := by decide +kernel
theorem dX11_chosenOf_71 : decode cX11_chosenOf 71 = .ok (.iload 4, 2) := by decide +kernel
theorem dX11_chosenOf_73 : decode cX11_chosenOf 73 = .ok (.ifCond .lt 16, 3) := by decide +kernel
theorem dX11_chosenOf_76 : decode cX11_chosenOf 76 = .ok (.iload 6, 2) := by decide +kernel
theorem dX11_chosenOf_78 : decode cX11_chosenOf 78 = .ok (.bipush 9, 2) := by decide +kernel
theorem dX11_chosenOf_80 : decode cX11_chosenOf 80 = .ok (.ishr, 1) := by decide +kernel
theorem dX11_chosenOf_81 : decode cX11_chosenOf 81 = .ok (.iload 4, 2) := by decide +kernel
theorem dX11_chosenOf_83 : decode cX11_chosenOf 83 = .ok (.bipush 9, 2) := by decide +kernel
theorem dX11_chosenOf_85 : decode cX11_chosenOf 85 = .ok (.ishr, 1) := by decide +kernel
theorem dX11_chosenOf_86 : decode cX11_chosenOf 86 = .ok (.if_icmp .lt 7, 3) := by decide +kernel
theorem dX11_chosenOf_89 : decode cX11_chosenOf 89 = .ok (.iload 6, 2) := by decide +kernel
theorem dX11_chosenOf_91 : decode cX11_chosenOf 91 = .ok (.istore 4, 2) := by decide +kernel
theorem dX11_chosenOf_93 : decode cX11_chosenOf 93 = .ok (.iinc 5 1, 3) := by decide +kernel
theorem dX11_chosenOf_96 : decode cX11_chosenOf 96 = .ok (.goto (-90), 3) := by decide +kernel
theorem dX11_chosenOf_99 : decode cX11_chosenOf 99 = .ok (.iload 4, 2) := by decide +kernel
theorem dX11_chosenOf_101 : decode cX11_chosenOf 101 = .ok (.ifCond .ge 7, 3) := by decide +kernel
theorem dX11_chosenOf_104 : decode cX11_chosenOf 104 = .ok (.iconst (-1), 1) := by decide +kernel
theorem dX11_chosenOf_105 : decode cX11_chosenOf 105 = .ok (.goto 10, 3) := by decide +kernel
theorem dX11_chosenOf_108 : decode cX11_chosenOf 108 = .ok (.iload 4, 2) := by decide +kernel
theorem dX11_chosenOf_110 : decode cX11_chosenOf 110 = .ok (.iconst 4, 1) := by decide +kernel
theorem dX11_chosenOf_111 : decode cX11_chosenOf 111 = .ok (.ishr, 1) := by decide +kernel
theorem dX11_chosenOf_112 : decode cX11_chosenOf 112 = .ok (.bipush 31, 2) := by decide +kernel
theorem dX11_chosenOf_114 : decode cX11_chosenOf 114 = .ok (.iand, 1) := by decide +kernel
theorem dX11_chosenOf_115 : decode cX11_chosenOf 115 = .ok (.ireturn, 1) := by decide +kernel
theorem dX11_barred_0 : decode cX11_barred 0 = .ok (.iload_n 1, 1) := by decide +kernel
theorem dX11_barred_1 : decode cX11_barred 1 = .ok (.invokestatic 132, 3) := by decide +kernel
theorem dX11_barred_4 : decode cX11_barred 4 = .ok (.ifCond .eq 17, 3) := by decide +kernel
theorem dX11_barred_7 : decode cX11_barred 7 = .ok (.iload_n 2, 1) := by decide +kernel
theorem dX11_barred_8 : decode cX11_barred 8 = .ok (.invokestatic 89, 3) := by decide +kernel
theorem dX11_barred_11 : decode cX11_barred 11 = .ok (.ifCond .eq 10, 3) := by decide +kernel
theorem dX11_barred_14 : decode cX11_barred 14 = .ok (.iload_n 3, 1) := by decide +kernel
theorem dX11_barred_15 : decode cX11_barred 15 = .ok (.invokestatic 135, 3) := by decide +kernel
theorem dX11_barred_18 : decode cX11_barred 18 = .ok (.ifCond .ne 10, 3) := by decide +kernel
theorem dX11_barred_21 : decode cX11_barred 21 = .ok (.aload_n 0, 1) := by decide +kernel
theorem dX11_barred_22 : decode cX11_barred 22 = .ok (.ldc 72, 2) := by decide +kernel
theorem dX11_barred_24 : decode cX11_barred 24 = .ok (.invokevirtual 68, 3) := by decide +kernel
theorem dX11_barred_27 : decode cX11_barred 27 = .ok (.ireturn, 1) := by decide +kernel
theorem dX11_barred_28 : decode cX11_barred 28 = .ok (.aload_n 0, 1) := by decide +kernel
theorem dX11_barred_29 : decode cX11_barred 29 = .ok (.iload_n 1, 1) := by decide +kernel
theorem dX11_barred_30 : decode cX11_barred 30 = .ok (.iload_n 2, 1) := by decide +kernel
theorem dX11_barred_31 : decode cX11_barred 31 = .ok (.iload_n 3, 1) := by decide +kernel
theorem dX11_barred_32 : decode cX11_barred 32 = .ok (.invokevirtual 141, 3) := by decide +kernel
theorem dX11_barred_35 : decode cX11_barred 35 = .ok (.ifCond .eq 7, 3) := by decide +kernel
theorem dX11_barred_38 : decode cX11_barred 38 = .ok (.iconst 1, 1) := by decide +kernel
theorem dX11_barred_39 : decode cX11_barred 39 = .ok (.goto 4, 3) := by decide +kernel
theorem dX11_barred_42 : decode cX11_barred 42 = .ok (.iconst 0, 1) := by decide +kernel
theorem dX11_barred_43 : decode cX11_barred 43 = .ok (.ireturn, 1) := by decide +kernel
theorem dX11_chosen_0 : decode cX11_chosen 0 = .ok (.iload_n 1, 1) := by decide +kernel
theorem dX11_chosen_1 : decode cX11_chosen 1 = .ok (.invokestatic 132, 3) := by decide +kernel
theorem dX11_chosen_4 : decode cX11_chosen 4 = .ok (.ifCond .eq 20, 3) := by decide +kernel
theorem dX11_chosen_7 : decode cX11_chosen 7 = .ok (.iload_n 2, 1) := by decide +kernel
theorem dX11_chosen_8 : decode cX11_chosen 8 = .ok (.iconst 0, 1) := by decide +kernel
theorem dX11_chosen_9 : decode cX11_chosen 9 = .ok (.bipush 7, 2) := by decide +kernel
theorem dX11_chosen_11 : decode cX11_chosen 11 = .ok (.invokestatic 60, 3) := by decide +kernel
theorem dX11_chosen_14 : decode cX11_chosen 14 = .ok (.ifCond .eq 10, 3) := by decide +kernel
theorem dX11_chosen_17 : decode cX11_chosen 17 = .ok (.iload_n 3, 1) := by decide +kernel
theorem dX11_chosen_18 : decode cX11_chosen 18 = .ok (.invokestatic 135, 3) := by decide +kernel
theorem dX11_chosen_21 : decode cX11_chosen 21 = .ok (.ifCond .ne 10, 3) := by decide +kernel
theorem dX11_chosen_24 : decode cX11_chosen 24 = .ok (.aload_n 0, 1) := by decide +kernel
theorem dX11_chosen_25 : decode cX11_chosen 25 = .ok (.ldc 72, 2) := by decide +kernel
theorem dX11_chosen_27 : decode cX11_chosen 27 = .ok (.invokevirtual 68, 3) := by decide +kernel
theorem dX11_chosen_30 : decode cX11_chosen 30 = .ok (.ireturn, 1) := by decide +kernel
theorem dX11_chosen_31 : decode cX11_chosen 31 = .ok (.aload_n 0, 1) := by decide +kernel
theorem dX11_chosen_32 : decode cX11_chosen 32 = .ok (.iload_n 1, 1) := by decide +kernel
theorem dX11_chosen_33 : decode cX11_chosen 33 = .ok (.iload_n 2, 1) := by decide +kernel
theorem dX11_chosen_34 : decode cX11_chosen 34 = .ok (.iload_n 3, 1) := by decide +kernel
theorem dX11_chosen_35 : decode cX11_chosen 35 = .ok (.invokevirtual 144, 3) := by decide +kernel
theorem dX11_chosen_38 : decode cX11_chosen 38 = .ok (.istore 4, 2) := by decide +kernel
theorem dX11_chosen_40 : decode cX11_chosen 40 = .ok (.iload 4, 2) := by decide +kernel
theorem dX11_chosen_42 : decode cX11_chosen 42 = .ok (.ifCond .ge 12, 3) := by decide +kernel
theorem dX11_chosen_45 : decode cX11_chosen 45 = .ok (.aload_n 0, 1) := by decide +kernel
theorem dX11_chosen_46 : decode cX11_chosen 46 = .ok (.ldc 67, 2) := by decide +kernel
theorem dX11_chosen_48 : decode cX11_chosen 48 = .ok (.invokevirtual 68, 3) := by decide +kernel
theorem dX11_chosen_51 : decode cX11_chosen 51 = .ok (.goto 5, 3) := by decide +kernel
theorem dX11_chosen_54 : decode cX11_chosen 54 = .ok (.iload 4, 2) := by decide +kernel
theorem dX11_chosen_56 : decode cX11_chosen 56 = .ok (.ireturn, 1) := by decide +kernel
theorem dX11_isLawful_0 : decode cX11_isLawful 0 = .ok (.iconst 0, 1) := by decide +kernel
theorem dX11_isLawful_1 : decode cX11_isLawful 1 = .ok (.istore 4, 2) := by decide +kernel
theorem dX11_isLawful_3 : decode cX11_isLawful 3 = .ok (.iload 4, 2) := by decide +kernel
theorem dX11_isLawful_5 : decode cX11_isLawful 5 = .ok (.aload_n 0, 1) := by decide +kernel
theorem dX11_isLawful_6 : decode cX11_isLawful 6 = .ok (.getfield 9, 3) := by decide +kernel
theorem dX11_isLawful_9 : decode cX11_isLawful 9 = .ok (.bipush 88, 2) := by decide +kernel
theorem dX11_isLawful_11 : decode cX11_isLawful 11 = .ok (.iload_n 1, 1) := by decide +kernel
theorem dX11_isLawful_12 : decode cX11_isLawful 12 = .ok (.iadd, 1) := by decide +kernel
theorem dX11_isLawful_13 : decode cX11_isLawful 13 = .ok (.iaload, 1) := by decide +kernel
theorem dX11_isLawful_14 : decode cX11_isLawful 14 = .ok (.if_icmp .ge 78, 3) := by decide +kernel
theorem dX11_isLawful_17 : decode cX11_isLawful 17 = .ok (.aload_n 0, 1) := by decide +kernel
theorem dX11_isLawful_18 : decode cX11_isLawful 18 = .ok (.iload_n 1, 1) := by decide +kernel
theorem dX11_isLawful_19 : decode cX11_isLawful 19 = .ok (.iload 4, 2) := by decide +kernel
theorem dX11_isLawful_21 : decode cX11_isLawful 21 = .ok (.invokevirtual 97, 3) := by decide +kernel
theorem dX11_isLawful_24 : decode cX11_isLawful 24 = .ok (.bipush 8, 2) := by decide +kernel
theorem dX11_isLawful_26 : decode cX11_isLawful 26 = .ok (.ishr, 1) := by decide +kernel
theorem dX11_isLawful_27 : decode cX11_isLawful 27 = .ok (.istore 5, 2) := by decide +kernel
theorem dX11_isLawful_29 : decode cX11_isLawful 29 = .ok (.aload_n 0, 1) := by decide +kernel
theorem dX11_isLawful_30 : decode cX11_isLawful 30 = .ok (.getfield 9, 3) := by decide +kernel
theorem dX11_isLawful_33 : decode cX11_isLawful 33 = .ok (.sipush 308, 3) := by decide +kernel
theorem dX11_isLawful_36 : decode cX11_isLawful 36 = .ok (.iload 5, 2) := by decide +kernel
theorem dX11_isLawful_38 : decode cX11_isLawful 38 = .ok (.iadd, 1) := by decide +kernel
theorem dX11_isLawful_39 : decode cX11_isLawful 39 = .ok (.iaload, 1) := by decide +kernel
theorem dX11_isLawful_40 : decode cX11_isLawful 40 = .ok (.istore 6, 2) := by decide +kernel
theorem dX11_isLawful_42 : decode cX11_isLawful 42 = .ok (.iload 6, 2) := by decide +kernel
theorem dX11_isLawful_44 : decode cX11_isLawful 44 = .ok (.ifCond .ge 7, 3) := by decide +kernel
theorem dX11_isLawful_47 : decode cX11_isLawful 47 = .ok (.iconst (-1), 1) := by decide +kernel
theorem dX11_isLawful_48 : decode cX11_isLawful 48 = .ok (.goto 11, 3) := by decide +kernel
theorem dX11_isLawful_51 : decode cX11_isLawful 51 = .ok (.aload_n 0, 1) := by decide +kernel
theorem dX11_isLawful_52 : decode cX11_isLawful 52 = .ok (.iload_n 2, 1) := by decide +kernel
theorem dX11_isLawful_53 : decode cX11_isLawful 53 = .ok (.iload 6, 2) := by decide +kernel
theorem dX11_isLawful_55 : decode cX11_isLawful 55 = .ok (.iload_n 3, 1) := by decide +kernel
theorem dX11_isLawful_56 : decode cX11_isLawful 56 = .ok (.invokevirtual 144, 3) := by decide +kernel
theorem dX11_isLawful_59 : decode cX11_isLawful 59 = .ok (.istore 7, 2) := by decide +kernel
theorem dX11_isLawful_61 : decode cX11_isLawful 61 = .ok (.aload_n 0, 1) := by decide +kernel
theorem dX11_isLawful_62 : decode cX11_isLawful 62 = .ok (.iload_n 2, 1) := by decide +kernel
theorem dX11_isLawful_63 : decode cX11_isLawful 63 = .ok (.iload 5, 2) := by decide +kernel
theorem dX11_isLawful_65 : decode cX11_isLawful 65 = .ok (.iload_n 3, 1) := by decide +kernel
theorem dX11_isLawful_66 : decode cX11_isLawful 66 = .ok (.invokevirtual 141, 3) := by decide +kernel
theorem dX11_isLawful_69 : decode cX11_isLawful 69 = .ok (.ifCond .ne 15, 3) := by decide +kernel
theorem dX11_isLawful_72 : decode cX11_isLawful 72 = .ok (.iload 7, 2) := by decide +kernel
theorem dX11_isLawful_74 : decode cX11_isLawful 74 = .ok (.ifCond .lt 12, 3) := by decide +kernel
theorem dX11_isLawful_77 : decode cX11_isLawful 77 = .ok (.iload 7, 2) := by decide +kernel
theorem dX11_isLawful_79 : decode cX11_isLawful 79 = .ok (.iload 5, 2) := by decide +kernel
theorem dX11_isLawful_81 : decode cX11_isLawful 81 = .ok (.if_icmp .eq 5, 3) := by decide +kernel
theorem dX11_isLawful_84 : decode cX11_isLawful 84 = .ok (.iconst 0, 1) := by decide +kernel
theorem dX11_isLawful_85 : decode cX11_isLawful 85 = .ok (.ireturn, 1) := by decide +kernel
theorem dX11_isLawful_86 : decode cX11_isLawful 86 = .ok (.iinc 4 1, 3) := by decide +kernel
theorem dX11_isLawful_89 : decode cX11_isLawful 89 = .ok (.goto (-86), 3) := by decide +kernel
theorem dX11_isLawful_92 : decode cX11_isLawful 92 = .ok (.iconst 1, 1) := by decide +kernel
theorem dX11_isLawful_93 : decode cX11_isLawful 93 = .ok (.ireturn, 1) := by decide +kernel
theorem dX11_lawful_0 : decode cX11_lawful 0 = .ok (.aload_n 0, 1) := by decide +kernel
theorem dX11_lawful_1 : decode cX11_lawful 1 = .ok (.iload_n 1, 1) := by decide +kernel
theorem dX11_lawful_2 : decode cX11_lawful 2 = .ok (.invokevirtual 85, 3) := by decide +kernel
theorem dX11_lawful_5 : decode cX11_lawful 5 = .ok (.ifCond .eq 17, 3) := by decide +kernel
theorem dX11_lawful_8 : decode cX11_lawful 8 = .ok (.iload_n 2, 1) := by decide +kernel
theorem dX11_lawful_9 : decode cX11_lawful 9 = .ok (.invokestatic 132, 3) := by decide +kernel
theorem dX11_lawful_12 : decode cX11_lawful 12 = .ok (.ifCond .eq 10, 3) := by decide +kernel
theorem dX11_lawful_15 : decode cX11_lawful 15 = .ok (.iload_n 3, 1) := by decide +kernel
theorem dX11_lawful_16 : decode cX11_lawful 16 = .ok (.invokestatic 135, 3) := by decide +kernel
theorem dX11_lawful_19 : decode cX11_lawful 19 = .ok (.ifCond .ne 10, 3) := by decide +kernel
theorem dX11_lawful_22 : decode cX11_lawful 22 = .ok (.aload_n 0, 1) := by decide +kernel
theorem dX11_lawful_23 : decode cX11_lawful 23 = .ok (.ldc 72, 2) := by decide +kernel
theorem dX11_lawful_25 : decode cX11_lawful 25 = .ok (.invokevirtual 68, 3) := by decide +kernel
theorem dX11_lawful_28 : decode cX11_lawful 28 = .ok (.ireturn, 1) := by decide +kernel
theorem dX11_lawful_29 : decode cX11_lawful 29 = .ok (.aload_n 0, 1) := by decide +kernel
theorem dX11_lawful_30 : decode cX11_lawful 30 = .ok (.iload_n 1, 1) := by decide +kernel
theorem dX11_lawful_31 : decode cX11_lawful 31 = .ok (.iload_n 2, 1) := by decide +kernel
theorem dX11_lawful_32 : decode cX11_lawful 32 = .ok (.iload_n 3, 1) := by decide +kernel
theorem dX11_lawful_33 : decode cX11_lawful 33 = .ok (.invokevirtual 147, 3) := by decide +kernel
theorem dX11_lawful_36 : decode cX11_lawful 36 = .ok (.ifCond .eq 7, 3) := by decide +kernel
theorem dX11_lawful_39 : decode cX11_lawful 39 = .ok (.iconst 1, 1) := by decide +kernel
theorem dX11_lawful_40 : decode cX11_lawful 40 = .ok (.goto 4, 3) := by decide +kernel
theorem dX11_lawful_43 : decode cX11_lawful 43 = .ok (.iconst 0, 1) := by decide +kernel
theorem dX11_lawful_44 : decode cX11_lawful 44 = .ok (.ireturn, 1) := by decide +kernel
theorem dX11_bestOf_0 : decode cX11_bestOf 0 = .ok (.iconst (-1), 1) := by decide +kernel
theorem dX11_bestOf_1 : decode cX11_bestOf 1 = .ok (.istore 4, 2) := by decide +kernel
theorem dX11_bestOf_3 : decode cX11_bestOf 3 = .ok (.aload_n 0, 1) := by decide +kernel
theorem dX11_bestOf_4 : decode cX11_bestOf 4 = .ok (.iconst 0, 1) := by decide +kernel
theorem dX11_bestOf_5 : decode cX11_bestOf 5 = .ok (.putfield 150, 3) := by decide +kernel
theorem dX11_bestOf_8 : decode cX11_bestOf 8 = .ok (.iconst 0, 1) := by decide +kernel
theorem dX11_bestOf_9 : decode cX11_bestOf 9 = .ok (.istore 5, 2) := by decide +kernel
theorem dX11_bestOf_11 : decode cX11_bestOf 11 = .ok (.iload 5, 2) := by decide +kernel
theorem dX11_bestOf_13 : decode cX11_bestOf 13 = .ok (.aload_n 0, 1) := by decide +kernel
theorem dX11_bestOf_14 : decode cX11_bestOf 14 = .ok (.getfield 9, 3) := by decide +kernel
theorem dX11_bestOf_17 : decode cX11_bestOf 17 = .ok (.iconst 1, 1) := by decide +kernel
theorem dX11_bestOf_18 : decode cX11_bestOf 18 = .ok (.iaload, 1) := by decide +kernel
theorem dX11_bestOf_19 : decode cX11_bestOf 19 = .ok (.if_icmp .ge 91, 3) := by decide +kernel
theorem dX11_bestOf_22 : decode cX11_bestOf 22 = .ok (.aload_n 0, 1) := by decide +kernel
theorem dX11_bestOf_23 : decode cX11_bestOf 23 = .ok (.getfield 9, 3) := by decide +kernel
theorem dX11_bestOf_26 : decode cX11_bestOf 26 = .ok (.bipush 28, 2) := by decide +kernel
theorem dX11_bestOf_28 : decode cX11_bestOf 28 = .ok (.iload 5, 2) := by decide +kernel
theorem dX11_bestOf_30 : decode cX11_bestOf 30 = .ok (.iadd, 1) := by decide +kernel
theorem dX11_bestOf_31 : decode cX11_bestOf 31 = .ok (.iaload, 1) := by decide +kernel
theorem dX11_bestOf_32 : decode cX11_bestOf 32 = .ok (.iload_n 1, 1) := by decide +kernel
theorem dX11_bestOf_33 : decode cX11_bestOf 33 = .ok (.if_icmp .ne 71, 3) := by decide +kernel
theorem dX11_bestOf_36 : decode cX11_bestOf 36 = .ok (.aload_n 0, 1) := by decide +kernel
theorem dX11_bestOf_37 : decode cX11_bestOf 37 = .ok (.iload 5, 2) := by decide +kernel
theorem dX11_bestOf_39 : decode cX11_bestOf 39 = .ok (.iload_n 2, 1) := by decide +kernel
theorem dX11_bestOf_40 : decode cX11_bestOf 40 = .ok (.iload_n 3, 1) := by decide +kernel
theorem dX11_bestOf_41 : decode cX11_bestOf 41 = .ok (.invokevirtual 147, 3) := by decide +kernel
theorem dX11_bestOf_44 : decode cX11_bestOf 44 = .ok (.ifCond .ne 6, 3) := by decide +kernel
theorem dX11_bestOf_47 : decode cX11_bestOf 47 = .ok (.goto 57, 3) := by decide +kernel
theorem dX11_bestOf_50 : decode cX11_bestOf 50 = .ok (.aload_n 0, 1) := by decide +kernel
theorem dX11_bestOf_51 : decode cX11_bestOf 51 = .ok (.iload 5, 2) := by decide +kernel
theorem dX11_bestOf_53 : decode cX11_bestOf 53 = .ok (.invokevirtual 129, 3) := by decide +kernel
theorem dX11_bestOf_56 : decode cX11_bestOf 56 = .ok (.istore 6, 2) := by decide +kernel
theorem dX11_bestOf_58 : decode cX11_bestOf 58 = .ok (.aload_n 0, 1) := by decide +kernel
theorem dX11_bestOf_59 : decode cX11_bestOf 59 = .ok (.getfield 9, 3) := by decide +kernel
theorem dX11_bestOf_62 : decode cX11_bestOf 62 = .ok (.bipush 68, 2) := by decide +kernel
theorem dX11_bestOf_64 : decode cX11_bestOf 64 = .ok (.iload 5, 2) := by decide +kernel
theorem dX11_bestOf_66 : decode cX11_bestOf 66 = .ok (.iadd, 1) := by decide +kernel
theorem dX11_bestOf_67 : decode cX11_bestOf 67 = .ok (.iaload, 1) := by decide +kernel
theorem dX11_bestOf_68 : decode cX11_bestOf 68 = .ok (.iload 6, 2) := by decide +kernel
theorem dX11_bestOf_70 : decode cX11_bestOf 70 = .ok (.isub, 1) := by decide +kernel
theorem dX11_bestOf_71 : decode cX11_bestOf 71 = .ok (.istore 7, 2) := by decide +kernel
theorem dX11_bestOf_73 : decode cX11_bestOf 73 = .ok (.iload 6, 2) := by decide +kernel
theorem dX11_bestOf_75 : decode cX11_bestOf 75 = .ok (.ldc 103, 2) := by decide +kernel
theorem dX11_bestOf_77 : decode cX11_bestOf 77 = .ok (.if_icmp .ge 27, 3) := by decide +kernel
theorem dX11_bestOf_80 : decode cX11_bestOf 80 = .ok (.iload 4, 2) := by decide +kernel
theorem dX11_bestOf_82 : decode cX11_bestOf 82 = .ok (.ifCond .lt 12, 3) := by decide +kernel
theorem dX11_bestOf_85 : decode cX11_bestOf 85 = .ok (.iload 7, 2) := by decide +kernel
theorem dX11_bestOf_87 : decode cX11_bestOf 87 = .ok (.aload_n 0, 1) := by decide +kernel
theorem dX11_bestOf_88 : decode cX11_bestOf 88 = .ok (.getfield 150, 3) := by decide +kernel
theorem dX11_bestOf_91 : decode cX11_bestOf 91 = .ok (.if_icmp .le 13, 3) := by decide +kernel
theorem dX11_bestOf_94 : decode cX11_bestOf 94 = .ok (.iload 5, 2) := by decide +kernel
theorem dX11_bestOf_96 : decode cX11_bestOf 96 = .ok (.istore 4, 2) := by decide +kernel
theorem dX11_bestOf_98 : decode cX11_bestOf 98 = .ok (.aload_n 0, 1) := by decide +kernel
theorem dX11_bestOf_99 : decode cX11_bestOf 99 = .ok (.iload 7, 2) := by decide +kernel
theorem dX11_bestOf_101 : decode cX11_bestOf 101 = .ok (.putfield 150, 3) := by decide +kernel
theorem dX11_bestOf_104 : decode cX11_bestOf 104 = .ok (.iinc 5 1, 3) := by decide +kernel
theorem dX11_bestOf_107 : decode cX11_bestOf 107 = .ok (.goto (-96), 3) := by decide +kernel
theorem dX11_bestOf_110 : decode cX11_bestOf 110 = .ok (.iload 4, 2) := by decide +kernel
theorem dX11_bestOf_112 : decode cX11_bestOf 112 = .ok (.ireturn, 1) := by decide +kernel
theorem dX11_best_0 : decode cX11_best 0 = .ok (.aload_n 0, 1) := by decide +kernel
theorem dX11_best_1 : decode cX11_best 1 = .ok (.iload_n 1, 1) := by decide +kernel
theorem dX11_best_2 : decode cX11_best 2 = .ok (.invokevirtual 77, 3) := by decide +kernel
theorem dX11_best_5 : decode cX11_best 5 = .ok (.ifCond .eq 17, 3) := by decide +kernel
theorem dX11_best_8 : decode cX11_best 8 = .ok (.iload_n 2, 1) := by decide +kernel
theorem dX11_best_9 : decode cX11_best 9 = .ok (.invokestatic 132, 3) := by decide +kernel
theorem dX11_best_12 : decode cX11_best 12 = .ok (.ifCond .eq 10, 3) := by decide +kernel
theorem dX11_best_15 : decode cX11_best 15 = .ok (.iload_n 3, 1) := by decide +kernel
theorem dX11_best_16 : decode cX11_best 16 = .ok (.invokestatic 135, 3) := by decide +kernel
theorem dX11_best_19 : decode cX11_best 19 = .ok (.ifCond .ne 10, 3) := by decide +kernel
theorem dX11_best_22 : decode cX11_best 22 = .ok (.aload_n 0, 1) := by decide +kernel
theorem dX11_best_23 : decode cX11_best 23 = .ok (.ldc 72, 2) := by decide +kernel
theorem dX11_best_25 : decode cX11_best 25 = .ok (.invokevirtual 68, 3) := by decide +kernel
theorem dX11_best_28 : decode cX11_best 28 = .ok (.ireturn, 1) := by decide +kernel
theorem dX11_best_29 : decode cX11_best 29 = .ok (.aload_n 0, 1) := by decide +kernel
theorem dX11_best_30 : decode cX11_best 30 = .ok (.iload_n 1, 1) := by decide +kernel
theorem dX11_best_31 : decode cX11_best 31 = .ok (.iload_n 2, 1) := by decide +kernel
theorem dX11_best_32 : decode cX11_best 32 = .ok (.iload_n 3, 1) := by decide +kernel
theorem dX11_best_33 : decode cX11_best 33 = .ok (.invokevirtual 153, 3) := by decide +kernel
theorem dX11_best_36 : decode cX11_best 36 = .ok (.istore 4, 2) := by decide +kernel
theorem dX11_best_38 : decode cX11_best 38 = .ok (.iload 4, 2) := by decide +kernel
theorem dX11_best_40 : decode cX11_best 40 = .ok (.ifCond .ge 12, 3) := by decide +kernel
theorem dX11_best_43 : decode cX11_best 43 = .ok (.aload_n 0, 1) := by decide +kernel
theorem dX11_best_44 : decode cX11_best 44 = .ok (.ldc 67, 2) := by decide +kernel
theorem dX11_best_46 : decode cX11_best 46 = .ok (.invokevirtual 68, 3) := by decide +kernel
theorem dX11_best_49 : decode cX11_best 49 = .ok (.goto 5, 3) := by decide +kernel
theorem dX11_best_52 : decode cX11_best 52 = .ok (.iload 4, 2) := by decide +kernel
theorem dX11_best_54 : decode cX11_best 54 = .ok (.ireturn, 1) := by decide +kernel
theorem dX11_worth_0 : decode cX11_worth 0 = .ok (.iload_n 1, 1) := by decide +kernel
theorem dX11_worth_1 : decode cX11_worth 1 = .ok (.invokestatic 132, 3) := by decide +kernel
theorem dX11_worth_4 : decode cX11_worth 4 = .ok (.ifCond .eq 10, 3) := by decide +kernel
theorem dX11_worth_7 : decode cX11_worth 7 = .ok (.iload_n 2, 1) := by decide +kernel
theorem dX11_worth_8 : decode cX11_worth 8 = .ok (.invokestatic 135, 3) := by decide +kernel
theorem dX11_worth_11 : decode cX11_worth 11 = .ok (.ifCond .ne 10, 3) := by decide +kernel
theorem dX11_worth_14 : decode cX11_worth 14 = .ok (.aload_n 0, 1) := by decide +kernel
theorem dX11_worth_15 : decode cX11_worth 15 = .ok (.ldc 72, 2) := by decide +kernel
theorem dX11_worth_17 : decode cX11_worth 17 = .ok (.invokevirtual 68, 3) := by decide +kernel
theorem dX11_worth_20 : decode cX11_worth 20 = .ok (.ireturn, 1) := by decide +kernel
theorem dX11_worth_21 : decode cX11_worth 21 = .ok (.iconst 0, 1) := by decide +kernel
theorem dX11_worth_22 : decode cX11_worth 22 = .ok (.istore_n 3, 1) := by decide +kernel
theorem dX11_worth_23 : decode cX11_worth 23 = .ok (.iconst 0, 1) := by decide +kernel
theorem dX11_worth_24 : decode cX11_worth 24 = .ok (.istore 4, 2) := by decide +kernel
theorem dX11_worth_26 : decode cX11_worth 26 = .ok (.iload 4, 2) := by decide +kernel
theorem dX11_worth_28 : decode cX11_worth 28 = .ok (.aload_n 0, 1) := by decide +kernel
theorem dX11_worth_29 : decode cX11_worth 29 = .ok (.getfield 9, 3) := by decide +kernel
theorem dX11_worth_32 : decode cX11_worth 32 = .ok (.iconst 0, 1) := by decide +kernel
theorem dX11_worth_33 : decode cX11_worth 33 = .ok (.iaload, 1) := by decide +kernel
theorem dX11_worth_34 : decode cX11_worth 34 = .ok (.if_icmp .ge 35, 3) := by decide +kernel
theorem dX11_worth_37 : decode cX11_worth 37 = .ok (.aload_n 0, 1) := by decide +kernel
theorem dX11_worth_38 : decode cX11_worth 38 = .ok (.iload 4, 2) := by decide +kernel
theorem dX11_worth_40 : decode cX11_worth 40 = .ok (.iload_n 1, 1) := by decide +kernel
theorem dX11_worth_41 : decode cX11_worth 41 = .ok (.iload_n 2, 1) := by decide +kernel
theorem dX11_worth_42 : decode cX11_worth 42 = .ok (.invokevirtual 153, 3) := by decide +kernel
theorem dX11_worth_45 : decode cX11_worth 45 = .ok (.istore 5, 2) := by decide +kernel
theorem dX11_worth_47 : decode cX11_worth 47 = .ok (.iload_n 3, 1) := by decide +kernel
theorem dX11_worth_48 : decode cX11_worth 48 = .ok (.iload 5, 2) := by decide +kernel
theorem dX11_worth_50 : decode cX11_worth 50 = .ok (.ifCond .ge 7, 3) := by decide +kernel
theorem dX11_worth_53 : decode cX11_worth 53 = .ok (.iconst 0, 1) := by decide +kernel
theorem dX11_worth_54 : decode cX11_worth 54 = .ok (.goto 7, 3) := by decide +kernel
theorem dX11_worth_57 : decode cX11_worth 57 = .ok (.aload_n 0, 1) := by decide +kernel
theorem dX11_worth_58 : decode cX11_worth 58 = .ok (.getfield 150, 3) := by decide +kernel
theorem dX11_worth_61 : decode cX11_worth 61 = .ok (.iadd, 1) := by decide +kernel
theorem dX11_worth_62 : decode cX11_worth 62 = .ok (.istore_n 3, 1) := by decide +kernel
theorem dX11_worth_63 : decode cX11_worth 63 = .ok (.iinc 4 1, 3) := by decide +kernel
theorem dX11_worth_66 : decode cX11_worth 66 = .ok (.goto (-40), 3) := by decide +kernel
theorem dX11_worth_69 : decode cX11_worth 69 = .ok (.iload_n 3, 1) := by decide +kernel
theorem dX11_worth_70 : decode cX11_worth 70 = .ok (.ireturn, 1) := by decide +kernel
theorem dX11_actor_0 : decode cX11_actor 0 = .ok (.iload_n 1, 1) := by decide +kernel
theorem dX11_actor_1 : decode cX11_actor 1 = .ok (.iconst 0, 1) := by decide +kernel
theorem dX11_actor_2 : decode cX11_actor 2 = .ok (.iconst 5, 1) := by decide +kernel
theorem dX11_actor_3 : decode cX11_actor 3 = .ok (.invokestatic 60, 3) := by decide +kernel
theorem dX11_actor_6 : decode cX11_actor 6 = .ok (.ifCond .eq 13, 3) := by decide +kernel
theorem dX11_actor_9 : decode cX11_actor 9 = .ok (.iload_n 2, 1) := by decide +kernel
theorem dX11_actor_10 : decode cX11_actor 10 = .ok (.iconst (-1), 1) := by decide +kernel
theorem dX11_actor_11 : decode cX11_actor 11 = .ok (.bipush 7, 2) := by decide +kernel
theorem dX11_actor_13 : decode cX11_actor 13 = .ok (.invokestatic 60, 3) := by decide +kernel
theorem dX11_actor_16 : decode cX11_actor 16 = .ok (.ifCond .ne 10, 3) := by decide +kernel
theorem dX11_actor_19 : decode cX11_actor 19 = .ok (.aload_n 0, 1) := by decide +kernel
theorem dX11_actor_20 : decode cX11_actor 20 = .ok (.ldc 72, 2) := by decide +kernel
theorem dX11_actor_22 : decode cX11_actor 22 = .ok (.invokevirtual 68, 3) := by decide +kernel
theorem dX11_actor_25 : decode cX11_actor 25 = .ok (.ireturn, 1) := by decide +kernel
theorem dX11_actor_26 : decode cX11_actor 26 = .ok (.aload_n 0, 1) := by decide +kernel
theorem dX11_actor_27 : decode cX11_actor 27 = .ok (.invokevirtual 74, 3) := by decide +kernel
theorem dX11_actor_30 : decode cX11_actor 30 = .ok (.aload_n 0, 1) := by decide +kernel
theorem dX11_actor_31 : decode cX11_actor 31 = .ok (.getfield 9, 3) := by decide +kernel
theorem dX11_actor_34 : decode cX11_actor 34 = .ok (.sipush 340, 3) := by decide +kernel
theorem dX11_actor_37 : decode cX11_actor 37 = .ok (.iload_n 1, 1) := by decide +kernel
theorem dX11_actor_38 : decode cX11_actor 38 = .ok (.iadd, 1) := by decide +kernel
theorem dX11_actor_39 : decode cX11_actor 39 = .ok (.iaload, 1) := by decide +kernel
theorem dX11_actor_40 : decode cX11_actor 40 = .ok (.istore_n 3, 1) := by decide +kernel
theorem dX11_actor_41 : decode cX11_actor 41 = .ok (.aload_n 0, 1) := by decide +kernel
theorem dX11_actor_42 : decode cX11_actor 42 = .ok (.getfield 9, 3) := by decide +kernel
theorem dX11_actor_45 : decode cX11_actor 45 = .ok (.sipush 340, 3) := by decide +kernel
theorem dX11_actor_48 : decode cX11_actor 48 = .ok (.iload_n 1, 1) := by decide +kernel
theorem dX11_actor_49 : decode cX11_actor 49 = .ok (.iadd, 1) := by decide +kernel
theorem dX11_actor_50 : decode cX11_actor 50 = .ok (.iload_n 2, 1) := by decide +kernel
theorem dX11_actor_51 : decode cX11_actor 51 = .ok (.iastore, 1) := by decide +kernel
theorem dX11_actor_52 : decode cX11_actor 52 = .ok (.iload_n 3, 1) := by decide +kernel
theorem dX11_actor_53 : decode cX11_actor 53 = .ok (.ireturn, 1) := by decide +kernel
theorem dX11_free_0 : decode cX11_free 0 = .ok (.iload_n 1, 1) := by decide +kernel
theorem dX11_free_1 : decode cX11_free 1 = .ok (.iconst 0, 1) := by decide +kernel
theorem dX11_free_2 : decode cX11_free 2 = .ok (.bipush 7, 2) := by decide +kernel
theorem dX11_free_4 : decode cX11_free 4 = .ok (.invokestatic 60, 3) := by decide +kernel
theorem dX11_free_7 : decode cX11_free 7 = .ok (.ifCond .eq 13, 3) := by decide +kernel
theorem dX11_free_10 : decode cX11_free 10 = .ok (.iload_n 2, 1) := by decide +kernel
theorem dX11_free_11 : decode cX11_free 11 = .ok (.iconst 0, 1) := by decide +kernel
theorem dX11_free_12 : decode cX11_free 12 = .ok (.bipush 15, 2) := by decide +kernel
theorem dX11_free_14 : decode cX11_free 14 = .ok (.invokestatic 60, 3) := by decide +kernel
theorem dX11_free_17 : decode cX11_free 17 = .ok (.ifCond .ne 10, 3) := by decide +kernel
theorem dX11_free_20 : decode cX11_free 20 = .ok (.aload_n 0, 1) := by decide +kernel
theorem dX11_free_21 : decode cX11_free 21 = .ok (.ldc 72, 2) := by decide +kernel
theorem dX11_free_23 : decode cX11_free 23 = .ok (.invokevirtual 68, 3) := by decide +kernel
theorem dX11_free_26 : decode cX11_free 26 = .ok (.ireturn, 1) := by decide +kernel
theorem dX11_free_27 : decode cX11_free 27 = .ok (.aload_n 0, 1) := by decide +kernel
theorem dX11_free_28 : decode cX11_free 28 = .ok (.invokevirtual 74, 3) := by decide +kernel
theorem dX11_free_31 : decode cX11_free 31 = .ok (.aload_n 0, 1) := by decide +kernel
theorem dX11_free_32 : decode cX11_free 32 = .ok (.getfield 9, 3) := by decide +kernel
theorem dX11_free_35 : decode cX11_free 35 = .ok (.sipush 346, 3) := by decide +kernel
theorem dX11_free_38 : decode cX11_free 38 = .ok (.iload_n 1, 1) := by decide +kernel
theorem dX11_free_39 : decode cX11_free 39 = .ok (.iadd, 1) := by decide +kernel
theorem dX11_free_40 : decode cX11_free 40 = .ok (.iaload, 1) := by decide +kernel
theorem dX11_free_41 : decode cX11_free 41 = .ok (.istore_n 3, 1) := by decide +kernel
theorem dX11_free_42 : decode cX11_free 42 = .ok (.aload_n 0, 1) := by decide +kernel
theorem dX11_free_43 : decode cX11_free 43 = .ok (.getfield 9, 3) := by decide +kernel
theorem dX11_free_46 : decode cX11_free 46 = .ok (.sipush 346, 3) := by decide +kernel
theorem dX11_free_49 : decode cX11_free 49 = .ok (.iload_n 1, 1) := by decide +kernel
theorem dX11_free_50 : decode cX11_free 50 = .ok (.iadd, 1) := by decide +kernel
theorem dX11_free_51 : decode cX11_free 51 = .ok (.iload_n 2, 1) := by decide +kernel
theorem dX11_free_52 : decode cX11_free 52 = .ok (.iastore, 1) := by decide +kernel
theorem dX11_free_53 : decode cX11_free 53 = .ok (.iload_n 3, 1) := by decide +kernel
theorem dX11_free_54 : decode cX11_free 54 = .ok (.ireturn, 1) := by decide +kernel
theorem dX11_room_0 : decode cX11_room 0 = .ok (.iload_n 1, 1) := by decide +kernel
theorem dX11_room_1 : decode cX11_room 1 = .ok (.iconst 0, 1) := by decide +kernel
theorem dX11_room_2 : decode cX11_room 2 = .ok (.iconst 3, 1) := by decide +kernel
theorem dX11_room_3 : decode cX11_room 3 = .ok (.invokestatic 60, 3) := by decide +kernel
theorem dX11_room_6 : decode cX11_room 6 = .ok (.ifCond .eq 13, 3) := by decide +kernel
theorem dX11_room_9 : decode cX11_room 9 = .ok (.iload_n 2, 1) := by decide +kernel
theorem dX11_room_10 : decode cX11_room 10 = .ok (.iconst 0, 1) := by decide +kernel
theorem dX11_room_11 : decode cX11_room 11 = .ok (.bipush 100, 2) := by decide +kernel
theorem dX11_room_13 : decode cX11_room 13 = .ok (.invokestatic 60, 3) := by decide +kernel
theorem dX11_room_16 : decode cX11_room 16 = .ok (.ifCond .ne 10, 3) := by decide +kernel
theorem dX11_room_19 : decode cX11_room 19 = .ok (.aload_n 0, 1) := by decide +kernel
theorem dX11_room_20 : decode cX11_room 20 = .ok (.ldc 72, 2) := by decide +kernel
theorem dX11_room_22 : decode cX11_room 22 = .ok (.invokevirtual 68, 3) := by decide +kernel
theorem dX11_room_25 : decode cX11_room 25 = .ok (.ireturn, 1) := by decide +kernel
theorem dX11_room_26 : decode cX11_room 26 = .ok (.aload_n 0, 1) := by decide +kernel
theorem dX11_room_27 : decode cX11_room 27 = .ok (.invokevirtual 74, 3) := by decide +kernel
theorem dX11_room_30 : decode cX11_room 30 = .ok (.aload_n 0, 1) := by decide +kernel
theorem dX11_room_31 : decode cX11_room 31 = .ok (.getfield 9, 3) := by decide +kernel
theorem dX11_room_34 : decode cX11_room 34 = .ok (.sipush 354, 3) := by decide +kernel
theorem dX11_room_37 : decode cX11_room 37 = .ok (.iload_n 1, 1) := by decide +kernel
theorem dX11_room_38 : decode cX11_room 38 = .ok (.iadd, 1) := by decide +kernel
theorem dX11_room_39 : decode cX11_room 39 = .ok (.iaload, 1) := by decide +kernel
theorem dX11_room_40 : decode cX11_room 40 = .ok (.istore_n 3, 1) := by decide +kernel
theorem dX11_room_41 : decode cX11_room 41 = .ok (.aload_n 0, 1) := by decide +kernel
theorem dX11_room_42 : decode cX11_room 42 = .ok (.getfield 9, 3) := by decide +kernel
theorem dX11_room_45 : decode cX11_room 45 = .ok (.sipush 354, 3) := by decide +kernel
theorem dX11_room_48 : decode cX11_room 48 = .ok (.iload_n 1, 1) := by decide +kernel
theorem dX11_room_49 : decode cX11_room 49 = .ok (.iadd, 1) := by decide +kernel
theorem dX11_room_50 : decode cX11_room 50 = .ok (.iload_n 2, 1) := by decide +kernel
theorem dX11_room_51 : decode cX11_room 51 = .ok (.iastore, 1) := by decide +kernel
theorem dX11_room_52 : decode cX11_room 52 = .ok (.iload_n 3, 1) := by decide +kernel
theorem dX11_room_53 : decode cX11_room 53 = .ok (.ireturn, 1) := by decide +kernel
theorem dX11_loop_0 : decode cX11_loop 0 = .ok (.iload_n 1, 1) := by decide +kernel
theorem dX11_loop_1 : decode cX11_loop 1 = .ok (.iconst 0, 1) := by decide +kernel
theorem dX11_loop_2 : decode cX11_loop 2 = .ok (.iconst 1, 1) := by decide +kernel
theorem dX11_loop_3 : decode cX11_loop 3 = .ok (.aload_n 0, 1) := by decide +kernel
theorem dX11_loop_4 : decode cX11_loop 4 = .ok (.getfield 9, 3) := by decide +kernel
theorem dX11_loop_7 : decode cX11_loop 7 = .ok (.iconst 0, 1) := by decide +kernel
theorem dX11_loop_8 : decode cX11_loop 8 = .ok (.iaload, 1) := by decide +kernel
theorem dX11_loop_9 : decode cX11_loop 9 = .ok (.ishl, 1) := by decide +kernel
theorem dX11_loop_10 : decode cX11_loop 10 = .ok (.iconst 1, 1) := by decide +kernel
theorem dX11_loop_11 : decode cX11_loop 11 = .ok (.isub, 1) := by decide +kernel
theorem dX11_loop_12 : decode cX11_loop 12 = .ok (.invokestatic 60, 3) := by decide +kernel
theorem dX11_loop_15 : decode cX11_loop 15 = .ok (.ifCond .ne 10, 3) := by decide +kernel
theorem dX11_loop_18 : decode cX11_loop 18 = .ok (.aload_n 0, 1) := by decide +kernel
theorem dX11_loop_19 : decode cX11_loop 19 = .ok (.ldc 72, 2) := by decide +kernel
theorem dX11_loop_21 : decode cX11_loop 21 = .ok (.invokevirtual 68, 3) := by decide +kernel
theorem dX11_loop_24 : decode cX11_loop 24 = .ok (.ireturn, 1) := by decide +kernel
theorem dX11_loop_25 : decode cX11_loop 25 = .ok (.iload_n 1, 1) := by decide +kernel
theorem dX11_loop_26 : decode cX11_loop 26 = .ok (.ifCond .ne 10, 3) := by decide +kernel
theorem dX11_loop_29 : decode cX11_loop 29 = .ok (.aload_n 0, 1) := by decide +kernel
theorem dX11_loop_30 : decode cX11_loop 30 = .ok (.ldc 92, 2) := by decide +kernel
theorem dX11_loop_32 : decode cX11_loop 32 = .ok (.invokevirtual 68, 3) := by decide +kernel
theorem dX11_loop_35 : decode cX11_loop 35 = .ok (.ireturn, 1) := by decide +kernel
theorem dX11_loop_36 : decode cX11_loop 36 = .ok (.aload_n 0, 1) := by decide +kernel
theorem dX11_loop_37 : decode cX11_loop 37 = .ok (.getfield 9, 3) := by decide +kernel
theorem dX11_loop_40 : decode cX11_loop 40 = .ok (.iconst 3, 1) := by decide +kernel
theorem dX11_loop_41 : decode cX11_loop 41 = .ok (.iaload, 1) := by decide +kernel
theorem dX11_loop_42 : decode cX11_loop 42 = .ok (.istore_n 2, 1) := by decide +kernel
theorem dX11_loop_43 : decode cX11_loop 43 = .ok (.iload_n 2, 1) := by decide +kernel
theorem dX11_loop_44 : decode cX11_loop 44 = .ok (.bipush 7, 2) := by decide +kernel
theorem dX11_loop_46 : decode cX11_loop 46 = .ok (.if_icmp .ne 10, 3) := by decide +kernel
theorem dX11_loop_49 : decode cX11_loop 49 = .ok (.aload_n 0, 1) := by decide +kernel
theorem dX11_loop_50 : decode cX11_loop 50 = .ok (.ldc 73, 2) := by decide +kernel
theorem dX11_loop_52 : decode cX11_loop 52 = .ok (.invokevirtual 68, 3) := by decide +kernel
theorem dX11_loop_55 : decode cX11_loop 55 = .ok (.ireturn, 1) := by decide +kernel
theorem dX11_loop_56 : decode cX11_loop 56 = .ok (.aload_n 0, 1) := by decide +kernel
theorem dX11_loop_57 : decode cX11_loop 57 = .ok (.invokevirtual 74, 3) := by decide +kernel
theorem dX11_loop_60 : decode cX11_loop 60 = .ok (.aload_n 0, 1) := by decide +kernel
theorem dX11_loop_61 : decode cX11_loop 61 = .ok (.getfield 9, 3) := by decide +kernel
theorem dX11_loop_64 : decode cX11_loop 64 = .ok (.sipush 358, 3) := by decide +kernel
theorem dX11_loop_67 : decode cX11_loop 67 = .ok (.iload_n 2, 1) := by decide +kernel
theorem dX11_loop_68 : decode cX11_loop 68 = .ok (.iadd, 1) := by decide +kernel
theorem dX11_loop_69 : decode cX11_loop 69 = .ok (.iload_n 1, 1) := by decide +kernel
theorem dX11_loop_70 : decode cX11_loop 70 = .ok (.iastore, 1) := by decide +kernel
theorem dX11_loop_71 : decode cX11_loop 71 = .ok (.aload_n 0, 1) := by decide +kernel
theorem dX11_loop_72 : decode cX11_loop 72 = .ok (.getfield 9, 3) := by decide +kernel
theorem dX11_loop_75 : decode cX11_loop 75 = .ok (.iconst 3, 1) := by decide +kernel
theorem dX11_loop_76 : decode cX11_loop 76 = .ok (.dup2, 1) := by decide +kernel
theorem dX11_loop_77 : decode cX11_loop 77 = .ok (.iaload, 1) := by decide +kernel
theorem dX11_loop_78 : decode cX11_loop 78 = .ok (.iconst 1, 1) := by decide +kernel
theorem dX11_loop_79 : decode cX11_loop 79 = .ok (.iadd, 1) := by decide +kernel
theorem dX11_loop_80 : decode cX11_loop 80 = .ok (.iastore, 1) := by decide +kernel
theorem dX11_loop_81 : decode cX11_loop 81 = .ok (.iload_n 2, 1) := by decide +kernel
theorem dX11_loop_82 : decode cX11_loop 82 = .ok (.ireturn, 1) := by decide +kernel
theorem dX11_unloop_0 : decode cX11_unloop 0 = .ok (.aload_n 0, 1) := by decide +kernel
theorem dX11_unloop_1 : decode cX11_unloop 1 = .ok (.getfield 9, 3) := by decide +kernel
theorem dX11_unloop_4 : decode cX11_unloop 4 = .ok (.iconst 3, 1) := by decide +kernel
theorem dX11_unloop_5 : decode cX11_unloop 5 = .ok (.iaload, 1) := by decide +kernel
theorem dX11_unloop_6 : decode cX11_unloop 6 = .ok (.ifCond .ne 10, 3) := by decide +kernel
theorem dX11_unloop_9 : decode cX11_unloop 9 = .ok (.aload_n 0, 1) := by decide +kernel
theorem dX11_unloop_10 : decode cX11_unloop 10 = .ok (.ldc 67, 2) := by decide +kernel
theorem dX11_unloop_12 : decode cX11_unloop 12 = .ok (.invokevirtual 68, 3) := by decide +kernel
theorem dX11_unloop_15 : decode cX11_unloop 15 = .ok (.ireturn, 1) := by decide +kernel
theorem dX11_unloop_16 : decode cX11_unloop 16 = .ok (.aload_n 0, 1) := by decide +kernel
theorem dX11_unloop_17 : decode cX11_unloop 17 = .ok (.invokevirtual 74, 3) := by decide +kernel
theorem dX11_unloop_20 : decode cX11_unloop 20 = .ok (.aload_n 0, 1) := by decide +kernel
theorem dX11_unloop_21 : decode cX11_unloop 21 = .ok (.getfield 9, 3) := by decide +kernel
theorem dX11_unloop_24 : decode cX11_unloop 24 = .ok (.iconst 3, 1) := by decide +kernel
theorem dX11_unloop_25 : decode cX11_unloop 25 = .ok (.dup2, 1) := by decide +kernel
theorem dX11_unloop_26 : decode cX11_unloop 26 = .ok (.iaload, 1) := by decide +kernel
theorem dX11_unloop_27 : decode cX11_unloop 27 = .ok (.iconst 1, 1) := by decide +kernel
theorem dX11_unloop_28 : decode cX11_unloop 28 = .ok (.isub, 1) := by decide +kernel
theorem dX11_unloop_29 : decode cX11_unloop 29 = .ok (.iastore, 1) := by decide +kernel
theorem dX11_unloop_30 : decode cX11_unloop 30 = .ok (.aload_n 0, 1) := by decide +kernel
theorem dX11_unloop_31 : decode cX11_unloop 31 = .ok (.getfield 9, 3) := by decide +kernel
theorem dX11_unloop_34 : decode cX11_unloop 34 = .ok (.iconst 3, 1) := by decide +kernel
theorem dX11_unloop_35 : decode cX11_unloop 35 = .ok (.iaload, 1) := by decide +kernel
theorem dX11_unloop_36 : decode cX11_unloop 36 = .ok (.ireturn, 1) := by decide +kernel
theorem dX11_many_0 : decode cX11_many 0 = .ok (.iconst 0, 1) := by decide +kernel
theorem dX11_many_1 : decode cX11_many 1 = .ok (.istore_n 1, 1) := by decide +kernel
theorem dX11_many_2 : decode cX11_many 2 = .ok (.iconst 0, 1) := by decide +kernel
theorem dX11_many_3 : decode cX11_many 3 = .ok (.istore_n 2, 1) := by decide +kernel
theorem dX11_many_4 : decode cX11_many 4 = .ok (.iload_n 2, 1) := by decide +kernel
theorem dX11_many_5 : decode cX11_many 5 = .ok (.bipush 12, 2) := by decide +kernel
theorem dX11_many_7 : decode cX11_many 7 = .ok (.if_icmp .ge 17, 3) := by decide +kernel
theorem dX11_many_10 : decode cX11_many 10 = .ok (.iload_n 1, 1) := by decide +kernel
theorem dX11_many_11 : decode cX11_many 11 = .ok (.iload_n 0, 1) := by decide +kernel
theorem dX11_many_12 : decode cX11_many 12 = .ok (.iload_n 2, 1) := by decide +kernel
theorem dX11_many_13 : decode cX11_many 13 = .ok (.ishr, 1) := by decide +kernel
theorem dX11_many_14 : decode cX11_many 14 = .ok (.iconst 1, 1) := by decide +kernel
theorem dX11_many_15 : decode cX11_many 15 = .ok (.iand, 1) := by decide +kernel
theorem dX11_many_16 : decode cX11_many 16 = .ok (.iadd, 1) := by decide +kernel
theorem dX11_many_17 : decode cX11_many 17 = .ok (.istore_n 1, 1) := by decide +kernel
theorem dX11_many_18 : decode cX11_many 18 = .ok (.iinc 2 1, 3) := by decide +kernel
theorem dX11_many_21 : decode cX11_many 21 = .ok (.goto (-17), 3) := by decide +kernel
theorem dX11_many_24 : decode cX11_many 24 = .ok (.iload_n 1, 1) := by decide +kernel
theorem dX11_many_25 : decode cX11_many 25 = .ok (.ireturn, 1) := by decide +kernel
theorem dX11_findLoops_0 : decode cX11_findLoops 0 = .ok (.iconst 0, 1) := by decide +kernel
theorem dX11_findLoops_1 : decode cX11_findLoops 1 = .ok (.istore_n 1, 1) := by decide +kernel
theorem dX11_findLoops_2 : decode cX11_findLoops 2 = .ok (.iload_n 1, 1) := by decide +kernel
theorem dX11_findLoops_3 : decode cX11_findLoops 3 = .ok (.aload_n 0, 1) := by decide +kernel
theorem dX11_findLoops_4 : decode cX11_findLoops 4 = .ok (.getfield 9, 3) := by decide +kernel
theorem dX11_findLoops_7 : decode cX11_findLoops 7 = .ok (.iconst 3, 1) := by decide +kernel
theorem dX11_findLoops_8 : decode cX11_findLoops 8 = .ok (.iaload, 1) := by decide +kernel
theorem dX11_findLoops_9 : decode cX11_findLoops 9 = .ok (.if_icmp .ge 134, 3) := by decide +kernel
theorem dX11_findLoops_12 : decode cX11_findLoops 12 = .ok (.aload_n 0, 1) := by decide +kernel
theorem dX11_findLoops_13 : decode cX11_findLoops 13 = .ok (.getfield 41, 3) := by decide +kernel
theorem dX11_findLoops_16 : decode cX11_findLoops 16 = .ok (.iload_n 1, 1) := by decide +kernel
theorem dX11_findLoops_17 : decode cX11_findLoops 17 = .ok (.iconst 0, 1) := by decide +kernel
theorem dX11_findLoops_18 : decode cX11_findLoops 18 = .ok (.iastore, 1) := by decide +kernel
theorem dX11_findLoops_19 : decode cX11_findLoops 19 = .ok (.aload_n 0, 1) := by decide +kernel
theorem dX11_findLoops_20 : decode cX11_findLoops 20 = .ok (.getfield 44, 3) := by decide +kernel
theorem dX11_findLoops_23 : decode cX11_findLoops 23 = .ok (.iload_n 1, 1) := by decide +kernel
theorem dX11_findLoops_24 : decode cX11_findLoops 24 = .ok (.bipush 15, 2) := by decide +kernel
theorem dX11_findLoops_26 : decode cX11_findLoops 26 = .ok (.iastore, 1) := by decide +kernel
theorem dX11_findLoops_27 : decode cX11_findLoops 27 = .ok (.aload_n 0, 1) := by decide +kernel
theorem dX11_findLoops_28 : decode cX11_findLoops 28 = .ok (.getfield 47, 3) := by decide +kernel
theorem dX11_findLoops_31 : decode cX11_findLoops 31 = .ok (.iload_n 1, 1) := by decide +kernel
theorem dX11_findLoops_32 : decode cX11_findLoops 32 = .ok (.iconst 5, 1) := by decide +kernel
theorem dX11_findLoops_33 : decode cX11_findLoops 33 = .ok (.aload_n 0, 1) := by decide +kernel
theorem dX11_findLoops_34 : decode cX11_findLoops 34 = .ok (.getfield 9, 3) := by decide +kernel
theorem dX11_findLoops_37 : decode cX11_findLoops 37 = .ok (.sipush 358, 3) := by decide +kernel
theorem dX11_findLoops_40 : decode cX11_findLoops 40 = .ok (.iload_n 1, 1) := by decide +kernel
theorem dX11_findLoops_41 : decode cX11_findLoops 41 = .ok (.iadd, 1) := by decide +kernel
theorem dX11_findLoops_42 : decode cX11_findLoops 42 = .ok (.iaload, 1) := by decide +kernel
theorem dX11_findLoops_43 : decode cX11_findLoops 43 = .ok (.invokestatic 156, 3) := by decide +kernel
theorem dX11_findLoops_46 : decode cX11_findLoops 46 = .ok (.imul, 1) := by decide +kernel
theorem dX11_findLoops_47 : decode cX11_findLoops 47 = .ok (.iastore, 1) := by decide +kernel
theorem dX11_findLoops_48 : decode cX11_findLoops 48 = .ok (.iconst 0, 1) := by decide +kernel
theorem dX11_findLoops_49 : decode cX11_findLoops 49 = .ok (.istore_n 2, 1) := by decide +kernel
theorem dX11_findLoops_50 : decode cX11_findLoops 50 = .ok (.iload_n 2, 1) := by decide +kernel
theorem dX11_findLoops_51 : decode cX11_findLoops 51 = .ok (.aload_n 0, 1) := by decide +kernel
theorem dX11_findLoops_52 : decode cX11_findLoops 52 = .ok (.getfield 9, 3) := by decide +kernel
theorem dX11_findLoops_55 : decode cX11_findLoops 55 = .ok (.iconst 0, 1) := by decide +kernel
theorem dX11_findLoops_56 : decode cX11_findLoops 56 = .ok (.iaload, 1) := by decide +kernel
theorem dX11_findLoops_57 : decode cX11_findLoops 57 = .ok (.if_icmp .ge 80, 3) := by decide +kernel
theorem dX11_findLoops_60 : decode cX11_findLoops 60 = .ok (.aload_n 0, 1) := by decide +kernel
theorem dX11_findLoops_61 : decode cX11_findLoops 61 = .ok (.getfield 9, 3) := by decide +kernel
theorem dX11_findLoops_64 : decode cX11_findLoops 64 = .ok (.sipush 340, 3) := by decide +kernel
theorem dX11_findLoops_67 : decode cX11_findLoops 67 = .ok (.aload_n 0, 1) := by decide +kernel
theorem dX11_findLoops_68 : decode cX11_findLoops 68 = .ok (.getfield 9, 3) := by decide +kernel
theorem dX11_findLoops_71 : decode cX11_findLoops 71 = .ok (.iconst 4, 1) := by decide +kernel
theorem dX11_findLoops_72 : decode cX11_findLoops 72 = .ok (.iload_n 2, 1) := by decide +kernel
theorem dX11_findLoops_73 : decode cX11_findLoops 73 = .ok (.iadd, 1) := by decide +kernel
theorem dX11_findLoops_74 : decode cX11_findLoops 74 = .ok (.iaload, 1) := by decide +kernel
theorem dX11_findLoops_75 : decode cX11_findLoops 75 = .ok (.iadd, 1) := by decide +kernel
theorem dX11_findLoops_76 : decode cX11_findLoops 76 = .ok (.iaload, 1) := by decide +kernel
theorem dX11_findLoops_77 : decode cX11_findLoops 77 = .ok (.istore_n 3, 1) := by decide +kernel
theorem dX11_findLoops_78 : decode cX11_findLoops 78 = .ok (.aload_n 0, 1) := by decide +kernel
theorem dX11_findLoops_79 : decode cX11_findLoops 79 = .ok (.getfield 9, 3) := by decide +kernel
theorem dX11_findLoops_82 : decode cX11_findLoops 82 = .ok (.sipush 358, 3) := by decide +kernel
theorem dX11_findLoops_85 : decode cX11_findLoops 85 = .ok (.iload_n 1, 1) := by decide +kernel
theorem dX11_findLoops_86 : decode cX11_findLoops 86 = .ok (.iadd, 1) := by decide +kernel
theorem dX11_findLoops_87 : decode cX11_findLoops 87 = .ok (.iaload, 1) := by decide +kernel
theorem dX11_findLoops_88 : decode cX11_findLoops 88 = .ok (.iload_n 2, 1) := by decide +kernel
theorem dX11_findLoops_89 : decode cX11_findLoops 89 = .ok (.ishr, 1) := by decide +kernel
theorem dX11_findLoops_90 : decode cX11_findLoops 90 = .ok (.iconst 1, 1) := by decide +kernel
theorem dX11_findLoops_91 : decode cX11_findLoops 91 = .ok (.iand, 1) := by decide +kernel
theorem dX11_findLoops_92 : decode cX11_findLoops 92 = .ok (.iconst 1, 1) := by decide +kernel
theorem dX11_findLoops_93 : decode cX11_findLoops 93 = .ok (.if_icmp .ne 38, 3) := by decide +kernel
theorem dX11_findLoops_96 : decode cX11_findLoops 96 = .ok (.iload_n 3, 1) := by decide +kernel
theorem dX11_findLoops_97 : decode cX11_findLoops 97 = .ok (.ifCond .lt 34, 3) := by decide +kernel
theorem dX11_findLoops_100 : decode cX11_findLoops 100 = .ok (.aload_n 0, 1) := by decide +kernel
theorem dX11_findLoops_101 : decode cX11_findLoops 101 = .ok (.getfield 41, 3) := by decide +kernel
theorem dX11_findLoops_104 : decode cX11_findLoops 104 = .ok (.iload_n 1, 1) := by decide +kernel
theorem dX11_findLoops_105 : decode cX11_findLoops 105 = .ok (.dup2, 1) := by decide +kernel
theorem dX11_findLoops_106 : decode cX11_findLoops 106 = .ok (.iaload, 1) := by decide +kernel
theorem dX11_findLoops_107 : decode cX11_findLoops 107 = .ok (.iconst 1, 1) := by decide +kernel
theorem dX11_findLoops_108 : decode cX11_findLoops 108 = .ok (.iload_n 3, 1) := by decide +kernel
theorem dX11_findLoops_109 : decode cX11_findLoops 109 = .ok (.ishl, 1) := by decide +kernel
theorem dX11_findLoops_110 : decode cX11_findLoops 110 = .ok (.ior, 1) := by decide +kernel
theorem dX11_findLoops_111 : decode cX11_findLoops 111 = .ok (.iastore, 1) := by decide +kernel
theorem dX11_findLoops_112 : decode cX11_findLoops 112 = .ok (.aload_n 0, 1) := by decide +kernel
theorem dX11_findLoops_113 : decode cX11_findLoops 113 = .ok (.getfield 44, 3) := by decide +kernel
theorem dX11_findLoops_116 : decode cX11_findLoops 116 = .ok (.iload_n 1, 1) := by decide +kernel
theorem dX11_findLoops_117 : decode cX11_findLoops 117 = .ok (.dup2, 1) := by decide +kernel
theorem dX11_findLoops_118 : decode cX11_findLoops 118 = .ok (.iaload, 1) := by decide +kernel
theorem dX11_findLoops_119 : decode cX11_findLoops 119 = .ok (.aload_n 0, 1) := by decide +kernel
theorem dX11_findLoops_120 : decode cX11_findLoops 120 = .ok (.getfield 9, 3) := by decide +kernel
theorem dX11_findLoops_123 : decode cX11_findLoops 123 = .ok (.sipush 346, 3) := by decide +kernel
theorem dX11_findLoops_126 : decode cX11_findLoops 126 = .ok (.iload_n 3, 1) := by decide +kernel
theorem dX11_findLoops_127 : decode cX11_findLoops 127 = .ok (.iadd, 1) := by decide +kernel
theorem dX11_findLoops_128 : decode cX11_findLoops 128 = .ok (.iaload, 1) := by decide +kernel
theorem dX11_findLoops_129 : decode cX11_findLoops 129 = .ok (.iand, 1) := by decide +kernel
theorem dX11_findLoops_130 : decode cX11_findLoops 130 = .ok (.iastore, 1) := by decide +kernel
theorem dX11_findLoops_131 : decode cX11_findLoops 131 = .ok (.iinc 2 1, 3) := by decide +kernel
theorem dX11_findLoops_134 : decode cX11_findLoops 134 = .ok (.goto (-84), 3) := by decide +kernel
theorem dX11_findLoops_137 : decode cX11_findLoops 137 = .ok (.iinc 1 1, 3) := by decide +kernel
theorem dX11_findLoops_140 : decode cX11_findLoops 140 = .ok (.goto (-138), 3) := by decide +kernel
theorem dX11_findLoops_143 : decode cX11_findLoops 143 = .ok (.return_, 1) := by decide +kernel
theorem dX11_callsOf_0 : decode cX11_callsOf 0 = .ok (.aload_n 0, 1) := by decide +kernel
theorem dX11_callsOf_1 : decode cX11_callsOf 1 = .ok (.getfield 9, 3) := by decide +kernel
theorem dX11_callsOf_4 : decode cX11_callsOf 4 = .ok (.iconst 3, 1) := by decide +kernel
theorem dX11_callsOf_5 : decode cX11_callsOf 5 = .ok (.iaload, 1) := by decide +kernel
theorem dX11_callsOf_6 : decode cX11_callsOf 6 = .ok (.istore_n 2, 1) := by decide +kernel
theorem dX11_callsOf_7 : decode cX11_callsOf 7 = .ok (.iconst 0, 1) := by decide +kernel
theorem dX11_callsOf_8 : decode cX11_callsOf 8 = .ok (.istore_n 3, 1) := by decide +kernel
theorem dX11_callsOf_9 : decode cX11_callsOf 9 = .ok (.iconst 0, 1) := by decide +kernel
theorem dX11_callsOf_10 : decode cX11_callsOf 10 = .ok (.istore 4, 2) := by decide +kernel
theorem dX11_callsOf_12 : decode cX11_callsOf 12 = .ok (.iload 4, 2) := by decide +kernel
theorem dX11_callsOf_14 : decode cX11_callsOf 14 = .ok (.iconst 4, 1) := by decide +kernel
theorem dX11_callsOf_15 : decode cX11_callsOf 15 = .ok (.if_icmp .ge 117, 3) := by decide +kernel
theorem dX11_callsOf_18 : decode cX11_callsOf 18 = .ok (.iconst 0, 1) := by decide +kernel
theorem dX11_callsOf_19 : decode cX11_callsOf 19 = .ok (.istore 5, 2) := by decide +kernel
theorem dX11_callsOf_21 : decode cX11_callsOf 21 = .ok (.iconst 0, 1) := by decide +kernel
theorem dX11_callsOf_22 : decode cX11_callsOf 22 = .ok (.istore 6, 2) := by decide +kernel
theorem dX11_callsOf_24 : decode cX11_callsOf 24 = .ok (.iconst 0, 1) := by decide +kernel
theorem dX11_callsOf_25 : decode cX11_callsOf 25 = .ok (.istore 7, 2) := by decide +kernel
theorem dX11_callsOf_27 : decode cX11_callsOf 27 = .ok (.iload 7, 2) := by decide +kernel
theorem dX11_callsOf_29 : decode cX11_callsOf 29 = .ok (.iload_n 2, 1) := by decide +kernel
theorem dX11_callsOf_30 : decode cX11_callsOf 30 = .ok (.if_icmp .ge 70, 3) := by decide +kernel
theorem dX11_callsOf_33 : decode cX11_callsOf 33 = .ok (.iload_n 1, 1) := by decide +kernel
theorem dX11_callsOf_34 : decode cX11_callsOf 34 = .ok (.iconst 2, 1) := by decide +kernel
theorem dX11_callsOf_35 : decode cX11_callsOf 35 = .ok (.iload_n 2, 1) := by decide +kernel
theorem dX11_callsOf_36 : decode cX11_callsOf 36 = .ok (.iconst 1, 1) := by decide +kernel
theorem dX11_callsOf_37 : decode cX11_callsOf 37 = .ok (.isub, 1) := by decide +kernel
theorem dX11_callsOf_38 : decode cX11_callsOf 38 = .ok (.iload 7, 2) := by decide +kernel
theorem dX11_callsOf_40 : decode cX11_callsOf 40 = .ok (.isub, 1) := by decide +kernel
theorem dX11_callsOf_41 : decode cX11_callsOf 41 = .ok (.imul, 1) := by decide +kernel
theorem dX11_callsOf_42 : decode cX11_callsOf 42 = .ok (.ishr, 1) := by decide +kernel
theorem dX11_callsOf_43 : decode cX11_callsOf 43 = .ok (.iconst 3, 1) := by decide +kernel
theorem dX11_callsOf_44 : decode cX11_callsOf 44 = .ok (.iand, 1) := by decide +kernel
theorem dX11_callsOf_45 : decode cX11_callsOf 45 = .ok (.iload 4, 2) := by decide +kernel
theorem dX11_callsOf_47 : decode cX11_callsOf 47 = .ok (.if_icmp .eq 6, 3) := by decide +kernel
theorem dX11_callsOf_50 : decode cX11_callsOf 50 = .ok (.goto 44, 3) := by decide +kernel
theorem dX11_callsOf_53 : decode cX11_callsOf 53 = .ok (.aload_n 0, 1) := by decide +kernel
theorem dX11_callsOf_54 : decode cX11_callsOf 54 = .ok (.getfield 44, 3) := by decide +kernel
theorem dX11_callsOf_57 : decode cX11_callsOf 57 = .ok (.iload 7, 2) := by decide +kernel
theorem dX11_callsOf_59 : decode cX11_callsOf 59 = .ok (.iaload, 1) := by decide +kernel
theorem dX11_callsOf_60 : decode cX11_callsOf 60 = .ok (.iload 4, 2) := by decide +kernel
theorem dX11_callsOf_62 : decode cX11_callsOf 62 = .ok (.ishr, 1) := by decide +kernel
theorem dX11_callsOf_63 : decode cX11_callsOf 63 = .ok (.iconst 1, 1) := by decide +kernel
theorem dX11_callsOf_64 : decode cX11_callsOf 64 = .ok (.iand, 1) := by decide +kernel
theorem dX11_callsOf_65 : decode cX11_callsOf 65 = .ok (.ifCond .ne 5, 3) := by decide +kernel
theorem dX11_callsOf_68 : decode cX11_callsOf 68 = .ok (.iconst (-1), 1) := by decide +kernel
theorem dX11_callsOf_69 : decode cX11_callsOf 69 = .ok (.ireturn, 1) := by decide +kernel
theorem dX11_callsOf_70 : decode cX11_callsOf 70 = .ok (.iload 5, 2) := by decide +kernel
theorem dX11_callsOf_72 : decode cX11_callsOf 72 = .ok (.aload_n 0, 1) := by decide +kernel
theorem dX11_callsOf_73 : decode cX11_callsOf 73 = .ok (.getfield 41, 3) := by decide +kernel
theorem dX11_callsOf_76 : decode cX11_callsOf 76 = .ok (.iload 7, 2) := by decide +kernel
theorem dX11_callsOf_78 : decode cX11_callsOf 78 = .ok (.iaload, 1) := by decide +kernel
theorem dX11_callsOf_79 : decode cX11_callsOf 79 = .ok (.ior, 1) := by decide +kernel
theorem dX11_callsOf_80 : decode cX11_callsOf 80 = .ok (.istore 5, 2) := by decide +kernel
theorem dX11_callsOf_82 : decode cX11_callsOf 82 = .ok (.iload 6, 2) := by decide +kernel
theorem dX11_callsOf_84 : decode cX11_callsOf 84 = .ok (.aload_n 0, 1) := by decide +kernel
theorem dX11_callsOf_85 : decode cX11_callsOf 85 = .ok (.getfield 47, 3) := by decide +kernel
theorem dX11_callsOf_88 : decode cX11_callsOf 88 = .ok (.iload 7, 2) := by decide +kernel
theorem dX11_callsOf_90 : decode cX11_callsOf 90 = .ok (.iaload, 1) := by decide +kernel
theorem dX11_callsOf_91 : decode cX11_callsOf 91 = .ok (.iadd, 1) := by decide +kernel
theorem dX11_callsOf_92 : decode cX11_callsOf 92 = .ok (.istore 6, 2) := by decide +kernel
theorem dX11_callsOf_94 : decode cX11_callsOf 94 = .ok (.iinc 7 1, 3) := by decide +kernel
theorem dX11_callsOf_97 : decode cX11_callsOf 97 = .ok (.goto (-70), 3) := by decide +kernel
theorem dX11_callsOf_100 : decode cX11_callsOf 100 = .ok (.iload 6, 2) := by decide +kernel
theorem dX11_callsOf_102 : decode cX11_callsOf 102 = .ok (.aload_n 0, 1) := by decide +kernel
theorem dX11_callsOf_103 : decode cX11_callsOf 103 = .ok (.getfield 9, 3) := by decide +kernel
theorem dX11_callsOf_106 : decode cX11_callsOf 106 = .ok (.sipush 354, 3) := by decide +kernel
theorem dX11_callsOf_109 : decode cX11_callsOf 109 = .ok (.iload 4, 2) := by decide +kernel
theorem dX11_callsOf_111 : decode cX11_callsOf 111 = .ok (.iadd, 1) := by decide +kernel
theorem dX11_callsOf_112 : decode cX11_callsOf 112 = .ok (.iaload, 1) := by decide +kernel
theorem dX11_callsOf_113 : decode cX11_callsOf 113 = .ok (.if_icmp .le 5, 3) := by decide +kernel
theorem dX11_callsOf_116 : decode cX11_callsOf 116 = .ok (.iconst (-1), 1) := by decide +kernel
theorem dX11_callsOf_117 : decode cX11_callsOf 117 = .ok (.ireturn, 1) := by decide +kernel
theorem dX11_callsOf_118 : decode cX11_callsOf 118 = .ok (.iload_n 3, 1) := by decide +kernel
theorem dX11_callsOf_119 : decode cX11_callsOf 119 = .ok (.iload 5, 2) := by decide +kernel
theorem dX11_callsOf_121 : decode cX11_callsOf 121 = .ok (.invokestatic 156, 3) := by decide +kernel
theorem dX11_callsOf_124 : decode cX11_callsOf 124 = .ok (.iadd, 1) := by decide +kernel
theorem dX11_callsOf_125 : decode cX11_callsOf 125 = .ok (.istore_n 3, 1) := by decide +kernel
theorem dX11_callsOf_126 : decode cX11_callsOf 126 = .ok (.iinc 4 1, 3) := by decide +kernel
theorem dX11_callsOf_129 : decode cX11_callsOf 129 = .ok (.goto (-117), 3) := by decide +kernel
theorem dX11_callsOf_132 : decode cX11_callsOf 132 = .ok (.iload_n 3, 1) := by decide +kernel
theorem dX11_callsOf_133 : decode cX11_callsOf 133 = .ok (.ireturn, 1) := by decide +kernel
theorem dX11_findPlan_0 : decode cX11_findPlan 0 = .ok (.aload_n 0, 1) := by decide +kernel
theorem dX11_findPlan_1 : decode cX11_findPlan 1 = .ok (.invokevirtual 159, 3) := by decide +kernel
theorem dX11_findPlan_4 : decode cX11_findPlan 4 = .ok (.aload_n 0, 1) := by decide +kernel
theorem dX11_findPlan_5 : decode cX11_findPlan 5 = .ok (.iconst (-1), 1) := by decide +kernel
theorem dX11_findPlan_6 : decode cX11_findPlan 6 = .ok (.putfield 162, 3) := by decide +kernel
theorem dX11_findPlan_9 : decode cX11_findPlan 9 = .ok (.aload_n 0, 1) := by decide +kernel
theorem dX11_findPlan_10 : decode cX11_findPlan 10 = .ok (.iconst 0, 1) := by decide +kernel
theorem dX11_findPlan_11 : decode cX11_findPlan 11 = .ok (.putfield 165, 3) := by decide +kernel
theorem dX11_findPlan_14 : decode cX11_findPlan 14 = .ok (.iconst 0, 1) := by decide +kernel
theorem dX11_findPlan_15 : decode cX11_findPlan 15 = .ok (.istore_n 1, 1) := by decide +kernel
theorem dX11_findPlan_16 : decode cX11_findPlan 16 = .ok (.iload_n 1, 1) := by decide +kernel
theorem dX11_findPlan_17 : decode cX11_findPlan 17 = .ok (.iconst 1, 1) := by decide +kernel
theorem dX11_findPlan_18 : decode cX11_findPlan 18 = .ok (.iconst 2, 1) := by decide +kernel
theorem dX11_findPlan_19 : decode cX11_findPlan 19 = .ok (.aload_n 0, 1) := by decide +kernel
theorem dX11_findPlan_20 : decode cX11_findPlan 20 = .ok (.getfield 9, 3) := by decide +kernel
theorem dX11_findPlan_23 : decode cX11_findPlan 23 = .ok (.iconst 3, 1) := by decide +kernel
theorem dX11_findPlan_24 : decode cX11_findPlan 24 = .ok (.iaload, 1) := by decide +kernel
theorem dX11_findPlan_25 : decode cX11_findPlan 25 = .ok (.imul, 1) := by decide +kernel
theorem dX11_findPlan_26 : decode cX11_findPlan 26 = .ok (.ishl, 1) := by decide +kernel
theorem dX11_findPlan_27 : decode cX11_findPlan 27 = .ok (.if_icmp .ge 77, 3) := by decide +kernel
theorem dX11_findPlan_30 : decode cX11_findPlan 30 = .ok (.aload_n 0, 1) := by decide +kernel
theorem dX11_findPlan_31 : decode cX11_findPlan 31 = .ok (.iload_n 1, 1) := by decide +kernel
theorem dX11_findPlan_32 : decode cX11_findPlan 32 = .ok (.invokevirtual 168, 3) := by decide +kernel
theorem dX11_findPlan_35 : decode cX11_findPlan 35 = .ok (.istore_n 2, 1) := by decide +kernel
theorem dX11_findPlan_36 : decode cX11_findPlan 36 = .ok (.iload_n 2, 1) := by decide +kernel
theorem dX11_findPlan_37 : decode cX11_findPlan 37 = .ok (.ifCond .lt 61, 3) := by decide +kernel
theorem dX11_findPlan_40 : decode cX11_findPlan 40 = .ok (.aload_n 0, 1) := by decide +kernel
theorem dX11_findPlan_41 : decode cX11_findPlan 41 = .ok (.getfield 162, 3) := by decide +kernel
theorem dX11_findPlan_44 : decode cX11_findPlan 44 = .ok (.ifCond .lt 14, 3) := by decide +kernel
theorem dX11_findPlan_47 : decode cX11_findPlan 47 = .ok (.iload_n 2, 1) := by decide +kernel
theorem dX11_findPlan_48 : decode cX11_findPlan 48 = .ok (.aload_n 0, 1) := by decide +kernel
theorem dX11_findPlan_49 : decode cX11_findPlan 49 = .ok (.getfield 162, 3) := by decide +kernel
theorem dX11_findPlan_52 : decode cX11_findPlan 52 = .ok (.if_icmp .le 6, 3) := by decide +kernel
theorem dX11_findPlan_55 : decode cX11_findPlan 55 = .ok (.goto 43, 3) := by decide +kernel
theorem dX11_findPlan_58 : decode cX11_findPlan 58 = .ok (.aload_n 0, 1) := by decide +kernel
theorem dX11_findPlan_59 : decode cX11_findPlan 59 = .ok (.getfield 162, 3) := by decide +kernel
theorem dX11_findPlan_62 : decode cX11_findPlan 62 = .ok (.ifCond .lt 11, 3) := by decide +kernel
theorem dX11_findPlan_65 : decode cX11_findPlan 65 = .ok (.iload_n 2, 1) := by decide +kernel
theorem dX11_findPlan_66 : decode cX11_findPlan 66 = .ok (.aload_n 0, 1) := by decide +kernel
theorem dX11_findPlan_67 : decode cX11_findPlan 67 = .ok (.getfield 162, 3) := by decide +kernel
theorem dX11_findPlan_70 : decode cX11_findPlan 70 = .ok (.if_icmp .ge 18, 3) := by decide +kernel
theorem dX11_findPlan_73 : decode cX11_findPlan 73 = .ok (.aload_n 0, 1) := by decide +kernel
theorem dX11_findPlan_74 : decode cX11_findPlan 74 = .ok (.iload_n 2, 1) := by decide +kernel
theorem dX11_findPlan_75 : decode cX11_findPlan 75 = .ok (.putfield 162, 3) := by decide +kernel
theorem dX11_findPlan_78 : decode cX11_findPlan 78 = .ok (.aload_n 0, 1) := by decide +kernel
theorem dX11_findPlan_79 : decode cX11_findPlan 79 = .ok (.iload_n 1, 1) := by decide +kernel
theorem dX11_findPlan_80 : decode cX11_findPlan 80 = .ok (.putfield 171, 3) := by decide +kernel
theorem dX11_findPlan_83 : decode cX11_findPlan 83 = .ok (.aload_n 0, 1) := by decide +kernel
theorem dX11_findPlan_84 : decode cX11_findPlan 84 = .ok (.iconst 0, 1) := by decide +kernel
theorem dX11_findPlan_85 : decode cX11_findPlan 85 = .ok (.putfield 165, 3) := by decide +kernel
theorem dX11_findPlan_88 : decode cX11_findPlan 88 = .ok (.aload_n 0, 1) := by decide +kernel
theorem dX11_findPlan_89 : decode cX11_findPlan 89 = .ok (.dup, 1) := by decide +kernel
theorem dX11_findPlan_90 : decode cX11_findPlan 90 = .ok (.getfield 165, 3) := by decide +kernel
theorem dX11_findPlan_93 : decode cX11_findPlan 93 = .ok (.iconst 1, 1) := by decide +kernel
theorem dX11_findPlan_94 : decode cX11_findPlan 94 = .ok (.iadd, 1) := by decide +kernel
theorem dX11_findPlan_95 : decode cX11_findPlan 95 = .ok (.putfield 165, 3) := by decide +kernel
theorem dX11_findPlan_98 : decode cX11_findPlan 98 = .ok (.iinc 1 1, 3) := by decide +kernel
theorem dX11_findPlan_101 : decode cX11_findPlan 101 = .ok (.goto (-85), 3) := by decide +kernel
theorem dX11_findPlan_104 : decode cX11_findPlan 104 = .ok (.return_, 1) := by decide +kernel
theorem dX11_plan_0 : decode cX11_plan 0 = .ok (.aload_n 0, 1) := by decide +kernel
theorem dX11_plan_1 : decode cX11_plan 1 = .ok (.invokevirtual 174, 3) := by decide +kernel
theorem dX11_plan_4 : decode cX11_plan 4 = .ok (.aload_n 0, 1) := by decide +kernel
theorem dX11_plan_5 : decode cX11_plan 5 = .ok (.getfield 162, 3) := by decide +kernel
theorem dX11_plan_8 : decode cX11_plan 8 = .ok (.ifCond .ge 12, 3) := by decide +kernel
theorem dX11_plan_11 : decode cX11_plan 11 = .ok (.aload_n 0, 1) := by decide +kernel
theorem dX11_plan_12 : decode cX11_plan 12 = .ok (.ldc 67, 2) := by decide +kernel
theorem dX11_plan_14 : decode cX11_plan 14 = .ok (.invokevirtual 68, 3) := by decide +kernel
theorem dX11_plan_17 : decode cX11_plan 17 = .ok (.goto 7, 3) := by decide +kernel
theorem dX11_plan_20 : decode cX11_plan 20 = .ok (.aload_n 0, 1) := by decide +kernel
theorem dX11_plan_21 : decode cX11_plan 21 = .ok (.getfield 162, 3) := by decide +kernel
theorem dX11_plan_24 : decode cX11_plan 24 = .ok (.ireturn, 1) := by decide +kernel
theorem dX11_planned_0 : decode cX11_planned 0 = .ok (.iload_n 1, 1) := by decide +kernel
theorem dX11_planned_1 : decode cX11_planned 1 = .ok (.iconst 0, 1) := by decide +kernel
theorem dX11_planned_2 : decode cX11_planned 2 = .ok (.aload_n 0, 1) := by decide +kernel
theorem dX11_planned_3 : decode cX11_planned 3 = .ok (.getfield 9, 3) := by decide +kernel
theorem dX11_planned_6 : decode cX11_planned 6 = .ok (.iconst 3, 1) := by decide +kernel
theorem dX11_planned_7 : decode cX11_planned 7 = .ok (.iaload, 1) := by decide +kernel
theorem dX11_planned_8 : decode cX11_planned 8 = .ok (.iconst 1, 1) := by decide +kernel
theorem dX11_planned_9 : decode cX11_planned 9 = .ok (.isub, 1) := by decide +kernel
theorem dX11_planned_10 : decode cX11_planned 10 = .ok (.invokestatic 60, 3) := by decide +kernel
theorem dX11_planned_13 : decode cX11_planned 13 = .ok (.ifCond .ne 10, 3) := by decide +kernel
theorem dX11_planned_16 : decode cX11_planned 16 = .ok (.aload_n 0, 1) := by decide +kernel
theorem dX11_planned_17 : decode cX11_planned 17 = .ok (.ldc 72, 2) := by decide +kernel
theorem dX11_planned_19 : decode cX11_planned 19 = .ok (.invokevirtual 68, 3) := by decide +kernel
theorem dX11_planned_22 : decode cX11_planned 22 = .ok (.ireturn, 1) := by decide +kernel
theorem dX11_planned_23 : decode cX11_planned 23 = .ok (.aload_n 0, 1) := by decide +kernel
theorem dX11_planned_24 : decode cX11_planned 24 = .ok (.invokevirtual 174, 3) := by decide +kernel
theorem dX11_planned_27 : decode cX11_planned 27 = .ok (.aload_n 0, 1) := by decide +kernel
theorem dX11_planned_28 : decode cX11_planned 28 = .ok (.getfield 162, 3) := by decide +kernel
theorem dX11_planned_31 : decode cX11_planned 31 = .ok (.ifCond .ge 12, 3) := by decide +kernel
theorem dX11_planned_34 : decode cX11_planned 34 = .ok (.aload_n 0, 1) := by decide +kernel
theorem dX11_planned_35 : decode cX11_planned 35 = .ok (.ldc 67, 2) := by decide +kernel
theorem dX11_planned_37 : decode cX11_planned 37 = .ok (.invokevirtual 68, 3) := by decide +kernel
theorem dX11_planned_40 : decode cX11_planned 40 = .ok (.goto 22, 3) := by decide +kernel
theorem dX11_planned_43 : decode cX11_planned 43 = .ok (.aload_n 0, 1) := by decide +kernel
theorem dX11_planned_44 : decode cX11_planned 44 = .ok (.getfield 171, 3) := by decide +kernel
theorem dX11_planned_47 : decode cX11_planned 47 = .ok (.iconst 2, 1) := by decide +kernel
theorem dX11_planned_48 : decode cX11_planned 48 = .ok (.aload_n 0, 1) := by decide +kernel
theorem dX11_planned_49 : decode cX11_planned 49 = .ok (.getfield 9, 3) := by decide +kernel
theorem dX11_planned_52 : decode cX11_planned 52 = .ok (.iconst 3, 1) := by decide +kernel
theorem dX11_planned_53 : decode cX11_planned 53 = .ok (.iaload, 1) := by decide +kernel
theorem dX11_planned_54 : decode cX11_planned 54 = .ok (.iconst 1, 1) := by decide +kernel
theorem dX11_planned_55 : decode cX11_planned 55 = .ok (.isub, 1) := by decide +kernel
theorem dX11_planned_56 : decode cX11_planned 56 = .ok (.iload_n 1, 1) := by decide +kernel
theorem dX11_planned_57 : decode cX11_planned 57 = .ok (.isub, 1) := by decide +kernel
theorem dX11_planned_58 : decode cX11_planned 58 = .ok (.imul, 1) := by decide +kernel
theorem dX11_planned_59 : decode cX11_planned 59 = .ok (.ishr, 1) := by decide +kernel
theorem dX11_planned_60 : decode cX11_planned 60 = .ok (.iconst 3, 1) := by decide +kernel
theorem dX11_planned_61 : decode cX11_planned 61 = .ok (.iand, 1) := by decide +kernel
theorem dX11_planned_62 : decode cX11_planned 62 = .ok (.ireturn, 1) := by decide +kernel
theorem dX11_plans_0 : decode cX11_plans 0 = .ok (.aload_n 0, 1) := by decide +kernel
theorem dX11_plans_1 : decode cX11_plans 1 = .ok (.invokevirtual 174, 3) := by decide +kernel
theorem dX11_plans_4 : decode cX11_plans 4 = .ok (.aload_n 0, 1) := by decide +kernel
theorem dX11_plans_5 : decode cX11_plans 5 = .ok (.getfield 165, 3) := by decide +kernel
theorem dX11_plans_8 : decode cX11_plans 8 = .ok (.ireturn, 1) := by decide +kernel
theorem dX11_shapeIn_0 : decode cX11_shapeIn 0 = .ok (.lload_n 0, 1) := by decide +kernel
theorem dX11_shapeIn_1 : decode cX11_shapeIn 1 = .ok (.iconst 2, 1) := by decide +kernel
theorem dX11_shapeIn_2 : decode cX11_shapeIn 2 = .ok (.iload_n 2, 1) := by decide +kernel
theorem dX11_shapeIn_3 : decode cX11_shapeIn 3 = .ok (.imul, 1) := by decide +kernel
theorem dX11_shapeIn_4 : decode cX11_shapeIn 4 = .ok (.lshr, 1) := by decide +kernel
theorem dX11_shapeIn_5 : decode cX11_shapeIn 5 = .ok (.ldc2_w 81, 3) := by decide +kernel
theorem dX11_shapeIn_8 : decode cX11_shapeIn 8 = .ok (.land, 1) := by decide +kernel
theorem dX11_shapeIn_9 : decode cX11_shapeIn 9 = .ok (.l2i, 1) := by decide +kernel
theorem dX11_shapeIn_10 : decode cX11_shapeIn 10 = .ok (.ireturn, 1) := by decide +kernel
theorem dX11_keptOf_0 : decode cX11_keptOf 0 = .ok (.iconst 0, 1) := by decide +kernel
theorem dX11_keptOf_1 : decode cX11_keptOf 1 = .ok (.istore 7, 2) := by decide +kernel
theorem dX11_keptOf_3 : decode cX11_keptOf 3 = .ok (.iload 7, 2) := by decide +kernel
theorem dX11_keptOf_5 : decode cX11_keptOf 5 = .ok (.iload_n 3, 1) := by decide +kernel
theorem dX11_keptOf_6 : decode cX11_keptOf 6 = .ok (.if_icmp .gt 135, 3) := by decide +kernel
theorem dX11_keptOf_9 : decode cX11_keptOf 9 = .ok (.iconst 0, 1) := by decide +kernel
theorem dX11_keptOf_10 : decode cX11_keptOf 10 = .ok (.istore 8, 2) := by decide +kernel
theorem dX11_keptOf_12 : decode cX11_keptOf 12 = .ok (.iload 8, 2) := by decide +kernel
theorem dX11_keptOf_14 : decode cX11_keptOf 14 = .ok (.iload 6, 2) := by decide +kernel
theorem dX11_keptOf_16 : decode cX11_keptOf 16 = .ok (.if_icmp .gt 119, 3) := by decide +kernel
theorem dX11_keptOf_19 : decode cX11_keptOf 19 = .ok (.iconst 0, 1) := by decide +kernel
theorem dX11_keptOf_20 : decode cX11_keptOf 20 = .ok (.istore 9, 2) := by decide +kernel
theorem dX11_keptOf_22 : decode cX11_keptOf 22 = .ok (.iload 7, 2) := by decide +kernel
theorem dX11_keptOf_24 : decode cX11_keptOf 24 = .ok (.ifCond .le 90, 3) := by decide +kernel
theorem dX11_keptOf_27 : decode cX11_keptOf 27 = .ok (.iload 8, 2) := by decide +kernel
theorem dX11_keptOf_29 : decode cX11_keptOf 29 = .ok (.ifCond .le 85, 3) := by decide +kernel
theorem dX11_keptOf_32 : decode cX11_keptOf 32 = .ok (.bipush 25, 2) := by decide +kernel
theorem dX11_keptOf_34 : decode cX11_keptOf 34 = .ok (.iload 7, 2) := by decide +kernel
theorem dX11_keptOf_36 : decode cX11_keptOf 36 = .ok (.imul, 1) := by decide +kernel
theorem dX11_keptOf_37 : decode cX11_keptOf 37 = .ok (.iload 8, 2) := by decide +kernel
theorem dX11_keptOf_39 : decode cX11_keptOf 39 = .ok (.iadd, 1) := by decide +kernel
theorem dX11_keptOf_40 : decode cX11_keptOf 40 = .ok (.istore 10, 2) := by decide +kernel
theorem dX11_keptOf_42 : decode cX11_keptOf 42 = .ok (.aload_n 0, 1) := by decide +kernel
theorem dX11_keptOf_43 : decode cX11_keptOf 43 = .ok (.getfield 50, 3) := by decide +kernel
theorem dX11_keptOf_46 : decode cX11_keptOf 46 = .ok (.iload 10, 2) := by decide +kernel
theorem dX11_keptOf_48 : decode cX11_keptOf 48 = .ok (.iconst 1, 1) := by decide +kernel
theorem dX11_keptOf_49 : decode cX11_keptOf 49 = .ok (.isub, 1) := by decide +kernel
theorem dX11_keptOf_50 : decode cX11_keptOf 50 = .ok (.iaload, 1) := by decide +kernel
theorem dX11_keptOf_51 : decode cX11_keptOf 51 = .ok (.aload_n 0, 1) := by decide +kernel
theorem dX11_keptOf_52 : decode cX11_keptOf 52 = .ok (.getfield 50, 3) := by decide +kernel
theorem dX11_keptOf_55 : decode cX11_keptOf 55 = .ok (.iload 10, 2) := by decide +kernel
theorem dX11_keptOf_57 : decode cX11_keptOf 57 = .ok (.bipush 24, 2) := by decide +kernel
theorem dX11_keptOf_59 : decode cX11_keptOf 59 = .ok (.isub, 1) := by decide +kernel
theorem dX11_keptOf_60 : decode cX11_keptOf 60 = .ok (.iconst 1, 1) := by decide +kernel
theorem dX11_keptOf_61 : decode cX11_keptOf 61 = .ok (.isub, 1) := by decide +kernel
theorem dX11_keptOf_62 : decode cX11_keptOf 62 = .ok (.iaload, 1) := by decide +kernel
theorem dX11_keptOf_63 : decode cX11_keptOf 63 = .ok (.invokestatic 177, 3) := by decide +kernel
theorem dX11_keptOf_66 : decode cX11_keptOf 66 = .ok (.istore 9, 2) := by decide +kernel
theorem dX11_keptOf_68 : decode cX11_keptOf 68 = .ok (.lload_n 1, 1) := by decide +kernel
theorem dX11_keptOf_69 : decode cX11_keptOf 69 = .ok (.iload 7, 2) := by decide +kernel
theorem dX11_keptOf_71 : decode cX11_keptOf 71 = .ok (.iconst 1, 1) := by decide +kernel
theorem dX11_keptOf_72 : decode cX11_keptOf 72 = .ok (.isub, 1) := by decide +kernel
theorem dX11_keptOf_73 : decode cX11_keptOf 73 = .ok (.invokestatic 180, 3) := by decide +kernel
theorem dX11_keptOf_76 : decode cX11_keptOf 76 = .ok (.lload 4, 2) := by decide +kernel
theorem dX11_keptOf_78 : decode cX11_keptOf 78 = .ok (.iload 8, 2) := by decide +kernel
theorem dX11_keptOf_80 : decode cX11_keptOf 80 = .ok (.iconst 1, 1) := by decide +kernel
theorem dX11_keptOf_81 : decode cX11_keptOf 81 = .ok (.isub, 1) := by decide +kernel
theorem dX11_keptOf_82 : decode cX11_keptOf 82 = .ok (.invokestatic 180, 3) := by decide +kernel
theorem dX11_keptOf_85 : decode cX11_keptOf 85 = .ok (.if_icmp .ne 25, 3) := by decide +kernel
theorem dX11_keptOf_88 : decode cX11_keptOf 88 = .ok (.iload 9, 2) := by decide +kernel
theorem dX11_keptOf_90 : decode cX11_keptOf 90 = .ok (.aload_n 0, 1) := by decide +kernel
theorem dX11_keptOf_91 : decode cX11_keptOf 91 = .ok (.getfield 50, 3) := by decide +kernel
theorem dX11_keptOf_94 : decode cX11_keptOf 94 = .ok (.iload 10, 2) := by decide +kernel
theorem dX11_keptOf_96 : decode cX11_keptOf 96 = .ok (.bipush 24, 2) := by decide +kernel
theorem dX11_keptOf_98 : decode cX11_keptOf 98 = .ok (.isub, 1) := by decide +kernel
theorem dX11_keptOf_99 : decode cX11_keptOf 99 = .ok (.iconst 2, 1) := by decide +kernel
theorem dX11_keptOf_100 : decode cX11_keptOf 100 = .ok (.isub, 1) := by decide +kernel
theorem dX11_keptOf_101 : decode cX11_keptOf 101 = .ok (.iaload, 1) := by decide +kernel
theorem dX11_keptOf_102 : decode cX11_keptOf 102 = .ok (.iconst 1, 1) := by decide +kernel
theorem dX11_keptOf_103 : decode cX11_keptOf 103 = .ok (.iadd, 1) := by decide +kernel
theorem dX11_keptOf_104 : decode cX11_keptOf 104 = .ok (.invokestatic 177, 3) := by decide +kernel
theorem dX11_keptOf_107 : decode cX11_keptOf 107 = .ok (.goto 5, 3) := by decide +kernel
theorem dX11_keptOf_110 : decode cX11_keptOf 110 = .ok (.iload 9, 2) := by decide +kernel
theorem dX11_keptOf_112 : decode cX11_keptOf 112 = .ok (.istore 9, 2) := by decide +kernel
theorem dX11_keptOf_114 : decode cX11_keptOf 114 = .ok (.aload_n 0, 1) := by decide +kernel
theorem dX11_keptOf_115 : decode cX11_keptOf 115 = .ok (.getfield 50, 3) := by decide +kernel
theorem dX11_keptOf_118 : decode cX11_keptOf 118 = .ok (.bipush 25, 2) := by decide +kernel
theorem dX11_keptOf_120 : decode cX11_keptOf 120 = .ok (.iload 7, 2) := by decide +kernel
theorem dX11_keptOf_122 : decode cX11_keptOf 122 = .ok (.imul, 1) := by decide +kernel
theorem dX11_keptOf_123 : decode cX11_keptOf 123 = .ok (.iload 8, 2) := by decide +kernel
theorem dX11_keptOf_125 : decode cX11_keptOf 125 = .ok (.iadd, 1) := by decide +kernel
theorem dX11_keptOf_126 : decode cX11_keptOf 126 = .ok (.iload 9, 2) := by decide +kernel
theorem dX11_keptOf_128 : decode cX11_keptOf 128 = .ok (.iastore, 1) := by decide +kernel
theorem dX11_keptOf_129 : decode cX11_keptOf 129 = .ok (.iinc 8 1, 3) := by decide +kernel
theorem dX11_keptOf_132 : decode cX11_keptOf 132 = .ok (.goto (-120), 3) := by decide +kernel
theorem dX11_keptOf_135 : decode cX11_keptOf 135 = .ok (.iinc 7 1, 3) := by decide +kernel
theorem dX11_keptOf_138 : decode cX11_keptOf 138 = .ok (.goto (-135), 3) := by decide +kernel
theorem dX11_keptOf_141 : decode cX11_keptOf 141 = .ok (.aload_n 0, 1) := by decide +kernel
theorem dX11_keptOf_142 : decode cX11_keptOf 142 = .ok (.getfield 50, 3) := by decide +kernel
theorem dX11_keptOf_145 : decode cX11_keptOf 145 = .ok (.bipush 25, 2) := by decide +kernel
theorem dX11_keptOf_147 : decode cX11_keptOf 147 = .ok (.iload_n 3, 1) := by decide +kernel
theorem dX11_keptOf_148 : decode cX11_keptOf 148 = .ok (.imul, 1) := by decide +kernel
theorem dX11_keptOf_149 : decode cX11_keptOf 149 = .ok (.iload 6, 2) := by decide +kernel
theorem dX11_keptOf_151 : decode cX11_keptOf 151 = .ok (.iadd, 1) := by decide +kernel
theorem dX11_keptOf_152 : decode cX11_keptOf 152 = .ok (.iaload, 1) := by decide +kernel
theorem dX11_keptOf_153 : decode cX11_keptOf 153 = .ok (.ireturn, 1) := by decide +kernel
theorem dX11_change_0 : decode cX11_change 0 = .ok (.aload_n 0, 1) := by decide +kernel
theorem dX11_change_1 : decode cX11_change 1 = .ok (.iload_n 1, 1) := by decide +kernel
theorem dX11_change_2 : decode cX11_change 2 = .ok (.invokevirtual 77, 3) := by decide +kernel
theorem dX11_change_5 : decode cX11_change 5 = .ok (.ifCond .eq 10, 3) := by decide +kernel
theorem dX11_change_8 : decode cX11_change 8 = .ok (.iload_n 2, 1) := by decide +kernel
theorem dX11_change_9 : decode cX11_change 9 = .ok (.invokestatic 184, 3) := by decide +kernel
theorem dX11_change_12 : decode cX11_change 12 = .ok (.ifCond .ne 10, 3) := by decide +kernel
theorem dX11_change_15 : decode cX11_change 15 = .ok (.aload_n 0, 1) := by decide +kernel
theorem dX11_change_16 : decode cX11_change 16 = .ok (.ldc 72, 2) := by decide +kernel
theorem dX11_change_18 : decode cX11_change 18 = .ok (.invokevirtual 68, 3) := by decide +kernel
theorem dX11_change_21 : decode cX11_change 21 = .ok (.ireturn, 1) := by decide +kernel
theorem dX11_change_22 : decode cX11_change 22 = .ok (.aload_n 0, 1) := by decide +kernel
theorem dX11_change_23 : decode cX11_change 23 = .ok (.getfield 23, 3) := by decide +kernel
theorem dX11_change_26 : decode cX11_change 26 = .ok (.iload_n 2, 1) := by decide +kernel
theorem dX11_change_27 : decode cX11_change 27 = .ok (.iaload, 1) := by decide +kernel
theorem dX11_change_28 : decode cX11_change 28 = .ok (.ifCond .ne 10, 3) := by decide +kernel
theorem dX11_change_31 : decode cX11_change 31 = .ok (.aload_n 0, 1) := by decide +kernel
theorem dX11_change_32 : decode cX11_change 32 = .ok (.ldc 187, 2) := by decide +kernel
theorem dX11_change_34 : decode cX11_change 34 = .ok (.invokevirtual 68, 3) := by decide +kernel
theorem dX11_change_37 : decode cX11_change 37 = .ok (.ireturn, 1) := by decide +kernel
theorem dX11_change_38 : decode cX11_change 38 = .ok (.aload_n 0, 1) := by decide +kernel
theorem dX11_change_39 : decode cX11_change 39 = .ok (.getfield 26, 3) := by decide +kernel
theorem dX11_change_42 : decode cX11_change 42 = .ok (.iload_n 2, 1) := by decide +kernel
theorem dX11_change_43 : decode cX11_change 43 = .ok (.iaload, 1) := by decide +kernel
theorem dX11_change_44 : decode cX11_change 44 = .ok (.bipush 24, 2) := by decide +kernel
theorem dX11_change_46 : decode cX11_change 46 = .ok (.if_icmp .le 10, 3) := by decide +kernel
theorem dX11_change_49 : decode cX11_change 49 = .ok (.aload_n 0, 1) := by decide +kernel
theorem dX11_change_50 : decode cX11_change 50 = .ok (.ldc 92, 2) := by decide +kernel
theorem dX11_change_52 : decode cX11_change 52 = .ok (.invokevirtual 68, 3) := by decide +kernel
theorem dX11_change_55 : decode cX11_change 55 = .ok (.ireturn, 1) := by decide +kernel
theorem dX11_change_56 : decode cX11_change 56 = .ok (.aload_n 0, 1) := by decide +kernel
theorem dX11_change_57 : decode cX11_change 57 = .ok (.invokevirtual 74, 3) := by decide +kernel
theorem dX11_change_60 : decode cX11_change 60 = .ok (.lconst 0, 1) := by decide +kernel
theorem dX11_change_61 : decode cX11_change 61 = .ok (.lstore_n 3, 1) := by decide +kernel
theorem dX11_change_62 : decode cX11_change 62 = .ok (.iconst 0, 1) := by decide +kernel
theorem dX11_change_63 : decode cX11_change 63 = .ok (.istore 5, 2) := by decide +kernel
theorem dX11_change_65 : decode cX11_change 65 = .ok (.iload 5, 2) := by decide +kernel
theorem dX11_change_67 : decode cX11_change 67 = .ok (.aload_n 0, 1) := by decide +kernel
theorem dX11_change_68 : decode cX11_change 68 = .ok (.getfield 26, 3) := by decide +kernel
theorem dX11_change_71 : decode cX11_change 71 = .ok (.iload_n 2, 1) := by decide +kernel
theorem dX11_change_72 : decode cX11_change 72 = .ok (.iaload, 1) := by decide +kernel
theorem dX11_change_73 : decode cX11_change 73 = .ok (.if_icmp .ge 32, 3) := by decide +kernel
theorem dX11_change_76 : decode cX11_change 76 = .ok (.lload_n 3, 1) := by decide +kernel
theorem dX11_change_77 : decode cX11_change 77 = .ok (.aload_n 0, 1) := by decide +kernel
theorem dX11_change_78 : decode cX11_change 78 = .ok (.getfield 29, 3) := by decide +kernel
theorem dX11_change_81 : decode cX11_change 81 = .ok (.bipush 30, 2) := by decide +kernel
theorem dX11_change_83 : decode cX11_change 83 = .ok (.iload_n 2, 1) := by decide +kernel
theorem dX11_change_84 : decode cX11_change 84 = .ok (.imul, 1) := by decide +kernel
theorem dX11_change_85 : decode cX11_change 85 = .ok (.iload 5, 2) := by decide +kernel
theorem dX11_change_87 : decode cX11_change 87 = .ok (.iadd, 1) := by decide +kernel
theorem dX11_change_88 : decode cX11_change 88 = .ok (.iaload, 1) := by decide +kernel
theorem dX11_change_89 : decode cX11_change 89 = .ok (.iconst 3, 1) := by decide +kernel
theorem dX11_change_90 : decode cX11_change 90 = .ok (.iand, 1) := by decide +kernel
theorem dX11_change_91 : decode cX11_change 91 = .ok (.i2l, 1) := by decide +kernel
theorem dX11_change_92 : decode cX11_change 92 = .ok (.iconst 2, 1) := by decide +kernel
theorem dX11_change_93 : decode cX11_change 93 = .ok (.iload 5, 2) := by decide +kernel
theorem dX11_change_95 : decode cX11_change 95 = .ok (.imul, 1) := by decide +kernel
theorem dX11_change_96 : decode cX11_change 96 = .ok (.lshl, 1) := by decide +kernel
theorem dX11_change_97 : decode cX11_change 97 = .ok (.lor, 1) := by decide +kernel
theorem dX11_change_98 : decode cX11_change 98 = .ok (.lstore_n 3, 1) := by decide +kernel
theorem dX11_change_99 : decode cX11_change 99 = .ok (.iinc 5 1, 3) := by decide +kernel
theorem dX11_change_102 : decode cX11_change 102 = .ok (.goto (-37), 3) := by decide +kernel
theorem dX11_change_105 : decode cX11_change 105 = .ok (.aload_n 0, 1) := by decide +kernel
theorem dX11_change_106 : decode cX11_change 106 = .ok (.aload_n 0, 1) := by decide +kernel
theorem dX11_change_107 : decode cX11_change 107 = .ok (.getfield 13, 3) := by decide +kernel
theorem dX11_change_110 : decode cX11_change 110 = .ok (.iload_n 1, 1) := by decide +kernel
theorem dX11_change_111 : decode cX11_change 111 = .ok (.laload, 1) := by decide +kernel
theorem dX11_change_112 : decode cX11_change 112 = .ok (.aload_n 0, 1) := by decide +kernel
theorem dX11_change_113 : decode cX11_change 113 = .ok (.getfield 9, 3) := by decide +kernel
theorem dX11_change_116 : decode cX11_change 116 = .ok (.bipush 16, 2) := by decide +kernel
theorem dX11_change_118 : decode cX11_change 118 = .ok (.iload_n 1, 1) := by decide +kernel
theorem dX11_change_119 : decode cX11_change 119 = .ok (.iadd, 1) := by decide +kernel
theorem dX11_change_120 : decode cX11_change 120 = .ok (.iaload, 1) := by decide +kernel
theorem dX11_change_121 : decode cX11_change 121 = .ok (.lload_n 3, 1) := by decide +kernel
theorem dX11_change_122 : decode cX11_change 122 = .ok (.aload_n 0, 1) := by decide +kernel
theorem dX11_change_123 : decode cX11_change 123 = .ok (.getfield 26, 3) := by decide +kernel
theorem dX11_change_126 : decode cX11_change 126 = .ok (.iload_n 2, 1) := by decide +kernel
theorem dX11_change_127 : decode cX11_change 127 = .ok (.iaload, 1) := by decide +kernel
theorem dX11_change_128 : decode cX11_change 128 = .ok (.invokevirtual 188, 3) := by decide +kernel
theorem dX11_change_131 : decode cX11_change 131 = .ok (.istore 5, 2) := by decide +kernel
theorem dX11_change_133 : decode cX11_change 133 = .ok (.aload_n 0, 1) := by decide +kernel
theorem dX11_change_134 : decode cX11_change 134 = .ok (.getfield 13, 3) := by decide +kernel
theorem dX11_change_137 : decode cX11_change 137 = .ok (.iload_n 1, 1) := by decide +kernel
theorem dX11_change_138 : decode cX11_change 138 = .ok (.lload_n 3, 1) := by decide +kernel
theorem dX11_change_139 : decode cX11_change 139 = .ok (.lastore, 1) := by decide +kernel
theorem dX11_change_140 : decode cX11_change 140 = .ok (.aload_n 0, 1) := by decide +kernel
theorem dX11_change_141 : decode cX11_change 141 = .ok (.getfield 9, 3) := by decide +kernel
theorem dX11_change_144 : decode cX11_change 144 = .ok (.bipush 16, 2) := by decide +kernel
theorem dX11_change_146 : decode cX11_change 146 = .ok (.iload_n 1, 1) := by decide +kernel
theorem dX11_change_147 : decode cX11_change 147 = .ok (.iadd, 1) := by decide +kernel
theorem dX11_change_148 : decode cX11_change 148 = .ok (.aload_n 0, 1) := by decide +kernel
theorem dX11_change_149 : decode cX11_change 149 = .ok (.getfield 26, 3) := by decide +kernel
theorem dX11_change_152 : decode cX11_change 152 = .ok (.iload_n 2, 1) := by decide +kernel
theorem dX11_change_153 : decode cX11_change 153 = .ok (.iaload, 1) := by decide +kernel
theorem dX11_change_154 : decode cX11_change 154 = .ok (.iastore, 1) := by decide +kernel
theorem dX11_change_155 : decode cX11_change 155 = .ok (.iload 5, 2) := by decide +kernel
theorem dX11_change_157 : decode cX11_change 157 = .ok (.ireturn, 1) := by decide +kernel
theorem dX11_kept_0 : decode cX11_kept 0 = .ok (.aload_n 0, 1) := by decide +kernel
theorem dX11_kept_1 : decode cX11_kept 1 = .ok (.iload_n 1, 1) := by decide +kernel
theorem dX11_kept_2 : decode cX11_kept 2 = .ok (.invokevirtual 77, 3) := by decide +kernel
theorem dX11_kept_5 : decode cX11_kept 5 = .ok (.ifCond .eq 11, 3) := by decide +kernel
theorem dX11_kept_8 : decode cX11_kept 8 = .ok (.aload_n 0, 1) := by decide +kernel
theorem dX11_kept_9 : decode cX11_kept 9 = .ok (.iload_n 2, 1) := by decide +kernel
theorem dX11_kept_10 : decode cX11_kept 10 = .ok (.invokevirtual 77, 3) := by decide +kernel
theorem dX11_kept_13 : decode cX11_kept 13 = .ok (.ifCond .ne 10, 3) := by decide +kernel
theorem dX11_kept_16 : decode cX11_kept 16 = .ok (.aload_n 0, 1) := by decide +kernel
theorem dX11_kept_17 : decode cX11_kept 17 = .ok (.ldc 72, 2) := by decide +kernel
theorem dX11_kept_19 : decode cX11_kept 19 = .ok (.invokevirtual 68, 3) := by decide +kernel
theorem dX11_kept_22 : decode cX11_kept 22 = .ok (.ireturn, 1) := by decide +kernel
theorem dX11_kept_23 : decode cX11_kept 23 = .ok (.aload_n 0, 1) := by decide +kernel
theorem dX11_kept_24 : decode cX11_kept 24 = .ok (.aload_n 0, 1) := by decide +kernel
theorem dX11_kept_25 : decode cX11_kept 25 = .ok (.getfield 13, 3) := by decide +kernel
theorem dX11_kept_28 : decode cX11_kept 28 = .ok (.iload_n 1, 1) := by decide +kernel
theorem dX11_kept_29 : decode cX11_kept 29 = .ok (.laload, 1) := by decide +kernel
theorem dX11_kept_30 : decode cX11_kept 30 = .ok (.aload_n 0, 1) := by decide +kernel
theorem dX11_kept_31 : decode cX11_kept 31 = .ok (.getfield 9, 3) := by decide +kernel
theorem dX11_kept_34 : decode cX11_kept 34 = .ok (.bipush 16, 2) := by decide +kernel
theorem dX11_kept_36 : decode cX11_kept 36 = .ok (.iload_n 1, 1) := by decide +kernel
theorem dX11_kept_37 : decode cX11_kept 37 = .ok (.iadd, 1) := by decide +kernel
theorem dX11_kept_38 : decode cX11_kept 38 = .ok (.iaload, 1) := by decide +kernel
theorem dX11_kept_39 : decode cX11_kept 39 = .ok (.aload_n 0, 1) := by decide +kernel
theorem dX11_kept_40 : decode cX11_kept 40 = .ok (.getfield 13, 3) := by decide +kernel
theorem dX11_kept_43 : decode cX11_kept 43 = .ok (.iload_n 2, 1) := by decide +kernel
theorem dX11_kept_44 : decode cX11_kept 44 = .ok (.laload, 1) := by decide +kernel
theorem dX11_kept_45 : decode cX11_kept 45 = .ok (.aload_n 0, 1) := by decide +kernel
theorem dX11_kept_46 : decode cX11_kept 46 = .ok (.getfield 9, 3) := by decide +kernel
theorem dX11_kept_49 : decode cX11_kept 49 = .ok (.bipush 16, 2) := by decide +kernel
theorem dX11_kept_51 : decode cX11_kept 51 = .ok (.iload_n 2, 1) := by decide +kernel
theorem dX11_kept_52 : decode cX11_kept 52 = .ok (.iadd, 1) := by decide +kernel
theorem dX11_kept_53 : decode cX11_kept 53 = .ok (.iaload, 1) := by decide +kernel
theorem dX11_kept_54 : decode cX11_kept 54 = .ok (.invokevirtual 188, 3) := by decide +kernel
theorem dX11_kept_57 : decode cX11_kept 57 = .ok (.ireturn, 1) := by decide +kernel
theorem dX11_isSheet_0 : decode cX11_isSheet 0 = .ok (.iload_n 0, 1) := by decide +kernel
theorem dX11_isSheet_1 : decode cX11_isSheet 1 = .ok (.iconst 0, 1) := by decide +kernel
theorem dX11_isSheet_2 : decode cX11_isSheet 2 = .ok (.iconst 3, 1) := by decide +kernel
theorem dX11_isSheet_3 : decode cX11_isSheet 3 = .ok (.invokestatic 60, 3) := by decide +kernel
theorem dX11_isSheet_6 : decode cX11_isSheet 6 = .ok (.ireturn, 1) := by decide +kernel
theorem dX11_sheet_0 : decode cX11_sheet 0 = .ok (.iload_n 1, 1) := by decide +kernel
theorem dX11_sheet_1 : decode cX11_sheet 1 = .ok (.invokestatic 184, 3) := by decide +kernel
theorem dX11_sheet_4 : decode cX11_sheet 4 = .ok (.ifCond .eq 25, 3) := by decide +kernel
theorem dX11_sheet_7 : decode cX11_sheet 7 = .ok (.iload_n 2, 1) := by decide +kernel
theorem dX11_sheet_8 : decode cX11_sheet 8 = .ok (.ifCond .eq 28, 3) := by decide +kernel
theorem dX11_sheet_11 : decode cX11_sheet 11 = .ok (.iload_n 2, 1) := by decide +kernel
theorem dX11_sheet_12 : decode cX11_sheet 12 = .ok (.bipush 8, 2) := by decide +kernel
theorem dX11_sheet_14 : decode cX11_sheet 14 = .ok (.if_icmp .eq 22, 3) := by decide +kernel
theorem dX11_sheet_17 : decode cX11_sheet 17 = .ok (.iload_n 2, 1) := by decide +kernel
theorem dX11_sheet_18 : decode cX11_sheet 18 = .ok (.bipush 16, 2) := by decide +kernel
theorem dX11_sheet_20 : decode cX11_sheet 20 = .ok (.if_icmp .eq 16, 3) := by decide +kernel
theorem dX11_sheet_23 : decode cX11_sheet 23 = .ok (.iload_n 2, 1) := by decide +kernel
theorem dX11_sheet_24 : decode cX11_sheet 24 = .ok (.bipush 32, 2) := by decide +kernel
theorem dX11_sheet_26 : decode cX11_sheet 26 = .ok (.if_icmp .eq 10, 3) := by decide +kernel
theorem dX11_sheet_29 : decode cX11_sheet 29 = .ok (.aload_n 0, 1) := by decide +kernel
theorem dX11_sheet_30 : decode cX11_sheet 30 = .ok (.ldc 72, 2) := by decide +kernel
theorem dX11_sheet_32 : decode cX11_sheet 32 = .ok (.invokevirtual 68, 3) := by decide +kernel
theorem dX11_sheet_35 : decode cX11_sheet 35 = .ok (.ireturn, 1) := by decide +kernel
theorem dX11_sheet_36 : decode cX11_sheet 36 = .ok (.iload_n 3, 1) := by decide +kernel
theorem dX11_sheet_37 : decode cX11_sheet 37 = .ok (.ifCond .ge 10, 3) := by decide +kernel
theorem dX11_sheet_40 : decode cX11_sheet 40 = .ok (.aload_n 0, 1) := by decide +kernel
theorem dX11_sheet_41 : decode cX11_sheet 41 = .ok (.ldc 92, 2) := by decide +kernel
theorem dX11_sheet_43 : decode cX11_sheet 43 = .ok (.invokevirtual 68, 3) := by decide +kernel
theorem dX11_sheet_46 : decode cX11_sheet 46 = .ok (.ireturn, 1) := by decide +kernel
theorem dX11_sheet_47 : decode cX11_sheet 47 = .ok (.iload_n 3, 1) := by decide +kernel
theorem dX11_sheet_48 : decode cX11_sheet 48 = .ok (.bipush 30, 2) := by decide +kernel
theorem dX11_sheet_50 : decode cX11_sheet 50 = .ok (.if_icmp .le 10, 3) := by decide +kernel
theorem dX11_sheet_53 : decode cX11_sheet 53 = .ok (.aload_n 0, 1) := by decide +kernel
theorem dX11_sheet_54 : decode cX11_sheet 54 = .ok (.ldc 72, 2) := by decide +kernel
theorem dX11_sheet_56 : decode cX11_sheet 56 = .ok (.invokevirtual 68, 3) := by decide +kernel
theorem dX11_sheet_59 : decode cX11_sheet 59 = .ok (.ireturn, 1) := by decide +kernel
theorem dX11_sheet_60 : decode cX11_sheet 60 = .ok (.aload_n 0, 1) := by decide +kernel
theorem dX11_sheet_61 : decode cX11_sheet 61 = .ok (.getfield 23, 3) := by decide +kernel
theorem dX11_sheet_64 : decode cX11_sheet 64 = .ok (.iload_n 1, 1) := by decide +kernel
theorem dX11_sheet_65 : decode cX11_sheet 65 = .ok (.iload_n 2, 1) := by decide +kernel
theorem dX11_sheet_66 : decode cX11_sheet 66 = .ok (.iastore, 1) := by decide +kernel
theorem dX11_sheet_67 : decode cX11_sheet 67 = .ok (.aload_n 0, 1) := by decide +kernel
theorem dX11_sheet_68 : decode cX11_sheet 68 = .ok (.getfield 26, 3) := by decide +kernel
theorem dX11_sheet_71 : decode cX11_sheet 71 = .ok (.iload_n 1, 1) := by decide +kernel
theorem dX11_sheet_72 : decode cX11_sheet 72 = .ok (.iload_n 2, 1) := by decide +kernel
theorem dX11_sheet_73 : decode cX11_sheet 73 = .ok (.ifCond .ne 7, 3) := by decide +kernel
theorem dX11_sheet_76 : decode cX11_sheet 76 = .ok (.iconst 0, 1) := by decide +kernel
theorem dX11_sheet_77 : decode cX11_sheet 77 = .ok (.goto 4, 3) := by decide +kernel
theorem dX11_sheet_80 : decode cX11_sheet 80 = .ok (.iload_n 3, 1) := by decide +kernel
theorem dX11_sheet_81 : decode cX11_sheet 81 = .ok (.iastore, 1) := by decide +kernel
theorem dX11_sheet_82 : decode cX11_sheet 82 = .ok (.iconst 0, 1) := by decide +kernel
theorem dX11_sheet_83 : decode cX11_sheet 83 = .ok (.istore 4, 2) := by decide +kernel
theorem dX11_sheet_85 : decode cX11_sheet 85 = .ok (.iload 4, 2) := by decide +kernel
theorem dX11_sheet_87 : decode cX11_sheet 87 = .ok (.bipush 30, 2) := by decide +kernel
theorem dX11_sheet_89 : decode cX11_sheet 89 = .ok (.if_icmp .ge 22, 3) := by decide +kernel
theorem dX11_sheet_92 : decode cX11_sheet 92 = .ok (.aload_n 0, 1) := by decide +kernel
theorem dX11_sheet_93 : decode cX11_sheet 93 = .ok (.getfield 29, 3) := by decide +kernel
theorem dX11_sheet_96 : decode cX11_sheet 96 = .ok (.bipush 30, 2) := by decide +kernel
theorem dX11_sheet_98 : decode cX11_sheet 98 = .ok (.iload_n 1, 1) := by decide +kernel
theorem dX11_sheet_99 : decode cX11_sheet 99 = .ok (.imul, 1) := by decide +kernel
theorem dX11_sheet_100 : decode cX11_sheet 100 = .ok (.iload 4, 2) := by decide +kernel
theorem dX11_sheet_102 : decode cX11_sheet 102 = .ok (.iadd, 1) := by decide +kernel
theorem dX11_sheet_103 : decode cX11_sheet 103 = .ok (.iconst 0, 1) := by decide +kernel
theorem dX11_sheet_104 : decode cX11_sheet 104 = .ok (.iastore, 1) := by decide +kernel
theorem dX11_sheet_105 : decode cX11_sheet 105 = .ok (.iinc 4 1, 3) := by decide +kernel
theorem dX11_sheet_108 : decode cX11_sheet 108 = .ok (.goto (-23), 3) := by decide +kernel
theorem dX11_sheet_111 : decode cX11_sheet 111 = .ok (.aload_n 0, 1) := by decide +kernel
theorem dX11_sheet_112 : decode cX11_sheet 112 = .ok (.getfield 26, 3) := by decide +kernel
theorem dX11_sheet_115 : decode cX11_sheet 115 = .ok (.iload_n 1, 1) := by decide +kernel
theorem dX11_sheet_116 : decode cX11_sheet 116 = .ok (.iaload, 1) := by decide +kernel
theorem dX11_sheet_117 : decode cX11_sheet 117 = .ok (.ireturn, 1) := by decide +kernel
theorem dX11_put_0 : decode cX11_put 0 = .ok (.iload_n 1, 1) := by decide +kernel
theorem dX11_put_1 : decode cX11_put 1 = .ok (.invokestatic 184, 3) := by decide +kernel
theorem dX11_put_4 : decode cX11_put 4 = .ok (.ifCond .ne 10, 3) := by decide +kernel
theorem dX11_put_7 : decode cX11_put 7 = .ok (.aload_n 0, 1) := by decide +kernel
theorem dX11_put_8 : decode cX11_put 8 = .ok (.ldc 72, 2) := by decide +kernel
theorem dX11_put_10 : decode cX11_put 10 = .ok (.invokevirtual 68, 3) := by decide +kernel
theorem dX11_put_13 : decode cX11_put 13 = .ok (.ireturn, 1) := by decide +kernel
theorem dX11_put_14 : decode cX11_put 14 = .ok (.aload_n 0, 1) := by decide +kernel
theorem dX11_put_15 : decode cX11_put 15 = .ok (.getfield 23, 3) := by decide +kernel
theorem dX11_put_18 : decode cX11_put 18 = .ok (.iload_n 1, 1) := by decide +kernel
theorem dX11_put_19 : decode cX11_put 19 = .ok (.iaload, 1) := by decide +kernel
theorem dX11_put_20 : decode cX11_put 20 = .ok (.ifCond .ne 10, 3) := by decide +kernel
theorem dX11_put_23 : decode cX11_put 23 = .ok (.aload_n 0, 1) := by decide +kernel
theorem dX11_put_24 : decode cX11_put 24 = .ok (.ldc 187, 2) := by decide +kernel
theorem dX11_put_26 : decode cX11_put 26 = .ok (.invokevirtual 68, 3) := by decide +kernel
theorem dX11_put_29 : decode cX11_put 29 = .ok (.ireturn, 1) := by decide +kernel
theorem dX11_put_30 : decode cX11_put 30 = .ok (.iload_n 2, 1) := by decide +kernel
theorem dX11_put_31 : decode cX11_put 31 = .ok (.iconst 0, 1) := by decide +kernel
theorem dX11_put_32 : decode cX11_put 32 = .ok (.aload_n 0, 1) := by decide +kernel
theorem dX11_put_33 : decode cX11_put 33 = .ok (.getfield 26, 3) := by decide +kernel
theorem dX11_put_36 : decode cX11_put 36 = .ok (.iload_n 1, 1) := by decide +kernel
theorem dX11_put_37 : decode cX11_put 37 = .ok (.iaload, 1) := by decide +kernel
theorem dX11_put_38 : decode cX11_put 38 = .ok (.iconst 1, 1) := by decide +kernel
theorem dX11_put_39 : decode cX11_put 39 = .ok (.isub, 1) := by decide +kernel
theorem dX11_put_40 : decode cX11_put 40 = .ok (.invokestatic 60, 3) := by decide +kernel
theorem dX11_put_43 : decode cX11_put 43 = .ok (.ifCond .ne 10, 3) := by decide +kernel
theorem dX11_put_46 : decode cX11_put 46 = .ok (.aload_n 0, 1) := by decide +kernel
theorem dX11_put_47 : decode cX11_put 47 = .ok (.ldc 72, 2) := by decide +kernel
theorem dX11_put_49 : decode cX11_put 49 = .ok (.invokevirtual 68, 3) := by decide +kernel
theorem dX11_put_52 : decode cX11_put 52 = .ok (.ireturn, 1) := by decide +kernel
theorem dX11_put_53 : decode cX11_put 53 = .ok (.bipush 32, 2) := by decide +kernel
theorem dX11_put_55 : decode cX11_put 55 = .ok (.aload_n 0, 1) := by decide +kernel
theorem dX11_put_56 : decode cX11_put 56 = .ok (.getfield 23, 3) := by decide +kernel
theorem dX11_put_59 : decode cX11_put 59 = .ok (.iload_n 1, 1) := by decide +kernel
theorem dX11_put_60 : decode cX11_put 60 = .ok (.iaload, 1) := by decide +kernel
theorem dX11_put_61 : decode cX11_put 61 = .ok (.isub, 1) := by decide +kernel
theorem dX11_put_62 : decode cX11_put 62 = .ok (.istore 4, 2) := by decide +kernel
theorem dX11_put_64 : decode cX11_put 64 = .ok (.aload_n 0, 1) := by decide +kernel
theorem dX11_put_65 : decode cX11_put 65 = .ok (.getfield 29, 3) := by decide +kernel
theorem dX11_put_68 : decode cX11_put 68 = .ok (.bipush 30, 2) := by decide +kernel
theorem dX11_put_70 : decode cX11_put 70 = .ok (.iload_n 1, 1) := by decide +kernel
theorem dX11_put_71 : decode cX11_put 71 = .ok (.imul, 1) := by decide +kernel
theorem dX11_put_72 : decode cX11_put 72 = .ok (.iload_n 2, 1) := by decide +kernel
theorem dX11_put_73 : decode cX11_put 73 = .ok (.iadd, 1) := by decide +kernel
theorem dX11_put_74 : decode cX11_put 74 = .ok (.iload_n 3, 1) := by decide +kernel
theorem dX11_put_75 : decode cX11_put 75 = .ok (.iload 4, 2) := by decide +kernel
theorem dX11_put_77 : decode cX11_put 77 = .ok (.ishl, 1) := by decide +kernel
theorem dX11_put_78 : decode cX11_put 78 = .ok (.iload 4, 2) := by decide +kernel
theorem dX11_put_80 : decode cX11_put 80 = .ok (.ishr, 1) := by decide +kernel
theorem dX11_put_81 : decode cX11_put 81 = .ok (.iastore, 1) := by decide +kernel
theorem dX11_put_82 : decode cX11_put 82 = .ok (.iconst 0, 1) := by decide +kernel
theorem dX11_put_83 : decode cX11_put 83 = .ok (.ireturn, 1) := by decide +kernel
theorem dX11_copy_0 : decode cX11_copy 0 = .ok (.iload_n 1, 1) := by decide +kernel
theorem dX11_copy_1 : decode cX11_copy 1 = .ok (.invokestatic 184, 3) := by decide +kernel
theorem dX11_copy_4 : decode cX11_copy 4 = .ok (.ifCond .eq 10, 3) := by decide +kernel
theorem dX11_copy_7 : decode cX11_copy 7 = .ok (.iload_n 3, 1) := by decide +kernel
theorem dX11_copy_8 : decode cX11_copy 8 = .ok (.invokestatic 184, 3) := by decide +kernel
theorem dX11_copy_11 : decode cX11_copy 11 = .ok (.ifCond .ne 10, 3) := by decide +kernel
theorem dX11_copy_14 : decode cX11_copy 14 = .ok (.aload_n 0, 1) := by decide +kernel
theorem dX11_copy_15 : decode cX11_copy 15 = .ok (.ldc 72, 2) := by decide +kernel
theorem dX11_copy_17 : decode cX11_copy 17 = .ok (.invokevirtual 68, 3) := by decide +kernel
theorem dX11_copy_20 : decode cX11_copy 20 = .ok (.ireturn, 1) := by decide +kernel
theorem dX11_copy_21 : decode cX11_copy 21 = .ok (.aload_n 0, 1) := by decide +kernel
theorem dX11_copy_22 : decode cX11_copy 22 = .ok (.getfield 23, 3) := by decide +kernel
theorem dX11_copy_25 : decode cX11_copy 25 = .ok (.iload_n 1, 1) := by decide +kernel
theorem dX11_copy_26 : decode cX11_copy 26 = .ok (.iaload, 1) := by decide +kernel
theorem dX11_copy_27 : decode cX11_copy 27 = .ok (.ifCond .eq 12, 3) := by decide +kernel
theorem dX11_copy_30 : decode cX11_copy 30 = .ok (.aload_n 0, 1) := by decide +kernel
theorem dX11_copy_31 : decode cX11_copy 31 = .ok (.getfield 23, 3) := by decide +kernel
theorem dX11_copy_34 : decode cX11_copy 34 = .ok (.iload_n 3, 1) := by decide +kernel
theorem dX11_copy_35 : decode cX11_copy 35 = .ok (.iaload, 1) := by decide +kernel
theorem dX11_copy_36 : decode cX11_copy 36 = .ok (.ifCond .ne 10, 3) := by decide +kernel
theorem dX11_copy_39 : decode cX11_copy 39 = .ok (.aload_n 0, 1) := by decide +kernel
theorem dX11_copy_40 : decode cX11_copy 40 = .ok (.ldc 187, 2) := by decide +kernel
theorem dX11_copy_42 : decode cX11_copy 42 = .ok (.invokevirtual 68, 3) := by decide +kernel
theorem dX11_copy_45 : decode cX11_copy 45 = .ok (.ireturn, 1) := by decide +kernel
theorem dX11_copy_46 : decode cX11_copy 46 = .ok (.aload_n 0, 1) := by decide +kernel
theorem dX11_copy_47 : decode cX11_copy 47 = .ok (.getfield 23, 3) := by decide +kernel
theorem dX11_copy_50 : decode cX11_copy 50 = .ok (.iload_n 1, 1) := by decide +kernel
theorem dX11_copy_51 : decode cX11_copy 51 = .ok (.iaload, 1) := by decide +kernel
theorem dX11_copy_52 : decode cX11_copy 52 = .ok (.aload_n 0, 1) := by decide +kernel
theorem dX11_copy_53 : decode cX11_copy 53 = .ok (.getfield 23, 3) := by decide +kernel
theorem dX11_copy_56 : decode cX11_copy 56 = .ok (.iload_n 3, 1) := by decide +kernel
theorem dX11_copy_57 : decode cX11_copy 57 = .ok (.iaload, 1) := by decide +kernel
theorem dX11_copy_58 : decode cX11_copy 58 = .ok (.if_icmp .eq 10, 3) := by decide +kernel
theorem dX11_copy_61 : decode cX11_copy 61 = .ok (.aload_n 0, 1) := by decide +kernel
theorem dX11_copy_62 : decode cX11_copy 62 = .ok (.ldc 88, 2) := by decide +kernel
theorem dX11_copy_64 : decode cX11_copy 64 = .ok (.invokevirtual 68, 3) := by decide +kernel
theorem dX11_copy_67 : decode cX11_copy 67 = .ok (.ireturn, 1) := by decide +kernel
theorem dX11_copy_68 : decode cX11_copy 68 = .ok (.iload_n 2, 1) := by decide +kernel
theorem dX11_copy_69 : decode cX11_copy 69 = .ok (.ifCond .lt 48, 3) := by decide +kernel
theorem dX11_copy_72 : decode cX11_copy 72 = .ok (.iload 4, 2) := by decide +kernel
theorem dX11_copy_74 : decode cX11_copy 74 = .ok (.ifCond .lt 43, 3) := by decide +kernel
theorem dX11_copy_77 : decode cX11_copy 77 = .ok (.iload 5, 2) := by decide +kernel
theorem dX11_copy_79 : decode cX11_copy 79 = .ok (.ifCond .lt 38, 3) := by decide +kernel
theorem dX11_copy_82 : decode cX11_copy 82 = .ok (.iload_n 2, 1) := by decide +kernel
theorem dX11_copy_83 : decode cX11_copy 83 = .ok (.i2l, 1) := by decide +kernel
theorem dX11_copy_84 : decode cX11_copy 84 = .ok (.iload 5, 2) := by decide +kernel
theorem dX11_copy_86 : decode cX11_copy 86 = .ok (.i2l, 1) := by decide +kernel
theorem dX11_copy_87 : decode cX11_copy 87 = .ok (.ladd, 1) := by decide +kernel
theorem dX11_copy_88 : decode cX11_copy 88 = .ok (.aload_n 0, 1) := by decide +kernel
theorem dX11_copy_89 : decode cX11_copy 89 = .ok (.getfield 26, 3) := by decide +kernel
theorem dX11_copy_92 : decode cX11_copy 92 = .ok (.iload_n 1, 1) := by decide +kernel
theorem dX11_copy_93 : decode cX11_copy 93 = .ok (.iaload, 1) := by decide +kernel
theorem dX11_copy_94 : decode cX11_copy 94 = .ok (.i2l, 1) := by decide +kernel
theorem dX11_copy_95 : decode cX11_copy 95 = .ok (.lcmp, 1) := by decide +kernel
theorem dX11_copy_96 : decode cX11_copy 96 = .ok (.ifCond .gt 21, 3) := by decide +kernel
theorem dX11_copy_99 : decode cX11_copy 99 = .ok (.iload 4, 2) := by decide +kernel
theorem dX11_copy_101 : decode cX11_copy 101 = .ok (.i2l, 1) := by decide +kernel
theorem dX11_copy_102 : decode cX11_copy 102 = .ok (.iload 5, 2) := by decide +kernel
theorem dX11_copy_104 : decode cX11_copy 104 = .ok (.i2l, 1) := by decide +kernel
theorem dX11_copy_105 : decode cX11_copy 105 = .ok (.ladd, 1) := by decide +kernel
theorem dX11_copy_106 : decode cX11_copy 106 = .ok (.aload_n 0, 1) := by decide +kernel
theorem dX11_copy_107 : decode cX11_copy 107 = .ok (.getfield 26, 3) := by decide +kernel
theorem dX11_copy_110 : decode cX11_copy 110 = .ok (.iload_n 3, 1) := by decide +kernel
theorem dX11_copy_111 : decode cX11_copy 111 = .ok (.iaload, 1) := by decide +kernel
theorem dX11_copy_112 : decode cX11_copy 112 = .ok (.i2l, 1) := by decide +kernel
theorem dX11_copy_113 : decode cX11_copy 113 = .ok (.lcmp, 1) := by decide +kernel
theorem dX11_copy_114 : decode cX11_copy 114 = .ok (.ifCond .le 10, 3) := by decide +kernel
theorem dX11_copy_117 : decode cX11_copy 117 = .ok (.aload_n 0, 1) := by decide +kernel
theorem dX11_copy_118 : decode cX11_copy 118 = .ok (.ldc 72, 2) := by decide +kernel
theorem dX11_copy_120 : decode cX11_copy 120 = .ok (.invokevirtual 68, 3) := by decide +kernel
theorem dX11_copy_123 : decode cX11_copy 123 = .ok (.ireturn, 1) := by decide +kernel
theorem dX11_copy_124 : decode cX11_copy 124 = .ok (.iconst 0, 1) := by decide +kernel
theorem dX11_copy_125 : decode cX11_copy 125 = .ok (.istore 6, 2) := by decide +kernel
theorem dX11_copy_127 : decode cX11_copy 127 = .ok (.iload 6, 2) := by decide +kernel
theorem dX11_copy_129 : decode cX11_copy 129 = .ok (.iload 5, 2) := by decide +kernel
theorem dX11_copy_131 : decode cX11_copy 131 = .ok (.if_icmp .ge 30, 3) := by decide +kernel
theorem dX11_copy_134 : decode cX11_copy 134 = .ok (.aload_n 0, 1) := by decide +kernel
theorem dX11_copy_135 : decode cX11_copy 135 = .ok (.getfield 53, 3) := by decide +kernel
theorem dX11_copy_138 : decode cX11_copy 138 = .ok (.iload 6, 2) := by decide +kernel
theorem dX11_copy_140 : decode cX11_copy 140 = .ok (.aload_n 0, 1) := by decide +kernel
theorem dX11_copy_141 : decode cX11_copy 141 = .ok (.getfield 29, 3) := by decide +kernel
theorem dX11_copy_144 : decode cX11_copy 144 = .ok (.bipush 30, 2) := by decide +kernel
theorem dX11_copy_146 : decode cX11_copy 146 = .ok (.iload_n 1, 1) := by decide +kernel
theorem dX11_copy_147 : decode cX11_copy 147 = .ok (.imul, 1) := by decide +kernel
theorem dX11_copy_148 : decode cX11_copy 148 = .ok (.iload_n 2, 1) := by decide +kernel
theorem dX11_copy_149 : decode cX11_copy 149 = .ok (.iadd, 1) := by decide +kernel
theorem dX11_copy_150 : decode cX11_copy 150 = .ok (.iload 6, 2) := by decide +kernel
theorem dX11_copy_152 : decode cX11_copy 152 = .ok (.iadd, 1) := by decide +kernel
theorem dX11_copy_153 : decode cX11_copy 153 = .ok (.iaload, 1) := by decide +kernel
theorem dX11_copy_154 : decode cX11_copy 154 = .ok (.iastore, 1) := by decide +kernel
theorem dX11_copy_155 : decode cX11_copy 155 = .ok (.iinc 6 1, 3) := by decide +kernel
theorem dX11_copy_158 : decode cX11_copy 158 = .ok (.goto (-31), 3) := by decide +kernel
theorem dX11_copy_161 : decode cX11_copy 161 = .ok (.iconst 0, 1) := by decide +kernel
theorem dX11_copy_162 : decode cX11_copy 162 = .ok (.istore 6, 2) := by decide +kernel
theorem dX11_copy_164 : decode cX11_copy 164 = .ok (.iload 6, 2) := by decide +kernel
theorem dX11_copy_166 : decode cX11_copy 166 = .ok (.iload 5, 2) := by decide +kernel
theorem dX11_copy_168 : decode cX11_copy 168 = .ok (.if_icmp .ge 31, 3) := by decide +kernel
theorem dX11_copy_171 : decode cX11_copy 171 = .ok (.aload_n 0, 1) := by decide +kernel
theorem dX11_copy_172 : decode cX11_copy 172 = .ok (.getfield 29, 3) := by decide +kernel
theorem dX11_copy_175 : decode cX11_copy 175 = .ok (.bipush 30, 2) := by decide +kernel
theorem dX11_copy_177 : decode cX11_copy 177 = .ok (.iload_n 3, 1) := by decide +kernel
theorem dX11_copy_178 : decode cX11_copy 178 = .ok (.imul, 1) := by decide +kernel
theorem dX11_copy_179 : decode cX11_copy 179 = .ok (.iload 4, 2) := by decide +kernel
theorem dX11_copy_181 : decode cX11_copy 181 = .ok (.iadd, 1) := by decide +kernel
theorem dX11_copy_182 : decode cX11_copy 182 = .ok (.iload 6, 2) := by decide +kernel
theorem dX11_copy_184 : decode cX11_copy 184 = .ok (.iadd, 1) := by decide +kernel
theorem dX11_copy_185 : decode cX11_copy 185 = .ok (.aload_n 0, 1) := by decide +kernel
theorem dX11_copy_186 : decode cX11_copy 186 = .ok (.getfield 53, 3) := by decide +kernel
theorem dX11_copy_189 : decode cX11_copy 189 = .ok (.iload 6, 2) := by decide +kernel
theorem dX11_copy_191 : decode cX11_copy 191 = .ok (.iaload, 1) := by decide +kernel
theorem dX11_copy_192 : decode cX11_copy 192 = .ok (.iastore, 1) := by decide +kernel
theorem dX11_copy_193 : decode cX11_copy 193 = .ok (.iinc 6 1, 3) := by decide +kernel
theorem dX11_copy_196 : decode cX11_copy 196 = .ok (.goto (-32), 3) := by decide +kernel
theorem dX11_copy_199 : decode cX11_copy 199 = .ok (.iload 5, 2) := by decide +kernel
theorem dX11_copy_201 : decode cX11_copy 201 = .ok (.ireturn, 1) := by decide +kernel
theorem dX11_all_0 : decode cX11_all 0 = .ok (.iload_n 1, 1) := by decide +kernel
theorem dX11_all_1 : decode cX11_all 1 = .ok (.iconst 0, 1) := by decide +kernel
theorem dX11_all_2 : decode cX11_all 2 = .ok (.iconst 4, 1) := by decide +kernel
theorem dX11_all_3 : decode cX11_all 3 = .ok (.invokestatic 60, 3) := by decide +kernel
theorem dX11_all_6 : decode cX11_all 6 = .ok (.ifCond .ne 10, 3) := by decide +kernel
theorem dX11_all_9 : decode cX11_all 9 = .ok (.aload_n 0, 1) := by decide +kernel
theorem dX11_all_10 : decode cX11_all 10 = .ok (.ldc 72, 2) := by decide +kernel
theorem dX11_all_12 : decode cX11_all 12 = .ok (.invokevirtual 68, 3) := by decide +kernel
theorem dX11_all_15 : decode cX11_all 15 = .ok (.ireturn, 1) := by decide +kernel
theorem dX11_all_16 : decode cX11_all 16 = .ok (.iload_n 1, 1) := by decide +kernel
theorem dX11_all_17 : decode cX11_all 17 = .ok (.iconst 4, 1) := by decide +kernel
theorem dX11_all_18 : decode cX11_all 18 = .ok (.if_icmp .ge 12, 3) := by decide +kernel
theorem dX11_all_21 : decode cX11_all 21 = .ok (.aload_n 0, 1) := by decide +kernel
theorem dX11_all_22 : decode cX11_all 22 = .ok (.getfield 9, 3) := by decide +kernel
theorem dX11_all_25 : decode cX11_all 25 = .ok (.iload_n 1, 1) := by decide +kernel
theorem dX11_all_26 : decode cX11_all 26 = .ok (.iaload, 1) := by decide +kernel
theorem dX11_all_27 : decode cX11_all 27 = .ok (.goto 7, 3) := by decide +kernel
theorem dX11_all_30 : decode cX11_all 30 = .ok (.aload_n 0, 1) := by decide +kernel
theorem dX11_all_31 : decode cX11_all 31 = .ok (.getfield 56, 3) := by decide +kernel
theorem dX11_all_34 : decode cX11_all 34 = .ok (.ireturn, 1) := by decide +kernel
