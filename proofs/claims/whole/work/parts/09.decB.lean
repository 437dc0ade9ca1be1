theorem dX10_init_0 : decode cX10_init 0 = .ok (.aload_n 0, 1) := by decide +kernel
theorem dX10_init_1 : decode cX10_init 1 = .ok (.invokespecial 1, 3) := by decide +kernel
theorem dX10_init_4 : decode cX10_init 4 = .ok (.aload_n 0, 1) := by decide +kernel
theorem dX10_init_5 : decode cX10_init 5 = .ok (.bipush 12, 2) := by decide +kernel
theorem dX10_init_7 : decode cX10_init 7 = .ok (.anewarray 9, 3) := by decide +kernel
theorem dX10_init_10 : decode cX10_init 10 = .ok (.putfield 11, 3) := by decide +kernel
theorem dX10_init_13 : decode cX10_init 13 = .ok (.aload_n 0, 1) := by decide +kernel
theorem dX10_init_14 : decode cX10_init 14 = .ok (.bipush 20, 2) := by decide +kernel
theorem dX10_init_16 : decode cX10_init 16 = .ok (.anewarray 15, 3) := by decide +kernel
theorem dX10_init_19 : decode cX10_init 19 = .ok (.putfield 17, 3) := by decide +kernel
theorem dX10_init_22 : decode cX10_init 22 = .ok (.aload_n 0, 1) := by decide +kernel
theorem dX10_init_23 : decode cX10_init 23 = .ok (.iconst 4, 1) := by decide +kernel
theorem dX10_init_24 : decode cX10_init 24 = .ok (.anewarray 21, 3) := by decide +kernel
theorem dX10_init_27 : decode cX10_init 27 = .ok (.putfield 23, 3) := by decide +kernel
theorem dX10_init_30 : decode cX10_init 30 = .ok (.aload_n 0, 1) := by decide +kernel
theorem dX10_init_31 : decode cX10_init 31 = .ok (.new 27, 3) := by decide +kernel
theorem dX10_init_34 : decode cX10_init 34 = .ok (.dup, 1) := by decide +kernel
theorem dX10_init_35 : decode cX10_init 35 = .ok (.invokespecial 29, 3) := by decide +kernel
theorem dX10_init_38 : decode cX10_init 38 = .ok (.putfield 30, 3) := by decide +kernel
theorem dX10_init_41 : decode cX10_init 41 = .ok (.aload_n 0, 1) := by decide +kernel
theorem dX10_init_42 : decode cX10_init 42 = .ok (.new 34, 3) := by decide +kernel
theorem dX10_init_45 : decode cX10_init 45 = .ok (.dup, 1) := by decide +kernel
theorem dX10_init_46 : decode cX10_init 46 = .ok (.invokespecial 36, 3) := by decide +kernel
theorem dX10_init_49 : decode cX10_init 49 = .ok (.putfield 37, 3) := by decide +kernel
theorem dX10_init_52 : decode cX10_init 52 = .ok (.aload_n 0, 1) := by decide +kernel
theorem dX10_init_53 : decode cX10_init 53 = .ok (.new 41, 3) := by decide +kernel
theorem dX10_init_56 : decode cX10_init 56 = .ok (.dup, 1) := by decide +kernel
theorem dX10_init_57 : decode cX10_init 57 = .ok (.invokespecial 43, 3) := by decide +kernel
theorem dX10_init_60 : decode cX10_init 60 = .ok (.putfield 44, 3) := by decide +kernel
theorem dX10_init_63 : decode cX10_init 63 = .ok (.aload_n 0, 1) := by decide +kernel
theorem dX10_init_64 : decode cX10_init 64 = .ok (.new 48, 3) := by decide +kernel
theorem dX10_init_67 : decode cX10_init 67 = .ok (.dup, 1) := by decide +kernel
theorem dX10_init_68 : decode cX10_init 68 = .ok (.invokespecial 50, 3) := by decide +kernel
theorem dX10_init_71 : decode cX10_init 71 = .ok (.putfield 51, 3) := by decide +kernel
theorem dX10_init_74 : decode cX10_init 74 = .ok (.aload_n 0, 1) := by decide +kernel
theorem dX10_init_75 : decode cX10_init 75 = .ok (.new 55, 3) := by decide +kernel
theorem dX10_init_78 : decode cX10_init 78 = .ok (.dup, 1) := by decide +kernel
theorem dX10_init_79 : decode cX10_init 79 = .ok (.invokespecial 57, 3) := by decide +kernel
theorem dX10_init_82 : decode cX10_init 82 = .ok (.putfield 58, 3) := by decide +kernel
theorem dX10_init_85 : decode cX10_init 85 = .ok (.aload_n 0, 1) := by decide +kernel
theorem dX10_init_86 : decode cX10_init 86 = .ok (.new 62, 3) := by decide +kernel
theorem dX10_init_89 : decode cX10_init 89 = .ok (.dup, 1) := by decide +kernel
theorem dX10_init_90 : decode cX10_init 90 = .ok (.invokespecial 64, 3) := by decide +kernel
theorem dX10_init_93 : decode cX10_init 93 = .ok (.putfield 65, 3) := by decide +kernel
theorem dX10_init_96 : decode cX10_init 96 = .ok (.aload_n 0, 1) := by decide +kernel
theorem dX10_init_97 : decode cX10_init 97 = .ok (.bipush 24, 2) := by decide +kernel
theorem dX10_init_99 : decode cX10_init 99 = .ok (.newarray .int, 2) := by decide +kernel
theorem dX10_init_101 : decode cX10_init 101 = .ok (.putfield 69, 3) := by decide +kernel
theorem dX10_init_104 : decode cX10_init 104 = .ok (.aload_n 0, 1) := by decide +kernel
theorem dX10_init_105 : decode cX10_init 105 = .ok (.iconst 0, 1) := by decide +kernel
theorem dX10_init_106 : decode cX10_init 106 = .ok (.putfield 73, 3) := by decide +kernel
theorem dX10_init_109 : decode cX10_init 109 = .ok (.aload_n 0, 1) := by decide +kernel
theorem dX10_init_110 : decode cX10_init 110 = .ok (.iconst 0, 1) := by decide +kernel
theorem dX10_init_111 : decode cX10_init 111 = .ok (.putfield 77, 3) := by decide +kernel
theorem dX10_init_114 : decode cX10_init 114 = .ok (.aload_n 0, 1) := by decide +kernel
theorem dX10_init_115 : decode cX10_init 115 = .ok (.iconst 0, 1) := by decide +kernel
theorem dX10_init_116 : decode cX10_init 116 = .ok (.putfield 80, 3) := by decide +kernel
theorem dX10_init_119 : decode cX10_init 119 = .ok (.iconst 0, 1) := by decide +kernel
theorem dX10_init_120 : decode cX10_init 120 = .ok (.istore_n 1, 1) := by decide +kernel
theorem dX10_init_121 : decode cX10_init 121 = .ok (.iload_n 1, 1) := by decide +kernel
theorem dX10_init_122 : decode cX10_init 122 = .ok (.bipush 12, 2) := by decide +kernel
theorem dX10_init_124 : decode cX10_init 124 = .ok (.if_icmp .ge 22, 3) := by decide +kernel
theorem dX10_init_127 : decode cX10_init 127 = .ok (.aload_n 0, 1) := by decide +kernel
theorem dX10_init_128 : decode cX10_init 128 = .ok (.getfield 11, 3) := by decide +kernel
theorem dX10_init_131 : decode cX10_init 131 = .ok (.iload_n 1, 1) := by decide +kernel
theorem dX10_init_132 : decode cX10_init 132 = .ok (.new 9, 3) := by decide +kernel
theorem dX10_init_135 : decode cX10_init 135 = .ok (.dup, 1) := by decide +kernel
theorem dX10_init_136 : decode cX10_init 136 = .ok (.invokespecial 83, 3) := by decide +kernel
theorem dX10_init_139 : decode cX10_init 139 = .ok (.aastore, 1) := by decide +kernel
theorem dX10_init_140 : decode cX10_init 140 = .ok (.iinc 1 1, 3) := by decide +kernel
theorem dX10_init_143 : decode cX10_init 143 = .ok (.goto (-22), 3) := by decide +kernel
theorem dX10_init_146 : decode cX10_init 146 = .ok (.iconst 0, 1) := by decide +kernel
theorem dX10_init_147 : decode cX10_init 147 = .ok (.istore_n 1, 1) := by decide +kernel
theorem dX10_init_148 : decode cX10_init 148 = .ok (.iload_n 1, 1) := by decide +kernel
theorem dX10_init_149 : decode cX10_init 149 = .ok (.bipush 20, 2) := by decide +kernel
theorem dX10_init_151 : decode cX10_init 151 = .ok (.if_icmp .ge 22, 3) := by decide +kernel
theorem dX10_init_154 : decode cX10_init 154 = .ok (.aload_n 0, 1) := by decide +kernel
theorem dX10_init_155 : decode cX10_init 155 = .ok (.getfield 17, 3) := by decide +kernel
theorem dX10_init_158 : decode cX10_init 158 = .ok (.iload_n 1, 1) := by decide +kernel
theorem dX10_init_159 : decode cX10_init 159 = .ok (.new 15, 3) := by decide +kernel
theorem dX10_init_162 : decode cX10_init 162 = .ok (.dup, 1) := by decide +kernel
theorem dX10_init_163 : decode cX10_init 163 = .ok (.invokespecial 84, 3) := by decide +kernel
theorem dX10_init_166 : decode cX10_init 166 = .ok (.aastore, 1) := by decide +kernel
theorem dX10_init_167 : decode cX10_init 167 = .ok (.iinc 1 1, 3) := by decide +kernel
theorem dX10_init_170 : decode cX10_init 170 = .ok (.goto (-22), 3) := by decide +kernel
theorem dX10_init_173 : decode cX10_init 173 = .ok (.iconst 0, 1) := by decide +kernel
theorem dX10_init_174 : decode cX10_init 174 = .ok (.istore_n 1, 1) := by decide +kernel
theorem dX10_init_175 : decode cX10_init 175 = .ok (.iload_n 1, 1) := by decide +kernel
theorem dX10_init_176 : decode cX10_init 176 = .ok (.iconst 4, 1) := by decide +kernel
theorem dX10_init_177 : decode cX10_init 177 = .ok (.if_icmp .ge 22, 3) := by decide +kernel
theorem dX10_init_180 : decode cX10_init 180 = .ok (.aload_n 0, 1) := by decide +kernel
theorem dX10_init_181 : decode cX10_init 181 = .ok (.getfield 23, 3) := by decide +kernel
theorem dX10_init_184 : decode cX10_init 184 = .ok (.iload_n 1, 1) := by decide +kernel
theorem dX10_init_185 : decode cX10_init 185 = .ok (.new 21, 3) := by decide +kernel
theorem dX10_init_188 : decode cX10_init 188 = .ok (.dup, 1) := by decide +kernel
theorem dX10_init_189 : decode cX10_init 189 = .ok (.invokespecial 85, 3) := by decide +kernel
theorem dX10_init_192 : decode cX10_init 192 = .ok (.aastore, 1) := by decide +kernel
theorem dX10_init_193 : decode cX10_init 193 = .ok (.iinc 1 1, 3) := by decide +kernel
theorem dX10_init_196 : decode cX10_init 196 = .ok (.goto (-21), 3) := by decide +kernel
theorem dX10_init_199 : decode cX10_init 199 = .ok (.return_, 1) := by decide +kernel
theorem dX10_line_0 : decode cX10_line 0 = .ok (.iload_n 1, 1) := by decide +kernel
theorem dX10_line_1 : decode cX10_line 1 = .ok (.bipush 6, 2) := by decide +kernel
theorem dX10_line_3 : decode cX10_line 3 = .ok (.invokestatic 86, 3) := by decide +kernel
theorem dX10_line_6 : decode cX10_line 6 = .ok (.ifCond .ne 10, 3) := by decide +kernel
theorem dX10_line_9 : decode cX10_line 9 = .ok (.aload_n 0, 1) := by decide +kernel
theorem dX10_line_10 : decode cX10_line 10 = .ok (.ldc 90, 2) := by decide +kernel
theorem dX10_line_12 : decode cX10_line 12 = .ok (.invokevirtual 91, 3) := by decide +kernel
theorem dX10_line_15 : decode cX10_line 15 = .ok (.ireturn, 1) := by decide +kernel
theorem dX10_line_16 : decode cX10_line 16 = .ok (.aload_n 0, 1) := by decide +kernel
theorem dX10_line_17 : decode cX10_line 17 = .ok (.getfield 73, 3) := by decide +kernel
theorem dX10_line_20 : decode cX10_line 20 = .ok (.bipush 12, 2) := by decide +kernel
theorem dX10_line_22 : decode cX10_line 22 = .ok (.if_icmp .lt 10, 3) := by decide +kernel
theorem dX10_line_25 : decode cX10_line 25 = .ok (.aload_n 0, 1) := by decide +kernel
theorem dX10_line_26 : decode cX10_line 26 = .ok (.ldc 95, 2) := by decide +kernel
theorem dX10_line_28 : decode cX10_line 28 = .ok (.invokevirtual 91, 3) := by decide +kernel
theorem dX10_line_31 : decode cX10_line 31 = .ok (.ireturn, 1) := by decide +kernel
theorem dX10_line_32 : decode cX10_line 32 = .ok (.aload_n 0, 1) := by decide +kernel
theorem dX10_line_33 : decode cX10_line 33 = .ok (.getfield 11, 3) := by decide +kernel
theorem dX10_line_36 : decode cX10_line 36 = .ok (.aload_n 0, 1) := by decide +kernel
theorem dX10_line_37 : decode cX10_line 37 = .ok (.getfield 73, 3) := by decide +kernel
theorem dX10_line_40 : decode cX10_line 40 = .ok (.aaload, 1) := by decide +kernel
theorem dX10_line_41 : decode cX10_line 41 = .ok (.iload_n 1, 1) := by decide +kernel
theorem dX10_line_42 : decode cX10_line 42 = .ok (.invokevirtual 96, 3) := by decide +kernel
theorem dX10_line_45 : decode cX10_line 45 = .ok (.aload_n 0, 1) := by decide +kernel
theorem dX10_line_46 : decode cX10_line 46 = .ok (.dup, 1) := by decide +kernel
theorem dX10_line_47 : decode cX10_line 47 = .ok (.getfield 73, 3) := by decide +kernel
theorem dX10_line_50 : decode cX10_line 50 = .ok (.iconst 1, 1) := by decide +kernel
theorem dX10_line_51 : decode cX10_line 51 = .ok (.iadd, 1) := by decide +kernel
theorem dX10_line_52 : decode cX10_line 52 = .ok (.putfield 73, 3) := by decide +kernel
theorem dX10_line_55 : decode cX10_line 55 = .ok (.aload_n 0, 1) := by decide +kernel
theorem dX10_line_56 : decode cX10_line 56 = .ok (.iconst 0, 1) := by decide +kernel
theorem dX10_line_57 : decode cX10_line 57 = .ok (.iconst 0, 1) := by decide +kernel
theorem dX10_line_58 : decode cX10_line 58 = .ok (.iconst 0, 1) := by decide +kernel
theorem dX10_line_59 : decode cX10_line 59 = .ok (.invokevirtual 100, 3) := by decide +kernel
theorem dX10_line_62 : decode cX10_line 62 = .ok (.pop, 1) := by decide +kernel
theorem dX10_line_63 : decode cX10_line 63 = .ok (.aload_n 0, 1) := by decide +kernel
theorem dX10_line_64 : decode cX10_line 64 = .ok (.getfield 73, 3) := by decide +kernel
theorem dX10_line_67 : decode cX10_line 67 = .ok (.iconst 1, 1) := by decide +kernel
theorem dX10_line_68 : decode cX10_line 68 = .ok (.isub, 1) := by decide +kernel
theorem dX10_line_69 : decode cX10_line 69 = .ok (.ireturn, 1) := by decide +kernel
theorem dX10_frame_0 : decode cX10_frame 0 = .ok (.aload_n 0, 1) := by decide +kernel
theorem dX10_frame_1 : decode cX10_frame 1 = .ok (.iload_n 1, 1) := by decide +kernel
theorem dX10_frame_2 : decode cX10_frame 2 = .ok (.invokevirtual 104, 3) := by decide +kernel
theorem dX10_frame_5 : decode cX10_frame 5 = .ok (.ifCond .eq 11, 3) := by decide +kernel
theorem dX10_frame_8 : decode cX10_frame 8 = .ok (.iload_n 2, 1) := by decide +kernel
theorem dX10_frame_9 : decode cX10_frame 9 = .ok (.iconst 4, 1) := by decide +kernel
theorem dX10_frame_10 : decode cX10_frame 10 = .ok (.invokestatic 86, 3) := by decide +kernel
theorem dX10_frame_13 : decode cX10_frame 13 = .ok (.ifCond .ne 10, 3) := by decide +kernel
theorem dX10_frame_16 : decode cX10_frame 16 = .ok (.aload_n 0, 1) := by decide +kernel
theorem dX10_frame_17 : decode cX10_frame 17 = .ok (.ldc 90, 2) := by decide +kernel
theorem dX10_frame_19 : decode cX10_frame 19 = .ok (.invokevirtual 91, 3) := by decide +kernel
theorem dX10_frame_22 : decode cX10_frame 22 = .ok (.ireturn, 1) := by decide +kernel
theorem dX10_frame_23 : decode cX10_frame 23 = .ok (.aload_n 0, 1) := by decide +kernel
theorem dX10_frame_24 : decode cX10_frame 24 = .ok (.getfield 11, 3) := by decide +kernel
theorem dX10_frame_27 : decode cX10_frame 27 = .ok (.iload_n 1, 1) := by decide +kernel
theorem dX10_frame_28 : decode cX10_frame 28 = .ok (.aaload, 1) := by decide +kernel
theorem dX10_frame_29 : decode cX10_frame 29 = .ok (.astore_n 3, 1) := by decide +kernel
theorem dX10_frame_30 : decode cX10_frame 30 = .ok (.aload_n 3, 1) := by decide +kernel
theorem dX10_frame_31 : decode cX10_frame 31 = .ok (.getfield 108, 3) := by decide +kernel
theorem dX10_frame_34 : decode cX10_frame 34 = .ok (.bipush 24, 2) := by decide +kernel
theorem dX10_frame_36 : decode cX10_frame 36 = .ok (.if_icmp .lt 10, 3) := by decide +kernel
theorem dX10_frame_39 : decode cX10_frame 39 = .ok (.aload_n 0, 1) := by decide +kernel
theorem dX10_frame_40 : decode cX10_frame 40 = .ok (.ldc 95, 2) := by decide +kernel
theorem dX10_frame_42 : decode cX10_frame 42 = .ok (.invokevirtual 91, 3) := by decide +kernel
theorem dX10_frame_45 : decode cX10_frame 45 = .ok (.ireturn, 1) := by decide +kernel
theorem dX10_frame_46 : decode cX10_frame 46 = .ok (.aload_n 3, 1) := by decide +kernel
theorem dX10_frame_47 : decode cX10_frame 47 = .ok (.getfield 111, 3) := by decide +kernel
theorem dX10_frame_50 : decode cX10_frame 50 = .ok (.aload_n 3, 1) := by decide +kernel
theorem dX10_frame_51 : decode cX10_frame 51 = .ok (.getfield 108, 3) := by decide +kernel
theorem dX10_frame_54 : decode cX10_frame 54 = .ok (.iload_n 2, 1) := by decide +kernel
theorem dX10_frame_55 : decode cX10_frame 55 = .ok (.iastore, 1) := by decide +kernel
theorem dX10_frame_56 : decode cX10_frame 56 = .ok (.aload_n 3, 1) := by decide +kernel
theorem dX10_frame_57 : decode cX10_frame 57 = .ok (.dup, 1) := by decide +kernel
theorem dX10_frame_58 : decode cX10_frame 58 = .ok (.getfield 108, 3) := by decide +kernel
theorem dX10_frame_61 : decode cX10_frame 61 = .ok (.iconst 1, 1) := by decide +kernel
theorem dX10_frame_62 : decode cX10_frame 62 = .ok (.iadd, 1) := by decide +kernel
theorem dX10_frame_63 : decode cX10_frame 63 = .ok (.putfield 108, 3) := by decide +kernel
theorem dX10_frame_66 : decode cX10_frame 66 = .ok (.aload_n 0, 1) := by decide +kernel
theorem dX10_frame_67 : decode cX10_frame 67 = .ok (.iconst 1, 1) := by decide +kernel
theorem dX10_frame_68 : decode cX10_frame 68 = .ok (.iload_n 1, 1) := by decide +kernel
theorem dX10_frame_69 : decode cX10_frame 69 = .ok (.iconst 0, 1) := by decide +kernel
theorem dX10_frame_70 : decode cX10_frame 70 = .ok (.invokevirtual 100, 3) := by decide +kernel
theorem dX10_frame_73 : decode cX10_frame 73 = .ok (.pop, 1) := by decide +kernel
theorem dX10_frame_74 : decode cX10_frame 74 = .ok (.aload_n 3, 1) := by decide +kernel
theorem dX10_frame_75 : decode cX10_frame 75 = .ok (.getfield 108, 3) := by decide +kernel
theorem dX10_frame_78 : decode cX10_frame 78 = .ok (.ireturn, 1) := by decide +kernel
theorem dX10_wording_0 : decode cX10_wording 0 = .ok (.aload_n 0, 1) := by decide +kernel
theorem dX10_wording_1 : decode cX10_wording 1 = .ok (.iload_n 1, 1) := by decide +kernel
theorem dX10_wording_2 : decode cX10_wording 2 = .ok (.invokevirtual 104, 3) := by decide +kernel
theorem dX10_wording_5 : decode cX10_wording 5 = .ok (.ifCond .eq 20, 3) := by decide +kernel
theorem dX10_wording_8 : decode cX10_wording 8 = .ok (.iload_n 2, 1) := by decide +kernel
theorem dX10_wording_9 : decode cX10_wording 9 = .ok (.iconst 4, 1) := by decide +kernel
theorem dX10_wording_10 : decode cX10_wording 10 = .ok (.invokestatic 86, 3) := by decide +kernel
theorem dX10_wording_13 : decode cX10_wording 13 = .ok (.ifCond .eq 12, 3) := by decide +kernel
theorem dX10_wording_16 : decode cX10_wording 16 = .ok (.iload_n 3, 1) := by decide +kernel
theorem dX10_wording_17 : decode cX10_wording 17 = .ok (.bipush 101, 2) := by decide +kernel
theorem dX10_wording_19 : decode cX10_wording 19 = .ok (.invokestatic 86, 3) := by decide +kernel
theorem dX10_wording_22 : decode cX10_wording 22 = .ok (.ifCond .ne 10, 3) := by decide +kernel
theorem dX10_wording_25 : decode cX10_wording 25 = .ok (.aload_n 0, 1) := by decide +kernel
theorem dX10_wording_26 : decode cX10_wording 26 = .ok (.ldc 90, 2) := by decide +kernel
theorem dX10_wording_28 : decode cX10_wording 28 = .ok (.invokevirtual 91, 3) := by decide +kernel
theorem dX10_wording_31 : decode cX10_wording 31 = .ok (.ireturn, 1) := by decide +kernel
theorem dX10_wording_32 : decode cX10_wording 32 = .ok (.aload_n 0, 1) := by decide +kernel
theorem dX10_wording_33 : decode cX10_wording 33 = .ok (.getfield 77, 3) := by decide +kernel
theorem dX10_wording_36 : decode cX10_wording 36 = .ok (.bipush 20, 2) := by decide +kernel
theorem dX10_wording_38 : decode cX10_wording 38 = .ok (.if_icmp .lt 10, 3) := by decide +kernel
theorem dX10_wording_41 : decode cX10_wording 41 = .ok (.aload_n 0, 1) := by decide +kernel
theorem dX10_wording_42 : decode cX10_wording 42 = .ok (.ldc 95, 2) := by decide +kernel
theorem dX10_wording_44 : decode cX10_wording 44 = .ok (.invokevirtual 91, 3) := by decide +kernel
theorem dX10_wording_47 : decode cX10_wording 47 = .ok (.ireturn, 1) := by decide +kernel
theorem dX10_wording_48 : decode cX10_wording 48 = .ok (.aload_n 0, 1) := by decide +kernel
theorem dX10_wording_49 : decode cX10_wording 49 = .ok (.getfield 17, 3) := by decide +kernel
theorem dX10_wording_52 : decode cX10_wording 52 = .ok (.aload_n 0, 1) := by decide +kernel
theorem dX10_wording_53 : decode cX10_wording 53 = .ok (.getfield 77, 3) := by decide +kernel
theorem dX10_wording_56 : decode cX10_wording 56 = .ok (.aaload, 1) := by decide +kernel
theorem dX10_wording_57 : decode cX10_wording 57 = .ok (.iload_n 1, 1) := by decide +kernel
theorem dX10_wording_58 : decode cX10_wording 58 = .ok (.iload_n 2, 1) := by decide +kernel
theorem dX10_wording_59 : decode cX10_wording 59 = .ok (.iload_n 3, 1) := by decide +kernel
theorem dX10_wording_60 : decode cX10_wording 60 = .ok (.invokevirtual 114, 3) := by decide +kernel
theorem dX10_wording_63 : decode cX10_wording 63 = .ok (.aload_n 0, 1) := by decide +kernel
theorem dX10_wording_64 : decode cX10_wording 64 = .ok (.dup, 1) := by decide +kernel
theorem dX10_wording_65 : decode cX10_wording 65 = .ok (.getfield 77, 3) := by decide +kernel
theorem dX10_wording_68 : decode cX10_wording 68 = .ok (.iconst 1, 1) := by decide +kernel
theorem dX10_wording_69 : decode cX10_wording 69 = .ok (.iadd, 1) := by decide +kernel
theorem dX10_wording_70 : decode cX10_wording 70 = .ok (.putfield 77, 3) := by decide +kernel
theorem dX10_wording_73 : decode cX10_wording 73 = .ok (.aload_n 0, 1) := by decide +kernel
theorem dX10_wording_74 : decode cX10_wording 74 = .ok (.iconst 2, 1) := by decide +kernel
theorem dX10_wording_75 : decode cX10_wording 75 = .ok (.iconst 0, 1) := by decide +kernel
theorem dX10_wording_76 : decode cX10_wording 76 = .ok (.iconst 0, 1) := by decide +kernel
theorem dX10_wording_77 : decode cX10_wording 77 = .ok (.invokevirtual 100, 3) := by decide +kernel
theorem dX10_wording_80 : decode cX10_wording 80 = .ok (.pop, 1) := by decide +kernel
theorem dX10_wording_81 : decode cX10_wording 81 = .ok (.aload_n 0, 1) := by decide +kernel
theorem dX10_wording_82 : decode cX10_wording 82 = .ok (.getfield 77, 3) := by decide +kernel
theorem dX10_wording_85 : decode cX10_wording 85 = .ok (.iconst 1, 1) := by decide +kernel
theorem dX10_wording_86 : decode cX10_wording 86 = .ok (.isub, 1) := by decide +kernel
theorem dX10_wording_87 : decode cX10_wording 87 = .ok (.ireturn, 1) := by decide +kernel
theorem dX10_as_0 : decode cX10_as 0 = .ok (.aload_n 0, 1) := by decide +kernel
theorem dX10_as_1 : decode cX10_as 1 = .ok (.iload_n 1, 1) := by decide +kernel
theorem dX10_as_2 : decode cX10_as 2 = .ok (.invokevirtual 117, 3) := by decide +kernel
theorem dX10_as_5 : decode cX10_as 5 = .ok (.ifCond .eq 11, 3) := by decide +kernel
theorem dX10_as_8 : decode cX10_as 8 = .ok (.iload_n 2, 1) := by decide +kernel
theorem dX10_as_9 : decode cX10_as 9 = .ok (.iconst 4, 1) := by decide +kernel
theorem dX10_as_10 : decode cX10_as 10 = .ok (.invokestatic 86, 3) := by decide +kernel
theorem dX10_as_13 : decode cX10_as 13 = .ok (.ifCond .ne 10, 3) := by decide +kernel
theorem dX10_as_16 : decode cX10_as 16 = .ok (.aload_n 0, 1) := by decide +kernel
theorem dX10_as_17 : decode cX10_as 17 = .ok (.ldc 90, 2) := by decide +kernel
theorem dX10_as_19 : decode cX10_as 19 = .ok (.invokevirtual 91, 3) := by decide +kernel
theorem dX10_as_22 : decode cX10_as 22 = .ok (.ireturn, 1) := by decide +kernel
theorem dX10_as_23 : decode cX10_as 23 = .ok (.aload_n 0, 1) := by decide +kernel
theorem dX10_as_24 : decode cX10_as 24 = .ok (.getfield 17, 3) := by decide +kernel
theorem dX10_as_27 : decode cX10_as 27 = .ok (.iload_n 1, 1) := by decide +kernel
theorem dX10_as_28 : decode cX10_as 28 = .ok (.aaload, 1) := by decide +kernel
theorem dX10_as_29 : decode cX10_as 29 = .ok (.iload_n 2, 1) := by decide +kernel
theorem dX10_as_30 : decode cX10_as 30 = .ok (.invokevirtual 120, 3) := by decide +kernel
theorem dX10_as_33 : decode cX10_as 33 = .ok (.ifCond .ne 10, 3) := by decide +kernel
theorem dX10_as_36 : decode cX10_as 36 = .ok (.aload_n 0, 1) := by decide +kernel
theorem dX10_as_37 : decode cX10_as 37 = .ok (.ldc 123, 2) := by decide +kernel
theorem dX10_as_39 : decode cX10_as 39 = .ok (.invokevirtual 91, 3) := by decide +kernel
theorem dX10_as_42 : decode cX10_as 42 = .ok (.ireturn, 1) := by decide +kernel
theorem dX10_as_43 : decode cX10_as 43 = .ok (.iload_n 1, 1) := by decide +kernel
theorem dX10_as_44 : decode cX10_as 44 = .ok (.ireturn, 1) := by decide +kernel
theorem dX10_syllable_0 : decode cX10_syllable 0 = .ok (.aload_n 0, 1) := by decide +kernel
theorem dX10_syllable_1 : decode cX10_syllable 1 = .ok (.iload_n 1, 1) := by decide +kernel
theorem dX10_syllable_2 : decode cX10_syllable 2 = .ok (.invokevirtual 117, 3) := by decide +kernel
theorem dX10_syllable_5 : decode cX10_syllable 5 = .ok (.ifCond .eq 36, 3) := by decide +kernel
theorem dX10_syllable_8 : decode cX10_syllable 8 = .ok (.iload_n 2, 1) := by decide +kernel
theorem dX10_syllable_9 : decode cX10_syllable 9 = .ok (.iconst 4, 1) := by decide +kernel
theorem dX10_syllable_10 : decode cX10_syllable 10 = .ok (.invokestatic 86, 3) := by decide +kernel
theorem dX10_syllable_13 : decode cX10_syllable 13 = .ok (.ifCond .eq 28, 3) := by decide +kernel
theorem dX10_syllable_16 : decode cX10_syllable 16 = .ok (.iload_n 3, 1) := by decide +kernel
theorem dX10_syllable_17 : decode cX10_syllable 17 = .ok (.invokestatic 124, 3) := by decide +kernel
theorem dX10_syllable_20 : decode cX10_syllable 20 = .ok (.ifCond .eq 21, 3) := by decide +kernel
theorem dX10_syllable_23 : decode cX10_syllable 23 = .ok (.iload 4, 2) := by decide +kernel
theorem dX10_syllable_25 : decode cX10_syllable 25 = .ok (.invokestatic 124, 3) := by decide +kernel
theorem dX10_syllable_28 : decode cX10_syllable 28 = .ok (.ifCond .eq 13, 3) := by decide +kernel
theorem dX10_syllable_31 : decode cX10_syllable 31 = .ok (.iload 5, 2) := by decide +kernel
theorem dX10_syllable_33 : decode cX10_syllable 33 = .ok (.bipush 32, 2) := by decide +kernel
theorem dX10_syllable_35 : decode cX10_syllable 35 = .ok (.invokestatic 86, 3) := by decide +kernel
theorem dX10_syllable_38 : decode cX10_syllable 38 = .ok (.ifCond .ne 10, 3) := by decide +kernel
theorem dX10_syllable_41 : decode cX10_syllable 41 = .ok (.aload_n 0, 1) := by decide +kernel
theorem dX10_syllable_42 : decode cX10_syllable 42 = .ok (.ldc 90, 2) := by decide +kernel
theorem dX10_syllable_44 : decode cX10_syllable 44 = .ok (.invokevirtual 91, 3) := by decide +kernel
theorem dX10_syllable_47 : decode cX10_syllable 47 = .ok (.ireturn, 1) := by decide +kernel
theorem dX10_syllable_48 : decode cX10_syllable 48 = .ok (.iload_n 3, 1) := by decide +kernel
theorem dX10_syllable_49 : decode cX10_syllable 49 = .ok (.iload 4, 2) := by decide +kernel
theorem dX10_syllable_51 : decode cX10_syllable 51 = .ok (.if_icmp .le 10, 3) := by decide +kernel
theorem dX10_syllable_54 : decode cX10_syllable 54 = .ok (.aload_n 0, 1) := by decide +kernel
theorem dX10_syllable_55 : decode cX10_syllable 55 = .ok (.ldc 127, 2) := by decide +kernel
theorem dX10_syllable_57 : decode cX10_syllable 57 = .ok (.invokevirtual 91, 3) := by decide +kernel
theorem dX10_syllable_60 : decode cX10_syllable 60 = .ok (.ireturn, 1) := by decide +kernel
theorem dX10_syllable_61 : decode cX10_syllable 61 = .ok (.aload_n 0, 1) := by decide +kernel
theorem dX10_syllable_62 : decode cX10_syllable 62 = .ok (.getfield 17, 3) := by decide +kernel
theorem dX10_syllable_65 : decode cX10_syllable 65 = .ok (.iload_n 1, 1) := by decide +kernel
theorem dX10_syllable_66 : decode cX10_syllable 66 = .ok (.aaload, 1) := by decide +kernel
theorem dX10_syllable_67 : decode cX10_syllable 67 = .ok (.astore 6, 2) := by decide +kernel
theorem dX10_syllable_69 : decode cX10_syllable 69 = .ok (.aload 6, 2) := by decide +kernel
theorem dX10_syllable_71 : decode cX10_syllable 71 = .ok (.getfield 128, 3) := by decide +kernel
theorem dX10_syllable_74 : decode cX10_syllable 74 = .ok (.bipush 8, 2) := by decide +kernel
theorem dX10_syllable_76 : decode cX10_syllable 76 = .ok (.if_icmp .lt 10, 3) := by decide +kernel
theorem dX10_syllable_79 : decode cX10_syllable 79 = .ok (.aload_n 0, 1) := by decide +kernel
theorem dX10_syllable_80 : decode cX10_syllable 80 = .ok (.ldc 95, 2) := by decide +kernel
theorem dX10_syllable_82 : decode cX10_syllable 82 = .ok (.invokevirtual 91, 3) := by decide +kernel
theorem dX10_syllable_85 : decode cX10_syllable 85 = .ok (.ireturn, 1) := by decide +kernel
theorem dX10_syllable_86 : decode cX10_syllable 86 = .ok (.aload 6, 2) := by decide +kernel
theorem dX10_syllable_88 : decode cX10_syllable 88 = .ok (.iload_n 2, 1) := by decide +kernel
theorem dX10_syllable_89 : decode cX10_syllable 89 = .ok (.iload_n 3, 1) := by decide +kernel
theorem dX10_syllable_90 : decode cX10_syllable 90 = .ok (.iload 4, 2) := by decide +kernel
theorem dX10_syllable_92 : decode cX10_syllable 92 = .ok (.iload 5, 2) := by decide +kernel
theorem dX10_syllable_94 : decode cX10_syllable 94 = .ok (.invokevirtual 131, 3) := by decide +kernel
theorem dX10_syllable_97 : decode cX10_syllable 97 = .ok (.aload_n 0, 1) := by decide +kernel
theorem dX10_syllable_98 : decode cX10_syllable 98 = .ok (.iconst 3, 1) := by decide +kernel
theorem dX10_syllable_99 : decode cX10_syllable 99 = .ok (.iload_n 1, 1) := by decide +kernel
theorem dX10_syllable_100 : decode cX10_syllable 100 = .ok (.iconst 0, 1) := by decide +kernel
theorem dX10_syllable_101 : decode cX10_syllable 101 = .ok (.invokevirtual 100, 3) := by decide +kernel
theorem dX10_syllable_104 : decode cX10_syllable 104 = .ok (.pop, 1) := by decide +kernel
theorem dX10_syllable_105 : decode cX10_syllable 105 = .ok (.aload 6, 2) := by decide +kernel
theorem dX10_syllable_107 : decode cX10_syllable 107 = .ok (.getfield 128, 3) := by decide +kernel
theorem dX10_syllable_110 : decode cX10_syllable 110 = .ok (.ireturn, 1) := by decide +kernel
theorem dX10_cut_0 : decode cX10_cut 0 = .ok (.aload_n 0, 1) := by decide +kernel
theorem dX10_cut_1 : decode cX10_cut 1 = .ok (.iload_n 1, 1) := by decide +kernel
theorem dX10_cut_2 : decode cX10_cut 2 = .ok (.invokevirtual 117, 3) := by decide +kernel
theorem dX10_cut_5 : decode cX10_cut 5 = .ok (.ifCond .ne 10, 3) := by decide +kernel
theorem dX10_cut_8 : decode cX10_cut 8 = .ok (.aload_n 0, 1) := by decide +kernel
theorem dX10_cut_9 : decode cX10_cut 9 = .ok (.ldc 90, 2) := by decide +kernel
theorem dX10_cut_11 : decode cX10_cut 11 = .ok (.invokevirtual 91, 3) := by decide +kernel
theorem dX10_cut_14 : decode cX10_cut 14 = .ok (.ireturn, 1) := by decide +kernel
theorem dX10_cut_15 : decode cX10_cut 15 = .ok (.aload_n 0, 1) := by decide +kernel
theorem dX10_cut_16 : decode cX10_cut 16 = .ok (.getfield 17, 3) := by decide +kernel
theorem dX10_cut_19 : decode cX10_cut 19 = .ok (.iload_n 1, 1) := by decide +kernel
theorem dX10_cut_20 : decode cX10_cut 20 = .ok (.aaload, 1) := by decide +kernel
theorem dX10_cut_21 : decode cX10_cut 21 = .ok (.astore_n 2, 1) := by decide +kernel
theorem dX10_cut_22 : decode cX10_cut 22 = .ok (.aload_n 2, 1) := by decide +kernel
theorem dX10_cut_23 : decode cX10_cut 23 = .ok (.getfield 128, 3) := by decide +kernel
theorem dX10_cut_26 : decode cX10_cut 26 = .ok (.ifCond .gt 10, 3) := by decide +kernel
theorem dX10_cut_29 : decode cX10_cut 29 = .ok (.aload_n 0, 1) := by decide +kernel
theorem dX10_cut_30 : decode cX10_cut 30 = .ok (.ldc 135, 2) := by decide +kernel
theorem dX10_cut_32 : decode cX10_cut 32 = .ok (.invokevirtual 91, 3) := by decide +kernel
theorem dX10_cut_35 : decode cX10_cut 35 = .ok (.ireturn, 1) := by decide +kernel
theorem dX10_cut_36 : decode cX10_cut 36 = .ok (.aload_n 2, 1) := by decide +kernel
theorem dX10_cut_37 : decode cX10_cut 37 = .ok (.dup, 1) := by decide +kernel
theorem dX10_cut_38 : decode cX10_cut 38 = .ok (.getfield 128, 3) := by decide +kernel
theorem dX10_cut_41 : decode cX10_cut 41 = .ok (.iconst 1, 1) := by decide +kernel
theorem dX10_cut_42 : decode cX10_cut 42 = .ok (.isub, 1) := by decide +kernel
theorem dX10_cut_43 : decode cX10_cut 43 = .ok (.putfield 128, 3) := by decide +kernel
theorem dX10_cut_46 : decode cX10_cut 46 = .ok (.aload_n 0, 1) := by decide +kernel
theorem dX10_cut_47 : decode cX10_cut 47 = .ok (.iconst 4, 1) := by decide +kernel
theorem dX10_cut_48 : decode cX10_cut 48 = .ok (.iload_n 1, 1) := by decide +kernel
theorem dX10_cut_49 : decode cX10_cut 49 = .ok (.iconst 0, 1) := by decide +kernel
theorem dX10_cut_50 : decode cX10_cut 50 = .ok (.invokevirtual 100, 3) := by decide +kernel
theorem dX10_cut_53 : decode cX10_cut 53 = .ok (.aload_n 2, 1) := by decide +kernel
theorem dX10_cut_54 : decode cX10_cut 54 = .ok (.invokevirtual 136, 3) := by decide +kernel
theorem dX10_cut_57 : decode cX10_cut 57 = .ok (.aload_n 2, 1) := by decide +kernel
theorem dX10_cut_58 : decode cX10_cut 58 = .ok (.getfield 128, 3) := by decide +kernel
theorem dX10_cut_61 : decode cX10_cut 61 = .ok (.ireturn, 1) := by decide +kernel
theorem dX10_of_0 : decode cX10_of 0 = .ok (.aload_n 0, 1) := by decide +kernel
theorem dX10_of_1 : decode cX10_of 1 = .ok (.iload_n 1, 1) := by decide +kernel
theorem dX10_of_2 : decode cX10_of 2 = .ok (.invokevirtual 117, 3) := by decide +kernel
theorem dX10_of_5 : decode cX10_of 5 = .ok (.ifCond .ne 10, 3) := by decide +kernel
theorem dX10_of_8 : decode cX10_of 8 = .ok (.aload_n 0, 1) := by decide +kernel
theorem dX10_of_9 : decode cX10_of 9 = .ok (.ldc 90, 2) := by decide +kernel
theorem dX10_of_11 : decode cX10_of 11 = .ok (.invokevirtual 91, 3) := by decide +kernel
theorem dX10_of_14 : decode cX10_of 14 = .ok (.ireturn, 1) := by decide +kernel
theorem dX10_of_15 : decode cX10_of 15 = .ok (.aload_n 0, 1) := by decide +kernel
theorem dX10_of_16 : decode cX10_of 16 = .ok (.getfield 17, 3) := by decide +kernel
theorem dX10_of_19 : decode cX10_of 19 = .ok (.iload_n 1, 1) := by decide +kernel
theorem dX10_of_20 : decode cX10_of 20 = .ok (.aaload, 1) := by decide +kernel
theorem dX10_of_21 : decode cX10_of 21 = .ok (.astore_n 3, 1) := by decide +kernel
theorem dX10_of_22 : decode cX10_of 22 = .ok (.iload_n 2, 1) := by decide +kernel
theorem dX10_of_23 : decode cX10_of 23 = .ok (.tableswitch 49 0 3 #[29, 34, 39, 44], 29) := by decide +kernel
theorem dX10_of_52 : decode cX10_of 52 = .ok (.aload_n 3, 1) := by decide +kernel
theorem dX10_of_53 : decode cX10_of 53 = .ok (.getfield 142, 3) := by decide +kernel
theorem dX10_of_56 : decode cX10_of 56 = .ok (.ireturn, 1) := by decide +kernel
theorem dX10_of_57 : decode cX10_of 57 = .ok (.aload_n 3, 1) := by decide +kernel
theorem dX10_of_58 : decode cX10_of 58 = .ok (.getfield 145, 3) := by decide +kernel
theorem dX10_of_61 : decode cX10_of 61 = .ok (.ireturn, 1) := by decide +kernel
theorem dX10_of_62 : decode cX10_of 62 = .ok (.aload_n 3, 1) := by decide +kernel
theorem dX10_of_63 : decode cX10_of 63 = .ok (.getfield 148, 3) := by decide +kernel
theorem dX10_of_66 : decode cX10_of 66 = .ok (.ireturn, 1) := by decide +kernel
theorem dX10_of_67 : decode cX10_of 67 = .ok (.aload_n 3, 1) := by decide +kernel
theorem dX10_of_68 : decode cX10_of 68 = .ok (.getfield 128, 3) := by decide +kernel
theorem dX10_of_71 : decode cX10_of 71 = .ok (.ireturn, 1) := by decide +kernel
theorem dX10_of_72 : decode cX10_of 72 = .ok (.aload_n 0, 1) := by decide +kernel
theorem dX10_of_73 : decode cX10_of 73 = .ok (.ldc 90, 2) := by decide +kernel
theorem dX10_of_75 : decode cX10_of 75 = .ok (.invokevirtual 91, 3) := by decide +kernel
theorem dX10_of_78 : decode cX10_of 78 = .ok (.ireturn, 1) := by decide +kernel
theorem dX10_told_0 : decode cX10_told 0 = .ok (.aload_n 0, 1) := by decide +kernel
theorem dX10_told_1 : decode cX10_told 1 = .ok (.iload_n 1, 1) := by decide +kernel
theorem dX10_told_2 : decode cX10_told 2 = .ok (.invokevirtual 104, 3) := by decide +kernel
theorem dX10_told_5 : decode cX10_told 5 = .ok (.ifCond .ne 10, 3) := by decide +kernel
theorem dX10_told_8 : decode cX10_told 8 = .ok (.aload_n 0, 1) := by decide +kernel
theorem dX10_told_9 : decode cX10_told 9 = .ok (.ldc 90, 2) := by decide +kernel
theorem dX10_told_11 : decode cX10_told 11 = .ok (.invokevirtual 91, 3) := by decide +kernel
theorem dX10_told_14 : decode cX10_told 14 = .ok (.ireturn, 1) := by decide +kernel
theorem dX10_told_15 : decode cX10_told 15 = .ok (.iload_n 2, 1) := by decide +kernel
theorem dX10_told_16 : decode cX10_told 16 = .ok (.tableswitch 54 0 2 #[28, 38, 48], 28) := by decide +kernel
theorem dX10_told_44 : decode cX10_told 44 = .ok (.aload_n 0, 1) := by decide +kernel
theorem dX10_told_45 : decode cX10_told 45 = .ok (.getfield 11, 3) := by decide +kernel
theorem dX10_told_48 : decode cX10_told 48 = .ok (.iload_n 1, 1) := by decide +kernel
theorem dX10_told_49 : decode cX10_told 49 = .ok (.aaload, 1) := by decide +kernel
theorem dX10_told_50 : decode cX10_told 50 = .ok (.getfield 151, 3) := by decide +kernel
theorem dX10_told_53 : decode cX10_told 53 = .ok (.ireturn, 1) := by decide +kernel
theorem dX10_told_54 : decode cX10_told 54 = .ok (.aload_n 0, 1) := by decide +kernel
theorem dX10_told_55 : decode cX10_told 55 = .ok (.getfield 11, 3) := by decide +kernel
theorem dX10_told_58 : decode cX10_told 58 = .ok (.iload_n 1, 1) := by decide +kernel
theorem dX10_told_59 : decode cX10_told 59 = .ok (.aaload, 1) := by decide +kernel
theorem dX10_told_60 : decode cX10_told 60 = .ok (.getfield 108, 3) := by decide +kernel
theorem dX10_told_63 : decode cX10_told 63 = .ok (.ireturn, 1) := by decide +kernel
theorem dX10_told_64 : decode cX10_told 64 = .ok (.aload_n 0, 1) := by decide +kernel
theorem dX10_told_65 : decode cX10_told 65 = .ok (.iload_n 1, 1) := by decide +kernel
theorem dX10_told_66 : decode cX10_told 66 = .ok (.invokevirtual 154, 3) := by decide +kernel
theorem dX10_told_69 : decode cX10_told 69 = .ok (.ireturn, 1) := by decide +kernel
theorem dX10_told_70 : decode cX10_told 70 = .ok (.aload_n 0, 1) := by decide +kernel
theorem dX10_told_71 : decode cX10_told 71 = .ok (.ldc 90, 2) := by decide +kernel
theorem dX10_told_73 : decode cX10_told 73 = .ok (.invokevirtual 91, 3) := by decide +kernel
theorem dX10_told_76 : decode cX10_told 76 = .ok (.ireturn, 1) := by decide +kernel
theorem dX10_shape_0 : decode cX10_shape 0 = .ok (.aload_n 0, 1) := by decide +kernel
theorem dX10_shape_1 : decode cX10_shape 1 = .ok (.iload_n 1, 1) := by decide +kernel
theorem dX10_shape_2 : decode cX10_shape 2 = .ok (.invokevirtual 104, 3) := by decide +kernel
theorem dX10_shape_5 : decode cX10_shape 5 = .ok (.ifCond .eq 19, 3) := by decide +kernel
theorem dX10_shape_8 : decode cX10_shape 8 = .ok (.iload_n 2, 1) := by decide +kernel
theorem dX10_shape_9 : decode cX10_shape 9 = .ok (.aload_n 0, 1) := by decide +kernel
theorem dX10_shape_10 : decode cX10_shape 10 = .ok (.getfield 11, 3) := by decide +kernel
theorem dX10_shape_13 : decode cX10_shape 13 = .ok (.iload_n 1, 1) := by decide +kernel
theorem dX10_shape_14 : decode cX10_shape 14 = .ok (.aaload, 1) := by decide +kernel
theorem dX10_shape_15 : decode cX10_shape 15 = .ok (.getfield 108, 3) := by decide +kernel
theorem dX10_shape_18 : decode cX10_shape 18 = .ok (.invokestatic 86, 3) := by decide +kernel
theorem dX10_shape_21 : decode cX10_shape 21 = .ok (.ifCond .ne 10, 3) := by decide +kernel
theorem dX10_shape_24 : decode cX10_shape 24 = .ok (.aload_n 0, 1) := by decide +kernel
theorem dX10_shape_25 : decode cX10_shape 25 = .ok (.ldc 90, 2) := by decide +kernel
theorem dX10_shape_27 : decode cX10_shape 27 = .ok (.invokevirtual 91, 3) := by decide +kernel
theorem dX10_shape_30 : decode cX10_shape 30 = .ok (.ireturn, 1) := by decide +kernel
theorem dX10_shape_31 : decode cX10_shape 31 = .ok (.aload_n 0, 1) := by decide +kernel
theorem dX10_shape_32 : decode cX10_shape 32 = .ok (.getfield 11, 3) := by decide +kernel
theorem dX10_shape_35 : decode cX10_shape 35 = .ok (.iload_n 1, 1) := by decide +kernel
theorem dX10_shape_36 : decode cX10_shape 36 = .ok (.aaload, 1) := by decide +kernel
theorem dX10_shape_37 : decode cX10_shape 37 = .ok (.getfield 111, 3) := by decide +kernel
theorem dX10_shape_40 : decode cX10_shape 40 = .ok (.iload_n 2, 1) := by decide +kernel
theorem dX10_shape_41 : decode cX10_shape 41 = .ok (.iaload, 1) := by decide +kernel
theorem dX10_shape_42 : decode cX10_shape 42 = .ok (.ireturn, 1) := by decide +kernel
theorem dX10_cost_0 : decode cX10_cost 0 = .ok (.aload_n 0, 1) := by decide +kernel
theorem dX10_cost_1 : decode cX10_cost 1 = .ok (.iload_n 1, 1) := by decide +kernel
theorem dX10_cost_2 : decode cX10_cost 2 = .ok (.invokevirtual 117, 3) := by decide +kernel
theorem dX10_cost_5 : decode cX10_cost 5 = .ok (.ifCond .ne 10, 3) := by decide +kernel
theorem dX10_cost_8 : decode cX10_cost 8 = .ok (.aload_n 0, 1) := by decide +kernel
theorem dX10_cost_9 : decode cX10_cost 9 = .ok (.ldc 90, 2) := by decide +kernel
theorem dX10_cost_11 : decode cX10_cost 11 = .ok (.invokevirtual 91, 3) := by decide +kernel
theorem dX10_cost_14 : decode cX10_cost 14 = .ok (.ireturn, 1) := by decide +kernel
theorem dX10_cost_15 : decode cX10_cost 15 = .ok (.aload_n 0, 1) := by decide +kernel
theorem dX10_cost_16 : decode cX10_cost 16 = .ok (.iload_n 1, 1) := by decide +kernel
theorem dX10_cost_17 : decode cX10_cost 17 = .ok (.invokevirtual 157, 3) := by decide +kernel
theorem dX10_cost_20 : decode cX10_cost 20 = .ok (.ifCond .ne 10, 3) := by decide +kernel
theorem dX10_cost_23 : decode cX10_cost 23 = .ok (.aload_n 0, 1) := by decide +kernel
theorem dX10_cost_24 : decode cX10_cost 24 = .ok (.ldc 135, 2) := by decide +kernel
theorem dX10_cost_26 : decode cX10_cost 26 = .ok (.invokevirtual 91, 3) := by decide +kernel
theorem dX10_cost_29 : decode cX10_cost 29 = .ok (.ireturn, 1) := by decide +kernel
theorem dX10_cost_30 : decode cX10_cost 30 = .ok (.aload_n 0, 1) := by decide +kernel
theorem dX10_cost_31 : decode cX10_cost 31 = .ok (.getfield 51, 3) := by decide +kernel
theorem dX10_cost_34 : decode cX10_cost 34 = .ok (.getfield 160, 3) := by decide +kernel
theorem dX10_cost_37 : decode cX10_cost 37 = .ok (.ireturn, 1) := by decide +kernel
theorem dX10_place_0 : decode cX10_place 0 = .ok (.aload_n 0, 1) := by decide +kernel
theorem dX10_place_1 : decode cX10_place 1 = .ok (.iload_n 1, 1) := by decide +kernel
theorem dX10_place_2 : decode cX10_place 2 = .ok (.invokevirtual 117, 3) := by decide +kernel
theorem dX10_place_5 : decode cX10_place 5 = .ok (.ifCond .eq 19, 3) := by decide +kernel
theorem dX10_place_8 : decode cX10_place 8 = .ok (.iload_n 2, 1) := by decide +kernel
theorem dX10_place_9 : decode cX10_place 9 = .ok (.aload_n 0, 1) := by decide +kernel
theorem dX10_place_10 : decode cX10_place 10 = .ok (.getfield 17, 3) := by decide +kernel
theorem dX10_place_13 : decode cX10_place 13 = .ok (.iload_n 1, 1) := by decide +kernel
theorem dX10_place_14 : decode cX10_place 14 = .ok (.aaload, 1) := by decide +kernel
theorem dX10_place_15 : decode cX10_place 15 = .ok (.getfield 128, 3) := by decide +kernel
theorem dX10_place_18 : decode cX10_place 18 = .ok (.invokestatic 86, 3) := by decide +kernel
theorem dX10_place_21 : decode cX10_place 21 = .ok (.ifCond .ne 10, 3) := by decide +kernel
theorem dX10_place_24 : decode cX10_place 24 = .ok (.aload_n 0, 1) := by decide +kernel
theorem dX10_place_25 : decode cX10_place 25 = .ok (.ldc 90, 2) := by decide +kernel
theorem dX10_place_27 : decode cX10_place 27 = .ok (.invokevirtual 91, 3) := by decide +kernel
theorem dX10_place_30 : decode cX10_place 30 = .ok (.ireturn, 1) := by decide +kernel
theorem dX10_place_31 : decode cX10_place 31 = .ok (.aload_n 0, 1) := by decide +kernel
theorem dX10_place_32 : decode cX10_place 32 = .ok (.iload_n 1, 1) := by decide +kernel
theorem dX10_place_33 : decode cX10_place 33 = .ok (.invokevirtual 157, 3) := by decide +kernel
theorem dX10_place_36 : decode cX10_place 36 = .ok (.ifCond .ne 10, 3) := by decide +kernel
theorem dX10_place_39 : decode cX10_place 39 = .ok (.aload_n 0, 1) := by decide +kernel
theorem dX10_place_40 : decode cX10_place 40 = .ok (.ldc 135, 2) := by decide +kernel
theorem dX10_place_42 : decode cX10_place 42 = .ok (.invokevirtual 91, 3) := by decide +kernel
theorem dX10_place_45 : decode cX10_place 45 = .ok (.ireturn, 1) := by decide +kernel
theorem dX10_place_46 : decode cX10_place 46 = .ok (.iload_n 3, 1) := by decide +kernel
theorem dX10_place_47 : decode cX10_place 47 = .ok (.ifCond .eq 15, 3) := by decide +kernel
theorem dX10_place_50 : decode cX10_place 50 = .ok (.aload_n 0, 1) := by decide +kernel
theorem dX10_place_51 : decode cX10_place 51 = .ok (.getfield 51, 3) := by decide +kernel
theorem dX10_place_54 : decode cX10_place 54 = .ok (.getfield 163, 3) := by decide +kernel
theorem dX10_place_57 : decode cX10_place 57 = .ok (.iload_n 2, 1) := by decide +kernel
theorem dX10_place_58 : decode cX10_place 58 = .ok (.iaload, 1) := by decide +kernel
theorem dX10_place_59 : decode cX10_place 59 = .ok (.goto 12, 3) := by decide +kernel
theorem dX10_place_62 : decode cX10_place 62 = .ok (.aload_n 0, 1) := by decide +kernel
theorem dX10_place_63 : decode cX10_place 63 = .ok (.getfield 51, 3) := by decide +kernel
theorem dX10_place_66 : decode cX10_place 66 = .ok (.getfield 166, 3) := by decide +kernel
theorem dX10_place_69 : decode cX10_place 69 = .ok (.iload_n 2, 1) := by decide +kernel
theorem dX10_place_70 : decode cX10_place 70 = .ok (.iaload, 1) := by decide +kernel
theorem dX10_place_71 : decode cX10_place 71 = .ok (.ireturn, 1) := by decide +kernel
theorem dX10_on_0 : decode cX10_on 0 = .ok (.aload_n 0, 1) := by decide +kernel
theorem dX10_on_1 : decode cX10_on 1 = .ok (.iload_n 1, 1) := by decide +kernel
theorem dX10_on_2 : decode cX10_on 2 = .ok (.invokevirtual 117, 3) := by decide +kernel
theorem dX10_on_5 : decode cX10_on 5 = .ok (.ifCond .eq 27, 3) := by decide +kernel
theorem dX10_on_8 : decode cX10_on 8 = .ok (.iload_n 2, 1) := by decide +kernel
theorem dX10_on_9 : decode cX10_on 9 = .ok (.aload_n 0, 1) := by decide +kernel
theorem dX10_on_10 : decode cX10_on 10 = .ok (.getfield 11, 3) := by decide +kernel
theorem dX10_on_13 : decode cX10_on 13 = .ok (.aload_n 0, 1) := by decide +kernel
theorem dX10_on_14 : decode cX10_on 14 = .ok (.getfield 17, 3) := by decide +kernel
theorem dX10_on_17 : decode cX10_on 17 = .ok (.iload_n 1, 1) := by decide +kernel
theorem dX10_on_18 : decode cX10_on 18 = .ok (.aaload, 1) := by decide +kernel
theorem dX10_on_19 : decode cX10_on 19 = .ok (.getfield 142, 3) := by decide +kernel
theorem dX10_on_22 : decode cX10_on 22 = .ok (.aaload, 1) := by decide +kernel
theorem dX10_on_23 : decode cX10_on 23 = .ok (.getfield 108, 3) := by decide +kernel
theorem dX10_on_26 : decode cX10_on 26 = .ok (.invokestatic 86, 3) := by decide +kernel
theorem dX10_on_29 : decode cX10_on 29 = .ok (.ifCond .ne 10, 3) := by decide +kernel
theorem dX10_on_32 : decode cX10_on 32 = .ok (.aload_n 0, 1) := by decide +kernel
theorem dX10_on_33 : decode cX10_on 33 = .ok (.ldc 90, 2) := by decide +kernel
theorem dX10_on_35 : decode cX10_on 35 = .ok (.invokevirtual 91, 3) := by decide +kernel
theorem dX10_on_38 : decode cX10_on 38 = .ok (.ireturn, 1) := by decide +kernel
theorem dX10_on_39 : decode cX10_on 39 = .ok (.aload_n 0, 1) := by decide +kernel
theorem dX10_on_40 : decode cX10_on 40 = .ok (.iload_n 1, 1) := by decide +kernel
theorem dX10_on_41 : decode cX10_on 41 = .ok (.invokevirtual 157, 3) := by decide +kernel
theorem dX10_on_44 : decode cX10_on 44 = .ok (.ifCond .ne 10, 3) := by decide +kernel
theorem dX10_on_47 : decode cX10_on 47 = .ok (.aload_n 0, 1) := by decide +kernel
theorem dX10_on_48 : decode cX10_on 48 = .ok (.ldc 135, 2) := by decide +kernel
theorem dX10_on_50 : decode cX10_on 50 = .ok (.invokevirtual 91, 3) := by decide +kernel
theorem dX10_on_53 : decode cX10_on 53 = .ok (.ireturn, 1) := by decide +kernel
theorem dX10_on_54 : decode cX10_on 54 = .ok (.aload_n 0, 1) := by decide +kernel
theorem dX10_on_55 : decode cX10_on 55 = .ok (.getfield 51, 3) := by decide +kernel
theorem dX10_on_58 : decode cX10_on 58 = .ok (.iload_n 2, 1) := by decide +kernel
theorem dX10_on_59 : decode cX10_on 59 = .ok (.invokevirtual 169, 3) := by decide +kernel
theorem dX10_on_62 : decode cX10_on 62 = .ok (.ireturn, 1) := by decide +kernel
theorem dX10_name_0 : decode cX10_name 0 = .ok (.iload_n 1, 1) := by decide +kernel
theorem dX10_name_1 : decode cX10_name 1 = .ok (.bipush 32, 2) := by decide +kernel
theorem dX10_name_3 : decode cX10_name 3 = .ok (.invokestatic 86, 3) := by decide +kernel
theorem dX10_name_6 : decode cX10_name 6 = .ok (.ifCond .eq 12, 3) := by decide +kernel
theorem dX10_name_9 : decode cX10_name 9 = .ok (.iload_n 2, 1) := by decide +kernel
theorem dX10_name_10 : decode cX10_name 10 = .ok (.bipush 8, 2) := by decide +kernel
theorem dX10_name_12 : decode cX10_name 12 = .ok (.invokestatic 172, 3) := by decide +kernel
theorem dX10_name_15 : decode cX10_name 15 = .ok (.ifCond .ne 10, 3) := by decide +kernel
theorem dX10_name_18 : decode cX10_name 18 = .ok (.aload_n 0, 1) := by decide +kernel
theorem dX10_name_19 : decode cX10_name 19 = .ok (.ldc 90, 2) := by decide +kernel
theorem dX10_name_21 : decode cX10_name 21 = .ok (.invokevirtual 91, 3) := by decide +kernel
theorem dX10_name_24 : decode cX10_name 24 = .ok (.ireturn, 1) := by decide +kernel
theorem dX10_name_25 : decode cX10_name 25 = .ok (.aload_n 0, 1) := by decide +kernel
theorem dX10_name_26 : decode cX10_name 26 = .ok (.getfield 30, 3) := by decide +kernel
theorem dX10_name_29 : decode cX10_name 29 = .ok (.getfield 175, 3) := by decide +kernel
theorem dX10_name_32 : decode cX10_name 32 = .ok (.iload_n 1, 1) := by decide +kernel
theorem dX10_name_33 : decode cX10_name 33 = .ok (.iaload, 1) := by decide +kernel
theorem dX10_name_34 : decode cX10_name 34 = .ok (.istore_n 3, 1) := by decide +kernel
theorem dX10_name_35 : decode cX10_name 35 = .ok (.aload_n 0, 1) := by decide +kernel
theorem dX10_name_36 : decode cX10_name 36 = .ok (.getfield 30, 3) := by decide +kernel
theorem dX10_name_39 : decode cX10_name 39 = .ok (.getfield 175, 3) := by decide +kernel
theorem dX10_name_42 : decode cX10_name 42 = .ok (.iload_n 1, 1) := by decide +kernel
theorem dX10_name_43 : decode cX10_name 43 = .ok (.iload_n 2, 1) := by decide +kernel
theorem dX10_name_44 : decode cX10_name 44 = .ok (.iastore, 1) := by decide +kernel
theorem dX10_name_45 : decode cX10_name 45 = .ok (.aload_n 0, 1) := by decide +kernel
theorem dX10_name_46 : decode cX10_name 46 = .ok (.iconst 5, 1) := by decide +kernel
theorem dX10_name_47 : decode cX10_name 47 = .ok (.iload_n 1, 1) := by decide +kernel
theorem dX10_name_48 : decode cX10_name 48 = .ok (.iload_n 3, 1) := by decide +kernel
theorem dX10_name_49 : decode cX10_name 49 = .ok (.invokevirtual 100, 3) := by decide +kernel
theorem dX10_name_52 : decode cX10_name 52 = .ok (.pop, 1) := by decide +kernel
theorem dX10_name_53 : decode cX10_name 53 = .ok (.iload_n 3, 1) := by decide +kernel
theorem dX10_name_54 : decode cX10_name 54 = .ok (.ireturn, 1) := by decide +kernel
theorem dX10_text_0 : decode cX10_text 0 = .ok (.iload_n 1, 1) := by decide +kernel
theorem dX10_text_1 : decode cX10_text 1 = .ok (.iconst 3, 1) := by decide +kernel
theorem dX10_text_2 : decode cX10_text 2 = .ok (.invokestatic 86, 3) := by decide +kernel
theorem dX10_text_5 : decode cX10_text 5 = .ok (.ifCond .eq 31, 3) := by decide +kernel
theorem dX10_text_8 : decode cX10_text 8 = .ok (.iload_n 2, 1) := by decide +kernel
theorem dX10_text_9 : decode cX10_text 9 = .ok (.iconst 3, 1) := by decide +kernel
theorem dX10_text_10 : decode cX10_text 10 = .ok (.invokestatic 86, 3) := by decide +kernel
theorem dX10_text_13 : decode cX10_text 13 = .ok (.ifCond .eq 23, 3) := by decide +kernel
theorem dX10_text_16 : decode cX10_text 16 = .ok (.iload_n 3, 1) := by decide +kernel
theorem dX10_text_17 : decode cX10_text 17 = .ok (.bipush 32, 2) := by decide +kernel
theorem dX10_text_19 : decode cX10_text 19 = .ok (.invokestatic 86, 3) := by decide +kernel
theorem dX10_text_22 : decode cX10_text 22 = .ok (.ifCond .eq 14, 3) := by decide +kernel
theorem dX10_text_25 : decode cX10_text 25 = .ok (.iload 4, 2) := by decide +kernel
theorem dX10_text_27 : decode cX10_text 27 = .ok (.sipush 1000, 3) := by decide +kernel
theorem dX10_text_30 : decode cX10_text 30 = .ok (.invokestatic 86, 3) := by decide +kernel
theorem dX10_text_33 : decode cX10_text 33 = .ok (.ifCond .ne 10, 3) := by decide +kernel
theorem dX10_text_36 : decode cX10_text 36 = .ok (.aload_n 0, 1) := by decide +kernel
theorem dX10_text_37 : decode cX10_text 37 = .ok (.ldc 90, 2) := by decide +kernel
theorem dX10_text_39 : decode cX10_text 39 = .ok (.invokevirtual 91, 3) := by decide +kernel
theorem dX10_text_42 : decode cX10_text 42 = .ok (.ireturn, 1) := by decide +kernel
theorem dX10_text_43 : decode cX10_text 43 = .ok (.aload_n 0, 1) := by decide +kernel
theorem dX10_text_44 : decode cX10_text 44 = .ok (.getfield 30, 3) := by decide +kernel
theorem dX10_text_47 : decode cX10_text 47 = .ok (.getfield 178, 3) := by decide +kernel
theorem dX10_text_50 : decode cX10_text 50 = .ok (.bipush 40, 2) := by decide +kernel
theorem dX10_text_52 : decode cX10_text 52 = .ok (.if_icmp .lt 10, 3) := by decide +kernel
theorem dX10_text_55 : decode cX10_text 55 = .ok (.aload_n 0, 1) := by decide +kernel
theorem dX10_text_56 : decode cX10_text 56 = .ok (.ldc 95, 2) := by decide +kernel
theorem dX10_text_58 : decode cX10_text 58 = .ok (.invokevirtual 91, 3) := by decide +kernel
theorem dX10_text_61 : decode cX10_text 61 = .ok (.ireturn, 1) := by decide +kernel
theorem dX10_text_62 : decode cX10_text 62 = .ok (.aload_n 0, 1) := by decide +kernel
theorem dX10_text_63 : decode cX10_text 63 = .ok (.getfield 30, 3) := by decide +kernel
theorem dX10_text_66 : decode cX10_text 66 = .ok (.iload_n 1, 1) := by decide +kernel
theorem dX10_text_67 : decode cX10_text 67 = .ok (.iload_n 2, 1) := by decide +kernel
theorem dX10_text_68 : decode cX10_text 68 = .ok (.iload_n 3, 1) := by decide +kernel
theorem dX10_text_69 : decode cX10_text 69 = .ok (.iload 4, 2) := by decide +kernel
theorem dX10_text_71 : decode cX10_text 71 = .ok (.invokevirtual 181, 3) := by decide +kernel
theorem dX10_text_74 : decode cX10_text 74 = .ok (.aload_n 0, 1) := by decide +kernel
theorem dX10_text_75 : decode cX10_text 75 = .ok (.bipush 6, 2) := by decide +kernel
theorem dX10_text_77 : decode cX10_text 77 = .ok (.iconst 0, 1) := by decide +kernel
theorem dX10_text_78 : decode cX10_text 78 = .ok (.iconst 0, 1) := by decide +kernel
theorem dX10_text_79 : decode cX10_text 79 = .ok (.invokevirtual 100, 3) := by decide +kernel
theorem dX10_text_82 : decode cX10_text 82 = .ok (.pop, 1) := by decide +kernel
theorem dX10_text_83 : decode cX10_text 83 = .ok (.aload_n 0, 1) := by decide +kernel
theorem dX10_text_84 : decode cX10_text 84 = .ok (.getfield 30, 3) := by decide +kernel
theorem dX10_text_87 : decode cX10_text 87 = .ok (.getfield 178, 3) := by decide +kernel
theorem dX10_text_90 : decode cX10_text 90 = .ok (.ireturn, 1) := by decide +kernel
theorem dX10_barred_0 : decode cX10_barred 0 = .ok (.iload_n 1, 1) := by decide +kernel
theorem dX10_barred_1 : decode cX10_barred 1 = .ok (.iconst 3, 1) := by decide +kernel
theorem dX10_barred_2 : decode cX10_barred 2 = .ok (.invokestatic 86, 3) := by decide +kernel
theorem dX10_barred_5 : decode cX10_barred 5 = .ok (.ifCond .eq 22, 3) := by decide +kernel
theorem dX10_barred_8 : decode cX10_barred 8 = .ok (.iload_n 2, 1) := by decide +kernel
theorem dX10_barred_9 : decode cX10_barred 9 = .ok (.bipush 32, 2) := by decide +kernel
theorem dX10_barred_11 : decode cX10_barred 11 = .ok (.invokestatic 86, 3) := by decide +kernel
theorem dX10_barred_14 : decode cX10_barred 14 = .ok (.ifCond .eq 13, 3) := by decide +kernel
theorem dX10_barred_17 : decode cX10_barred 17 = .ok (.iload_n 3, 1) := by decide +kernel
theorem dX10_barred_18 : decode cX10_barred 18 = .ok (.sipush 1000, 3) := by decide +kernel
theorem dX10_barred_21 : decode cX10_barred 21 = .ok (.invokestatic 86, 3) := by decide +kernel
theorem dX10_barred_24 : decode cX10_barred 24 = .ok (.ifCond .ne 10, 3) := by decide +kernel
theorem dX10_barred_27 : decode cX10_barred 27 = .ok (.aload_n 0, 1) := by decide +kernel
theorem dX10_barred_28 : decode cX10_barred 28 = .ok (.ldc 90, 2) := by decide +kernel
theorem dX10_barred_30 : decode cX10_barred 30 = .ok (.invokevirtual 91, 3) := by decide +kernel
theorem dX10_barred_33 : decode cX10_barred 33 = .ok (.ireturn, 1) := by decide +kernel
theorem dX10_barred_34 : decode cX10_barred 34 = .ok (.aload_n 0, 1) := by decide +kernel
theorem dX10_barred_35 : decode cX10_barred 35 = .ok (.getfield 30, 3) := by decide +kernel
theorem dX10_barred_38 : decode cX10_barred 38 = .ok (.iload_n 1, 1) := by decide +kernel
theorem dX10_barred_39 : decode cX10_barred 39 = .ok (.iload_n 2, 1) := by decide +kernel
theorem dX10_barred_40 : decode cX10_barred 40 = .ok (.iload_n 3, 1) := by decide +kernel
theorem dX10_barred_41 : decode cX10_barred 41 = .ok (.invokevirtual 182, 3) := by decide +kernel
theorem dX10_barred_44 : decode cX10_barred 44 = .ok (.ifCond .eq 7, 3) := by decide +kernel
theorem dX10_barred_47 : decode cX10_barred 47 = .ok (.iconst 1, 1) := by decide +kernel
theorem dX10_barred_48 : decode cX10_barred 48 = .ok (.goto 4, 3) := by decide +kernel
theorem dX10_barred_51 : decode cX10_barred 51 = .ok (.iconst 0, 1) := by decide +kernel
theorem dX10_barred_52 : decode cX10_barred 52 = .ok (.ireturn, 1) := by decide +kernel
theorem dX10_chosen_0 : decode cX10_chosen 0 = .ok (.iload_n 1, 1) := by decide +kernel
theorem dX10_chosen_1 : decode cX10_chosen 1 = .ok (.iconst 3, 1) := by decide +kernel
theorem dX10_chosen_2 : decode cX10_chosen 2 = .ok (.invokestatic 86, 3) := by decide +kernel
theorem dX10_chosen_5 : decode cX10_chosen 5 = .ok (.ifCond .eq 22, 3) := by decide +kernel
theorem dX10_chosen_8 : decode cX10_chosen 8 = .ok (.iload_n 2, 1) := by decide +kernel
theorem dX10_chosen_9 : decode cX10_chosen 9 = .ok (.bipush 8, 2) := by decide +kernel
theorem dX10_chosen_11 : decode cX10_chosen 11 = .ok (.invokestatic 86, 3) := by decide +kernel
theorem dX10_chosen_14 : decode cX10_chosen 14 = .ok (.ifCond .eq 13, 3) := by decide +kernel
theorem dX10_chosen_17 : decode cX10_chosen 17 = .ok (.iload_n 3, 1) := by decide +kernel
theorem dX10_chosen_18 : decode cX10_chosen 18 = .ok (.sipush 1000, 3) := by decide +kernel
theorem dX10_chosen_21 : decode cX10_chosen 21 = .ok (.invokestatic 86, 3) := by decide +kernel
theorem dX10_chosen_24 : decode cX10_chosen 24 = .ok (.ifCond .ne 10, 3) := by decide +kernel
theorem dX10_chosen_27 : decode cX10_chosen 27 = .ok (.aload_n 0, 1) := by decide +kernel
theorem dX10_chosen_28 : decode cX10_chosen 28 = .ok (.ldc 90, 2) := by decide +kernel
theorem dX10_chosen_30 : decode cX10_chosen 30 = .ok (.invokevirtual 91, 3) := by decide +kernel
theorem dX10_chosen_33 : decode cX10_chosen 33 = .ok (.ireturn, 1) := by decide +kernel
theorem dX10_chosen_34 : decode cX10_chosen 34 = .ok (.aload_n 0, 1) := by decide +kernel
theorem dX10_chosen_35 : decode cX10_chosen 35 = .ok (.getfield 30, 3) := by decide +kernel
theorem dX10_chosen_38 : decode cX10_chosen 38 = .ok (.iload_n 1, 1) := by decide +kernel
theorem dX10_chosen_39 : decode cX10_chosen 39 = .ok (.iload_n 2, 1) := by decide +kernel
theorem dX10_chosen_40 : decode cX10_chosen 40 = .ok (.iload_n 3, 1) := by decide +kernel
theorem dX10_chosen_41 : decode cX10_chosen 41 = .ok (.invokevirtual 186, 3) := by decide +kernel
theorem dX10_chosen_44 : decode cX10_chosen 44 = .ok (.istore 4, 2) := by decide +kernel
theorem dX10_chosen_46 : decode cX10_chosen 46 = .ok (.iload 4, 2) := by decide +kernel
theorem dX10_chosen_48 : decode cX10_chosen 48 = .ok (.ifCond .ge 12, 3) := by decide +kernel
theorem dX10_chosen_51 : decode cX10_chosen 51 = .ok (.aload_n 0, 1) := by decide +kernel
theorem dX10_chosen_52 : decode cX10_chosen 52 = .ok (.ldc 135, 2) := by decide +kernel
theorem dX10_chosen_54 : decode cX10_chosen 54 = .ok (.invokevirtual 91, 3) := by decide +kernel
theorem dX10_chosen_57 : decode cX10_chosen 57 = .ok (.goto 5, 3) := by decide +kernel
theorem dX10_chosen_60 : decode cX10_chosen 60 = .ok (.iload 4, 2) := by decide +kernel
theorem dX10_chosen_62 : decode cX10_chosen 62 = .ok (.ireturn, 1) := by decide +kernel
theorem dX10_lawful_0 : decode cX10_lawful 0 = .ok (.aload_n 0, 1) := by decide +kernel
theorem dX10_lawful_1 : decode cX10_lawful 1 = .ok (.iload_n 1, 1) := by decide +kernel
theorem dX10_lawful_2 : decode cX10_lawful 2 = .ok (.invokevirtual 117, 3) := by decide +kernel
theorem dX10_lawful_5 : decode cX10_lawful 5 = .ok (.ifCond .eq 21, 3) := by decide +kernel
theorem dX10_lawful_8 : decode cX10_lawful 8 = .ok (.iload_n 2, 1) := by decide +kernel
theorem dX10_lawful_9 : decode cX10_lawful 9 = .ok (.iconst 3, 1) := by decide +kernel
theorem dX10_lawful_10 : decode cX10_lawful 10 = .ok (.invokestatic 86, 3) := by decide +kernel
theorem dX10_lawful_13 : decode cX10_lawful 13 = .ok (.ifCond .eq 13, 3) := by decide +kernel
theorem dX10_lawful_16 : decode cX10_lawful 16 = .ok (.iload_n 3, 1) := by decide +kernel
theorem dX10_lawful_17 : decode cX10_lawful 17 = .ok (.sipush 1000, 3) := by decide +kernel
theorem dX10_lawful_20 : decode cX10_lawful 20 = .ok (.invokestatic 86, 3) := by decide +kernel
theorem dX10_lawful_23 : decode cX10_lawful 23 = .ok (.ifCond .ne 10, 3) := by decide +kernel
theorem dX10_lawful_26 : decode cX10_lawful 26 = .ok (.aload_n 0, 1) := by decide +kernel
theorem dX10_lawful_27 : decode cX10_lawful 27 = .ok (.ldc 90, 2) := by decide +kernel
theorem dX10_lawful_29 : decode cX10_lawful 29 = .ok (.invokevirtual 91, 3) := by decide +kernel
theorem dX10_lawful_32 : decode cX10_lawful 32 = .ok (.ireturn, 1) := by decide +kernel
theorem dX10_lawful_33 : decode cX10_lawful 33 = .ok (.aload_n 0, 1) := by decide +kernel
theorem dX10_lawful_34 : decode cX10_lawful 34 = .ok (.getfield 30, 3) := by decide +kernel
theorem dX10_lawful_37 : decode cX10_lawful 37 = .ok (.aload_n 0, 1) := by decide +kernel
theorem dX10_lawful_38 : decode cX10_lawful 38 = .ok (.getfield 17, 3) := by decide +kernel
theorem dX10_lawful_41 : decode cX10_lawful 41 = .ok (.iload_n 1, 1) := by decide +kernel
theorem dX10_lawful_42 : decode cX10_lawful 42 = .ok (.aaload, 1) := by decide +kernel
theorem dX10_lawful_43 : decode cX10_lawful 43 = .ok (.iload_n 2, 1) := by decide +kernel
theorem dX10_lawful_44 : decode cX10_lawful 44 = .ok (.iload_n 3, 1) := by decide +kernel
theorem dX10_lawful_45 : decode cX10_lawful 45 = .ok (.invokevirtual 190, 3) := by decide +kernel
theorem dX10_lawful_48 : decode cX10_lawful 48 = .ok (.ifCond .eq 7, 3) := by decide +kernel
theorem dX10_lawful_51 : decode cX10_lawful 51 = .ok (.iconst 1, 1) := by decide +kernel
theorem dX10_lawful_52 : decode cX10_lawful 52 = .ok (.goto 4, 3) := by decide +kernel
theorem dX10_lawful_55 : decode cX10_lawful 55 = .ok (.iconst 0, 1) := by decide +kernel
theorem dX10_lawful_56 : decode cX10_lawful 56 = .ok (.ireturn, 1) := by decide +kernel
theorem dX10_best_0 : decode cX10_best 0 = .ok (.aload_n 0, 1) := by decide +kernel
theorem dX10_best_1 : decode cX10_best 1 = .ok (.iload_n 1, 1) := by decide +kernel
theorem dX10_best_2 : decode cX10_best 2 = .ok (.invokevirtual 104, 3) := by decide +kernel
theorem dX10_best_5 : decode cX10_best 5 = .ok (.ifCond .eq 21, 3) := by decide +kernel
theorem dX10_best_8 : decode cX10_best 8 = .ok (.iload_n 2, 1) := by decide +kernel
theorem dX10_best_9 : decode cX10_best 9 = .ok (.iconst 3, 1) := by decide +kernel
theorem dX10_best_10 : decode cX10_best 10 = .ok (.invokestatic 86, 3) := by decide +kernel
theorem dX10_best_13 : decode cX10_best 13 = .ok (.ifCond .eq 13, 3) := by decide +kernel
theorem dX10_best_16 : decode cX10_best 16 = .ok (.iload_n 3, 1) := by decide +kernel
theorem dX10_best_17 : decode cX10_best 17 = .ok (.sipush 1000, 3) := by decide +kernel
theorem dX10_best_20 : decode cX10_best 20 = .ok (.invokestatic 86, 3) := by decide +kernel
theorem dX10_best_23 : decode cX10_best 23 = .ok (.ifCond .ne 10, 3) := by decide +kernel
theorem dX10_best_26 : decode cX10_best 26 = .ok (.aload_n 0, 1) := by decide +kernel
theorem dX10_best_27 : decode cX10_best 27 = .ok (.ldc 90, 2) := by decide +kernel
theorem dX10_best_29 : decode cX10_best 29 = .ok (.invokevirtual 91, 3) := by decide +kernel
theorem dX10_best_32 : decode cX10_best 32 = .ok (.ireturn, 1) := by decide +kernel
theorem dX10_best_33 : decode cX10_best 33 = .ok (.aload_n 0, 1) := by decide +kernel
theorem dX10_best_34 : decode cX10_best 34 = .ok (.iload_n 1, 1) := by decide +kernel
theorem dX10_best_35 : decode cX10_best 35 = .ok (.iload_n 2, 1) := by decide +kernel
theorem dX10_best_36 : decode cX10_best 36 = .ok (.iload_n 3, 1) := by decide +kernel
theorem dX10_best_37 : decode cX10_best 37 = .ok (.invokevirtual 194, 3) := by decide +kernel
theorem dX10_best_40 : decode cX10_best 40 = .ok (.istore 4, 2) := by decide +kernel
theorem dX10_best_42 : decode cX10_best 42 = .ok (.iload 4, 2) := by decide +kernel
theorem dX10_best_44 : decode cX10_best 44 = .ok (.ifCond .ge 12, 3) := by decide +kernel
theorem dX10_best_47 : decode cX10_best 47 = .ok (.aload_n 0, 1) := by decide +kernel
theorem dX10_best_48 : decode cX10_best 48 = .ok (.ldc 135, 2) := by decide +kernel
theorem dX10_best_50 : decode cX10_best 50 = .ok (.invokevirtual 91, 3) := by decide +kernel
theorem dX10_best_53 : decode cX10_best 53 = .ok (.goto 5, 3) := by decide +kernel
theorem dX10_best_56 : decode cX10_best 56 = .ok (.iload 4, 2) := by decide +kernel
theorem dX10_best_58 : decode cX10_best 58 = .ok (.ireturn, 1) := by decide +kernel
theorem dX10_worth_0 : decode cX10_worth 0 = .ok (.iload_n 1, 1) := by decide +kernel
theorem dX10_worth_1 : decode cX10_worth 1 = .ok (.iconst 3, 1) := by decide +kernel
theorem dX10_worth_2 : decode cX10_worth 2 = .ok (.invokestatic 86, 3) := by decide +kernel
theorem dX10_worth_5 : decode cX10_worth 5 = .ok (.ifCond .eq 13, 3) := by decide +kernel
theorem dX10_worth_8 : decode cX10_worth 8 = .ok (.iload_n 2, 1) := by decide +kernel
theorem dX10_worth_9 : decode cX10_worth 9 = .ok (.sipush 1000, 3) := by decide +kernel
theorem dX10_worth_12 : decode cX10_worth 12 = .ok (.invokestatic 86, 3) := by decide +kernel
theorem dX10_worth_15 : decode cX10_worth 15 = .ok (.ifCond .ne 10, 3) := by decide +kernel
theorem dX10_worth_18 : decode cX10_worth 18 = .ok (.aload_n 0, 1) := by decide +kernel
theorem dX10_worth_19 : decode cX10_worth 19 = .ok (.ldc 90, 2) := by decide +kernel
theorem dX10_worth_21 : decode cX10_worth 21 = .ok (.invokevirtual 91, 3) := by decide +kernel
theorem dX10_worth_24 : decode cX10_worth 24 = .ok (.ireturn, 1) := by decide +kernel
theorem dX10_worth_25 : decode cX10_worth 25 = .ok (.iconst 0, 1) := by decide +kernel
theorem dX10_worth_26 : decode cX10_worth 26 = .ok (.istore_n 3, 1) := by decide +kernel
theorem dX10_worth_27 : decode cX10_worth 27 = .ok (.iconst 0, 1) := by decide +kernel
theorem dX10_worth_28 : decode cX10_worth 28 = .ok (.istore 4, 2) := by decide +kernel
theorem dX10_worth_30 : decode cX10_worth 30 = .ok (.iload 4, 2) := by decide +kernel
theorem dX10_worth_32 : decode cX10_worth 32 = .ok (.aload_n 0, 1) := by decide +kernel
theorem dX10_worth_33 : decode cX10_worth 33 = .ok (.getfield 73, 3) := by decide +kernel
theorem dX10_worth_36 : decode cX10_worth 36 = .ok (.if_icmp .ge 42, 3) := by decide +kernel
theorem dX10_worth_39 : decode cX10_worth 39 = .ok (.aload_n 0, 1) := by decide +kernel
theorem dX10_worth_40 : decode cX10_worth 40 = .ok (.iload 4, 2) := by decide +kernel
theorem dX10_worth_42 : decode cX10_worth 42 = .ok (.iload_n 1, 1) := by decide +kernel
theorem dX10_worth_43 : decode cX10_worth 43 = .ok (.iload_n 2, 1) := by decide +kernel
theorem dX10_worth_44 : decode cX10_worth 44 = .ok (.invokevirtual 194, 3) := by decide +kernel
theorem dX10_worth_47 : decode cX10_worth 47 = .ok (.istore 5, 2) := by decide +kernel
theorem dX10_worth_49 : decode cX10_worth 49 = .ok (.iload 5, 2) := by decide +kernel
theorem dX10_worth_51 : decode cX10_worth 51 = .ok (.ifCond .lt 21, 3) := by decide +kernel
theorem dX10_worth_54 : decode cX10_worth 54 = .ok (.aload_n 0, 1) := by decide +kernel
theorem dX10_worth_55 : decode cX10_worth 55 = .ok (.iload 5, 2) := by decide +kernel
theorem dX10_worth_57 : decode cX10_worth 57 = .ok (.invokevirtual 157, 3) := by decide +kernel
theorem dX10_worth_60 : decode cX10_worth 60 = .ok (.ifCond .eq 12, 3) := by decide +kernel
theorem dX10_worth_63 : decode cX10_worth 63 = .ok (.iload_n 3, 1) := by decide +kernel
theorem dX10_worth_64 : decode cX10_worth 64 = .ok (.aload_n 0, 1) := by decide +kernel
theorem dX10_worth_65 : decode cX10_worth 65 = .ok (.iload 5, 2) := by decide +kernel
theorem dX10_worth_67 : decode cX10_worth 67 = .ok (.invokevirtual 197, 3) := by decide +kernel
theorem dX10_worth_70 : decode cX10_worth 70 = .ok (.iadd, 1) := by decide +kernel
theorem dX10_worth_71 : decode cX10_worth 71 = .ok (.istore_n 3, 1) := by decide +kernel
theorem dX10_worth_72 : decode cX10_worth 72 = .ok (.iinc 4 1, 3) := by decide +kernel
theorem dX10_worth_75 : decode cX10_worth 75 = .ok (.goto (-45), 3) := by decide +kernel
theorem dX10_worth_78 : decode cX10_worth 78 = .ok (.iload_n 3, 1) := by decide +kernel
theorem dX10_worth_79 : decode cX10_worth 79 = .ok (.ireturn, 1) := by decide +kernel
theorem dX10_actor_0 : decode cX10_actor 0 = .ok (.iload_n 1, 1) := by decide +kernel
theorem dX10_actor_1 : decode cX10_actor 1 = .ok (.bipush 6, 2) := by decide +kernel
theorem dX10_actor_3 : decode cX10_actor 3 = .ok (.invokestatic 86, 3) := by decide +kernel
theorem dX10_actor_6 : decode cX10_actor 6 = .ok (.ifCond .eq 12, 3) := by decide +kernel
theorem dX10_actor_9 : decode cX10_actor 9 = .ok (.iload_n 2, 1) := by decide +kernel
theorem dX10_actor_10 : decode cX10_actor 10 = .ok (.bipush 8, 2) := by decide +kernel
theorem dX10_actor_12 : decode cX10_actor 12 = .ok (.invokestatic 172, 3) := by decide +kernel
theorem dX10_actor_15 : decode cX10_actor 15 = .ok (.ifCond .ne 10, 3) := by decide +kernel
theorem dX10_actor_18 : decode cX10_actor 18 = .ok (.aload_n 0, 1) := by decide +kernel
theorem dX10_actor_19 : decode cX10_actor 19 = .ok (.ldc 90, 2) := by decide +kernel
theorem dX10_actor_21 : decode cX10_actor 21 = .ok (.invokevirtual 91, 3) := by decide +kernel
theorem dX10_actor_24 : decode cX10_actor 24 = .ok (.ireturn, 1) := by decide +kernel
theorem dX10_actor_25 : decode cX10_actor 25 = .ok (.aload_n 0, 1) := by decide +kernel
theorem dX10_actor_26 : decode cX10_actor 26 = .ok (.getfield 37, 3) := by decide +kernel
theorem dX10_actor_29 : decode cX10_actor 29 = .ok (.getfield 200, 3) := by decide +kernel
theorem dX10_actor_32 : decode cX10_actor 32 = .ok (.iload_n 1, 1) := by decide +kernel
theorem dX10_actor_33 : decode cX10_actor 33 = .ok (.iaload, 1) := by decide +kernel
theorem dX10_actor_34 : decode cX10_actor 34 = .ok (.istore_n 3, 1) := by decide +kernel
theorem dX10_actor_35 : decode cX10_actor 35 = .ok (.aload_n 0, 1) := by decide +kernel
theorem dX10_actor_36 : decode cX10_actor 36 = .ok (.getfield 37, 3) := by decide +kernel
theorem dX10_actor_39 : decode cX10_actor 39 = .ok (.getfield 200, 3) := by decide +kernel
theorem dX10_actor_42 : decode cX10_actor 42 = .ok (.iload_n 1, 1) := by decide +kernel
theorem dX10_actor_43 : decode cX10_actor 43 = .ok (.iload_n 2, 1) := by decide +kernel
theorem dX10_actor_44 : decode cX10_actor 44 = .ok (.iastore, 1) := by decide +kernel
theorem dX10_actor_45 : decode cX10_actor 45 = .ok (.aload_n 0, 1) := by decide +kernel
theorem dX10_actor_46 : decode cX10_actor 46 = .ok (.bipush 7, 2) := by decide +kernel
theorem dX10_actor_48 : decode cX10_actor 48 = .ok (.iload_n 1, 1) := by decide +kernel
theorem dX10_actor_49 : decode cX10_actor 49 = .ok (.iload_n 3, 1) := by decide +kernel
theorem dX10_actor_50 : decode cX10_actor 50 = .ok (.invokevirtual 100, 3) := by decide +kernel
theorem dX10_actor_53 : decode cX10_actor 53 = .ok (.pop, 1) := by decide +kernel
theorem dX10_actor_54 : decode cX10_actor 54 = .ok (.iload_n 3, 1) := by decide +kernel
theorem dX10_actor_55 : decode cX10_actor 55 = .ok (.ireturn, 1) := by decide +kernel
theorem dX10_free_0 : decode cX10_free 0 = .ok (.iload_n 1, 1) := by decide +kernel
theorem dX10_free_1 : decode cX10_free 1 = .ok (.bipush 8, 2) := by decide +kernel
theorem dX10_free_3 : decode cX10_free 3 = .ok (.invokestatic 86, 3) := by decide +kernel
theorem dX10_free_6 : decode cX10_free 6 = .ok (.ifCond .eq 12, 3) := by decide +kernel
theorem dX10_free_9 : decode cX10_free 9 = .ok (.iload_n 2, 1) := by decide +kernel
theorem dX10_free_10 : decode cX10_free 10 = .ok (.bipush 16, 2) := by decide +kernel
theorem dX10_free_12 : decode cX10_free 12 = .ok (.invokestatic 86, 3) := by decide +kernel
theorem dX10_free_15 : decode cX10_free 15 = .ok (.ifCond .ne 10, 3) := by decide +kernel
theorem dX10_free_18 : decode cX10_free 18 = .ok (.aload_n 0, 1) := by decide +kernel
theorem dX10_free_19 : decode cX10_free 19 = .ok (.ldc 90, 2) := by decide +kernel
theorem dX10_free_21 : decode cX10_free 21 = .ok (.invokevirtual 91, 3) := by decide +kernel
theorem dX10_free_24 : decode cX10_free 24 = .ok (.ireturn, 1) := by decide +kernel
theorem dX10_free_25 : decode cX10_free 25 = .ok (.aload_n 0, 1) := by decide +kernel
theorem dX10_free_26 : decode cX10_free 26 = .ok (.getfield 37, 3) := by decide +kernel
theorem dX10_free_29 : decode cX10_free 29 = .ok (.getfield 203, 3) := by decide +kernel
theorem dX10_free_32 : decode cX10_free 32 = .ok (.iload_n 1, 1) := by decide +kernel
theorem dX10_free_33 : decode cX10_free 33 = .ok (.iaload, 1) := by decide +kernel
theorem dX10_free_34 : decode cX10_free 34 = .ok (.istore_n 3, 1) := by decide +kernel
theorem dX10_free_35 : decode cX10_free 35 = .ok (.aload_n 0, 1) := by decide +kernel
theorem dX10_free_36 : decode cX10_free 36 = .ok (.getfield 37, 3) := by decide +kernel
theorem dX10_free_39 : decode cX10_free 39 = .ok (.getfield 203, 3) := by decide +kernel
theorem dX10_free_42 : decode cX10_free 42 = .ok (.iload_n 1, 1) := by decide +kernel
theorem dX10_free_43 : decode cX10_free 43 = .ok (.iload_n 2, 1) := by decide +kernel
theorem dX10_free_44 : decode cX10_free 44 = .ok (.iastore, 1) := by decide +kernel
theorem dX10_free_45 : decode cX10_free 45 = .ok (.aload_n 0, 1) := by decide +kernel
theorem dX10_free_46 : decode cX10_free 46 = .ok (.bipush 8, 2) := by decide +kernel
theorem dX10_free_48 : decode cX10_free 48 = .ok (.iload_n 1, 1) := by decide +kernel
theorem dX10_free_49 : decode cX10_free 49 = .ok (.iload_n 3, 1) := by decide +kernel
theorem dX10_free_50 : decode cX10_free 50 = .ok (.invokevirtual 100, 3) := by decide +kernel
theorem dX10_free_53 : decode cX10_free 53 = .ok (.pop, 1) := by decide +kernel
theorem dX10_free_54 : decode cX10_free 54 = .ok (.iload_n 3, 1) := by decide +kernel
theorem dX10_free_55 : decode cX10_free 55 = .ok (.ireturn, 1) := by decide +kernel
theorem dX10_room_0 : decode cX10_room 0 = .ok (.iload_n 1, 1) := by decide +kernel
theorem dX10_room_1 : decode cX10_room 1 = .ok (.iconst 4, 1) := by decide +kernel
theorem dX10_room_2 : decode cX10_room 2 = .ok (.invokestatic 86, 3) := by decide +kernel
theorem dX10_room_5 : decode cX10_room 5 = .ok (.ifCond .eq 12, 3) := by decide +kernel
theorem dX10_room_8 : decode cX10_room 8 = .ok (.iload_n 2, 1) := by decide +kernel
theorem dX10_room_9 : decode cX10_room 9 = .ok (.bipush 101, 2) := by decide +kernel
theorem dX10_room_11 : decode cX10_room 11 = .ok (.invokestatic 86, 3) := by decide +kernel
theorem dX10_room_14 : decode cX10_room 14 = .ok (.ifCond .ne 10, 3) := by decide +kernel
theorem dX10_room_17 : decode cX10_room 17 = .ok (.aload_n 0, 1) := by decide +kernel
theorem dX10_room_18 : decode cX10_room 18 = .ok (.ldc 90, 2) := by decide +kernel
theorem dX10_room_20 : decode cX10_room 20 = .ok (.invokevirtual 91, 3) := by decide +kernel
theorem dX10_room_23 : decode cX10_room 23 = .ok (.ireturn, 1) := by decide +kernel
theorem dX10_room_24 : decode cX10_room 24 = .ok (.aload_n 0, 1) := by decide +kernel
theorem dX10_room_25 : decode cX10_room 25 = .ok (.getfield 37, 3) := by decide +kernel
theorem dX10_room_28 : decode cX10_room 28 = .ok (.getfield 206, 3) := by decide +kernel
theorem dX10_room_31 : decode cX10_room 31 = .ok (.iload_n 1, 1) := by decide +kernel
theorem dX10_room_32 : decode cX10_room 32 = .ok (.iaload, 1) := by decide +kernel
theorem dX10_room_33 : decode cX10_room 33 = .ok (.istore_n 3, 1) := by decide +kernel
theorem dX10_room_34 : decode cX10_room 34 = .ok (.aload_n 0, 1) := by decide +kernel
theorem dX10_room_35 : decode cX10_room 35 = .ok (.getfield 37, 3) := by decide +kernel
theorem dX10_room_38 : decode cX10_room 38 = .ok (.getfield 206, 3) := by decide +kernel
theorem dX10_room_41 : decode cX10_room 41 = .ok (.iload_n 1, 1) := by decide +kernel
theorem dX10_room_42 : decode cX10_room 42 = .ok (.iload_n 2, 1) := by decide +kernel
theorem dX10_room_43 : decode cX10_room 43 = .ok (.iastore, 1) := by decide +kernel
theorem dX10_room_44 : decode cX10_room 44 = .ok (.aload_n 0, 1) := by decide +kernel
theorem dX10_room_45 : decode cX10_room 45 = .ok (.bipush 9, 2) := by decide +kernel
theorem dX10_room_47 : decode cX10_room 47 = .ok (.iload_n 1, 1) := by decide +kernel
theorem dX10_room_48 : decode cX10_room 48 = .ok (.iload_n 3, 1) := by decide +kernel
theorem dX10_room_49 : decode cX10_room 49 = .ok (.invokevirtual 100, 3) := by decide +kernel
theorem dX10_room_52 : decode cX10_room 52 = .ok (.pop, 1) := by decide +kernel
theorem dX10_room_53 : decode cX10_room 53 = .ok (.iload_n 3, 1) := by decide +kernel
theorem dX10_room_54 : decode cX10_room 54 = .ok (.ireturn, 1) := by decide +kernel
theorem dX10_loop_0 : decode cX10_loop 0 = .ok (.iconst 1, 1) := by decide +kernel
theorem dX10_loop_1 : decode cX10_loop 1 = .ok (.aload_n 0, 1) := by decide +kernel
theorem dX10_loop_2 : decode cX10_loop 2 = .ok (.getfield 73, 3) := by decide +kernel
theorem dX10_loop_5 : decode cX10_loop 5 = .ok (.ishl, 1) := by decide +kernel
theorem dX10_loop_6 : decode cX10_loop 6 = .ok (.iconst 1, 1) := by decide +kernel
theorem dX10_loop_7 : decode cX10_loop 7 = .ok (.isub, 1) := by decide +kernel
theorem dX10_loop_8 : decode cX10_loop 8 = .ok (.istore_n 2, 1) := by decide +kernel
theorem dX10_loop_9 : decode cX10_loop 9 = .ok (.iload_n 1, 1) := by decide +kernel
theorem dX10_loop_10 : decode cX10_loop 10 = .ok (.iload_n 2, 1) := by decide +kernel
theorem dX10_loop_11 : decode cX10_loop 11 = .ok (.iconst (-1), 1) := by decide +kernel
theorem dX10_loop_12 : decode cX10_loop 12 = .ok (.ixor, 1) := by decide +kernel
theorem dX10_loop_13 : decode cX10_loop 13 = .ok (.iand, 1) := by decide +kernel
theorem dX10_loop_14 : decode cX10_loop 14 = .ok (.ifCond .eq 10, 3) := by decide +kernel
theorem dX10_loop_17 : decode cX10_loop 17 = .ok (.aload_n 0, 1) := by decide +kernel
theorem dX10_loop_18 : decode cX10_loop 18 = .ok (.ldc 90, 2) := by decide +kernel
theorem dX10_loop_20 : decode cX10_loop 20 = .ok (.invokevirtual 91, 3) := by decide +kernel
theorem dX10_loop_23 : decode cX10_loop 23 = .ok (.ireturn, 1) := by decide +kernel
theorem dX10_loop_24 : decode cX10_loop 24 = .ok (.iload_n 1, 1) := by decide +kernel
theorem dX10_loop_25 : decode cX10_loop 25 = .ok (.ifCond .ne 10, 3) := by decide +kernel
theorem dX10_loop_28 : decode cX10_loop 28 = .ok (.aload_n 0, 1) := by decide +kernel
theorem dX10_loop_29 : decode cX10_loop 29 = .ok (.ldc 127, 2) := by decide +kernel
theorem dX10_loop_31 : decode cX10_loop 31 = .ok (.invokevirtual 91, 3) := by decide +kernel
theorem dX10_loop_34 : decode cX10_loop 34 = .ok (.ireturn, 1) := by decide +kernel
theorem dX10_loop_35 : decode cX10_loop 35 = .ok (.aload_n 0, 1) := by decide +kernel
theorem dX10_loop_36 : decode cX10_loop 36 = .ok (.getfield 37, 3) := by decide +kernel
theorem dX10_loop_39 : decode cX10_loop 39 = .ok (.getfield 209, 3) := by decide +kernel
theorem dX10_loop_42 : decode cX10_loop 42 = .ok (.bipush 7, 2) := by decide +kernel
theorem dX10_loop_44 : decode cX10_loop 44 = .ok (.if_icmp .lt 10, 3) := by decide +kernel
theorem dX10_loop_47 : decode cX10_loop 47 = .ok (.aload_n 0, 1) := by decide +kernel
theorem dX10_loop_48 : decode cX10_loop 48 = .ok (.ldc 95, 2) := by decide +kernel
theorem dX10_loop_50 : decode cX10_loop 50 = .ok (.invokevirtual 91, 3) := by decide +kernel
theorem dX10_loop_53 : decode cX10_loop 53 = .ok (.ireturn, 1) := by decide +kernel
theorem dX10_loop_54 : decode cX10_loop 54 = .ok (.aload_n 0, 1) := by decide +kernel
theorem dX10_loop_55 : decode cX10_loop 55 = .ok (.getfield 37, 3) := by decide +kernel
theorem dX10_loop_58 : decode cX10_loop 58 = .ok (.iload_n 1, 1) := by decide +kernel
theorem dX10_loop_59 : decode cX10_loop 59 = .ok (.invokevirtual 212, 3) := by decide +kernel
theorem dX10_loop_62 : decode cX10_loop 62 = .ok (.aload_n 0, 1) := by decide +kernel
theorem dX10_loop_63 : decode cX10_loop 63 = .ok (.bipush 10, 2) := by decide +kernel
theorem dX10_loop_65 : decode cX10_loop 65 = .ok (.iconst 0, 1) := by decide +kernel
theorem dX10_loop_66 : decode cX10_loop 66 = .ok (.iconst 0, 1) := by decide +kernel
theorem dX10_loop_67 : decode cX10_loop 67 = .ok (.invokevirtual 100, 3) := by decide +kernel
theorem dX10_loop_70 : decode cX10_loop 70 = .ok (.pop, 1) := by decide +kernel
theorem dX10_loop_71 : decode cX10_loop 71 = .ok (.aload_n 0, 1) := by decide +kernel
theorem dX10_loop_72 : decode cX10_loop 72 = .ok (.getfield 37, 3) := by decide +kernel
theorem dX10_loop_75 : decode cX10_loop 75 = .ok (.getfield 209, 3) := by decide +kernel
theorem dX10_loop_78 : decode cX10_loop 78 = .ok (.iconst 1, 1) := by decide +kernel
theorem dX10_loop_79 : decode cX10_loop 79 = .ok (.isub, 1) := by decide +kernel
theorem dX10_loop_80 : decode cX10_loop 80 = .ok (.ireturn, 1) := by decide +kernel
theorem dX10_unloop_0 : decode cX10_unloop 0 = .ok (.aload_n 0, 1) := by decide +kernel
theorem dX10_unloop_1 : decode cX10_unloop 1 = .ok (.getfield 37, 3) := by decide +kernel
theorem dX10_unloop_4 : decode cX10_unloop 4 = .ok (.getfield 209, 3) := by decide +kernel
theorem dX10_unloop_7 : decode cX10_unloop 7 = .ok (.ifCond .gt 10, 3) := by decide +kernel
theorem dX10_unloop_10 : decode cX10_unloop 10 = .ok (.aload_n 0, 1) := by decide +kernel
theorem dX10_unloop_11 : decode cX10_unloop 11 = .ok (.ldc 135, 2) := by decide +kernel
theorem dX10_unloop_13 : decode cX10_unloop 13 = .ok (.invokevirtual 91, 3) := by decide +kernel
theorem dX10_unloop_16 : decode cX10_unloop 16 = .ok (.ireturn, 1) := by decide +kernel
theorem dX10_unloop_17 : decode cX10_unloop 17 = .ok (.aload_n 0, 1) := by decide +kernel
theorem dX10_unloop_18 : decode cX10_unloop 18 = .ok (.getfield 37, 3) := by decide +kernel
theorem dX10_unloop_21 : decode cX10_unloop 21 = .ok (.dup, 1) := by decide +kernel
theorem dX10_unloop_22 : decode cX10_unloop 22 = .ok (.getfield 209, 3) := by decide +kernel
theorem dX10_unloop_25 : decode cX10_unloop 25 = .ok (.iconst 1, 1) := by decide +kernel
theorem dX10_unloop_26 : decode cX10_unloop 26 = .ok (.isub, 1) := by decide +kernel
theorem dX10_unloop_27 : decode cX10_unloop 27 = .ok (.putfield 209, 3) := by decide +kernel
theorem dX10_unloop_30 : decode cX10_unloop 30 = .ok (.aload_n 0, 1) := by decide +kernel
theorem dX10_unloop_31 : decode cX10_unloop 31 = .ok (.bipush 11, 2) := by decide +kernel
theorem dX10_unloop_33 : decode cX10_unloop 33 = .ok (.iconst 0, 1) := by decide +kernel
theorem dX10_unloop_34 : decode cX10_unloop 34 = .ok (.aload_n 0, 1) := by decide +kernel
theorem dX10_unloop_35 : decode cX10_unloop 35 = .ok (.getfield 37, 3) := by decide +kernel
theorem dX10_unloop_38 : decode cX10_unloop 38 = .ok (.getfield 215, 3) := by decide +kernel
theorem dX10_unloop_41 : decode cX10_unloop 41 = .ok (.aload_n 0, 1) := by decide +kernel
theorem dX10_unloop_42 : decode cX10_unloop 42 = .ok (.getfield 37, 3) := by decide +kernel
theorem dX10_unloop_45 : decode cX10_unloop 45 = .ok (.getfield 209, 3) := by decide +kernel
theorem dX10_unloop_48 : decode cX10_unloop 48 = .ok (.iaload, 1) := by decide +kernel
theorem dX10_unloop_49 : decode cX10_unloop 49 = .ok (.invokevirtual 100, 3) := by decide +kernel
theorem dX10_unloop_52 : decode cX10_unloop 52 = .ok (.pop, 1) := by decide +kernel
theorem dX10_unloop_53 : decode cX10_unloop 53 = .ok (.aload_n 0, 1) := by decide +kernel
theorem dX10_unloop_54 : decode cX10_unloop 54 = .ok (.getfield 37, 3) := by decide +kernel
theorem dX10_unloop_57 : decode cX10_unloop 57 = .ok (.getfield 209, 3) := by decide +kernel
theorem dX10_unloop_60 : decode cX10_unloop 60 = .ok (.ireturn, 1) := by decide +kernel
theorem dX10_plan_0 : decode cX10_plan 0 = .ok (.aload_n 0, 1) := by decide +kernel
theorem dX10_plan_1 : decode cX10_plan 1 = .ok (.getfield 44, 3) := by decide +kernel
theorem dX10_plan_4 : decode cX10_plan 4 = .ok (.aload_n 0, 1) := by decide +kernel
theorem dX10_plan_5 : decode cX10_plan 5 = .ok (.getfield 37, 3) := by decide +kernel
theorem dX10_plan_8 : decode cX10_plan 8 = .ok (.aload_n 0, 1) := by decide +kernel
theorem dX10_plan_9 : decode cX10_plan 9 = .ok (.getfield 11, 3) := by decide +kernel
theorem dX10_plan_12 : decode cX10_plan 12 = .ok (.invokevirtual 218, 3) := by decide +kernel
theorem dX10_plan_15 : decode cX10_plan 15 = .ok (.aload_n 0, 1) := by decide +kernel
theorem dX10_plan_16 : decode cX10_plan 16 = .ok (.getfield 44, 3) := by decide +kernel
theorem dX10_plan_19 : decode cX10_plan 19 = .ok (.getfield 222, 3) := by decide +kernel
theorem dX10_plan_22 : decode cX10_plan 22 = .ok (.ifCond .ne 12, 3) := by decide +kernel
theorem dX10_plan_25 : decode cX10_plan 25 = .ok (.aload_n 0, 1) := by decide +kernel
theorem dX10_plan_26 : decode cX10_plan 26 = .ok (.ldc 135, 2) := by decide +kernel
theorem dX10_plan_28 : decode cX10_plan 28 = .ok (.invokevirtual 91, 3) := by decide +kernel
theorem dX10_plan_31 : decode cX10_plan 31 = .ok (.goto 10, 3) := by decide +kernel
theorem dX10_plan_34 : decode cX10_plan 34 = .ok (.aload_n 0, 1) := by decide +kernel
theorem dX10_plan_35 : decode cX10_plan 35 = .ok (.getfield 44, 3) := by decide +kernel
theorem dX10_plan_38 : decode cX10_plan 38 = .ok (.getfield 225, 3) := by decide +kernel
theorem dX10_plan_41 : decode cX10_plan 41 = .ok (.ireturn, 1) := by decide +kernel
theorem dX10_planned_0 : decode cX10_planned 0 = .ok (.iload_n 1, 1) := by decide +kernel
theorem dX10_planned_1 : decode cX10_planned 1 = .ok (.aload_n 0, 1) := by decide +kernel
theorem dX10_planned_2 : decode cX10_planned 2 = .ok (.getfield 37, 3) := by decide +kernel
theorem dX10_planned_5 : decode cX10_planned 5 = .ok (.getfield 209, 3) := by decide +kernel
theorem dX10_planned_8 : decode cX10_planned 8 = .ok (.invokestatic 86, 3) := by decide +kernel
theorem dX10_planned_11 : decode cX10_planned 11 = .ok (.ifCond .ne 10, 3) := by decide +kernel
theorem dX10_planned_14 : decode cX10_planned 14 = .ok (.aload_n 0, 1) := by decide +kernel
theorem dX10_planned_15 : decode cX10_planned 15 = .ok (.ldc 90, 2) := by decide +kernel
theorem dX10_planned_17 : decode cX10_planned 17 = .ok (.invokevirtual 91, 3) := by decide +kernel
theorem dX10_planned_20 : decode cX10_planned 20 = .ok (.ireturn, 1) := by decide +kernel
theorem dX10_planned_21 : decode cX10_planned 21 = .ok (.aload_n 0, 1) := by decide +kernel
theorem dX10_planned_22 : decode cX10_planned 22 = .ok (.getfield 44, 3) := by decide +kernel
theorem dX10_planned_25 : decode cX10_planned 25 = .ok (.aload_n 0, 1) := by decide +kernel
theorem dX10_planned_26 : decode cX10_planned 26 = .ok (.getfield 37, 3) := by decide +kernel
theorem dX10_planned_29 : decode cX10_planned 29 = .ok (.aload_n 0, 1) := by decide +kernel
theorem dX10_planned_30 : decode cX10_planned 30 = .ok (.getfield 11, 3) := by decide +kernel
theorem dX10_planned_33 : decode cX10_planned 33 = .ok (.invokevirtual 218, 3) := by decide +kernel
theorem dX10_planned_36 : decode cX10_planned 36 = .ok (.aload_n 0, 1) := by decide +kernel
theorem dX10_planned_37 : decode cX10_planned 37 = .ok (.getfield 44, 3) := by decide +kernel
theorem dX10_planned_40 : decode cX10_planned 40 = .ok (.getfield 222, 3) := by decide +kernel
theorem dX10_planned_43 : decode cX10_planned 43 = .ok (.ifCond .ne 12, 3) := by decide +kernel
theorem dX10_planned_46 : decode cX10_planned 46 = .ok (.aload_n 0, 1) := by decide +kernel
theorem dX10_planned_47 : decode cX10_planned 47 = .ok (.ldc 135, 2) := by decide +kernel
theorem dX10_planned_49 : decode cX10_planned 49 = .ok (.invokevirtual 91, 3) := by decide +kernel
theorem dX10_planned_52 : decode cX10_planned 52 = .ok (.goto 12, 3) := by decide +kernel
theorem dX10_planned_55 : decode cX10_planned 55 = .ok (.aload_n 0, 1) := by decide +kernel
theorem dX10_planned_56 : decode cX10_planned 56 = .ok (.getfield 44, 3) := by decide +kernel
theorem dX10_planned_59 : decode cX10_planned 59 = .ok (.getfield 228, 3) := by decide +kernel
theorem dX10_planned_62 : decode cX10_planned 62 = .ok (.iload_n 1, 1) := by decide +kernel
theorem dX10_planned_63 : decode cX10_planned 63 = .ok (.iaload, 1) := by decide +kernel
theorem dX10_planned_64 : decode cX10_planned 64 = .ok (.ireturn, 1) := by decide +kernel
theorem dX10_plans_0 : decode cX10_plans 0 = .ok (.aload_n 0, 1) := by decide +kernel
theorem dX10_plans_1 : decode cX10_plans 1 = .ok (.getfield 44, 3) := by decide +kernel
theorem dX10_plans_4 : decode cX10_plans 4 = .ok (.aload_n 0, 1) := by decide +kernel
theorem dX10_plans_5 : decode cX10_plans 5 = .ok (.getfield 37, 3) := by decide +kernel
theorem dX10_plans_8 : decode cX10_plans 8 = .ok (.aload_n 0, 1) := by decide +kernel
theorem dX10_plans_9 : decode cX10_plans 9 = .ok (.getfield 11, 3) := by decide +kernel
theorem dX10_plans_12 : decode cX10_plans 12 = .ok (.invokevirtual 218, 3) := by decide +kernel
theorem dX10_plans_15 : decode cX10_plans 15 = .ok (.aload_n 0, 1) := by decide +kernel
theorem dX10_plans_16 : decode cX10_plans 16 = .ok (.getfield 44, 3) := by decide +kernel
theorem dX10_plans_19 : decode cX10_plans 19 = .ok (.getfield 222, 3) := by decide +kernel
theorem dX10_plans_22 : decode cX10_plans 22 = .ok (.ireturn, 1) := by decide +kernel
theorem dX10_change_0 : decode cX10_change 0 = .ok (.aload_n 0, 1) := by decide +kernel
theorem dX10_change_1 : decode cX10_change 1 = .ok (.iload_n 1, 1) := by decide +kernel
theorem dX10_change_2 : decode cX10_change 2 = .ok (.invokevirtual 104, 3) := by decide +kernel
theorem dX10_change_5 : decode cX10_change 5 = .ok (.ifCond .eq 11, 3) := by decide +kernel
theorem dX10_change_8 : decode cX10_change 8 = .ok (.iload_n 2, 1) := by decide +kernel
theorem dX10_change_9 : decode cX10_change 9 = .ok (.iconst 4, 1) := by decide +kernel
theorem dX10_change_10 : decode cX10_change 10 = .ok (.invokestatic 86, 3) := by decide +kernel
theorem dX10_change_13 : decode cX10_change 13 = .ok (.ifCond .ne 10, 3) := by decide +kernel
theorem dX10_change_16 : decode cX10_change 16 = .ok (.aload_n 0, 1) := by decide +kernel
theorem dX10_change_17 : decode cX10_change 17 = .ok (.ldc 90, 2) := by decide +kernel
theorem dX10_change_19 : decode cX10_change 19 = .ok (.invokevirtual 91, 3) := by decide +kernel
theorem dX10_change_22 : decode cX10_change 22 = .ok (.ireturn, 1) := by decide +kernel
theorem dX10_change_23 : decode cX10_change 23 = .ok (.aload_n 0, 1) := by decide +kernel
theorem dX10_change_24 : decode cX10_change 24 = .ok (.getfield 23, 3) := by decide +kernel
theorem dX10_change_27 : decode cX10_change 27 = .ok (.iload_n 2, 1) := by decide +kernel
theorem dX10_change_28 : decode cX10_change 28 = .ok (.aaload, 1) := by decide +kernel
theorem dX10_change_29 : decode cX10_change 29 = .ok (.astore_n 3, 1) := by decide +kernel
theorem dX10_change_30 : decode cX10_change 30 = .ok (.aload_n 3, 1) := by decide +kernel
theorem dX10_change_31 : decode cX10_change 31 = .ok (.invokevirtual 231, 3) := by decide +kernel
theorem dX10_change_34 : decode cX10_change 34 = .ok (.ifCond .eq 10, 3) := by decide +kernel
theorem dX10_change_37 : decode cX10_change 37 = .ok (.aload_n 0, 1) := by decide +kernel
theorem dX10_change_38 : decode cX10_change 38 = .ok (.ldc 235, 2) := by decide +kernel
theorem dX10_change_40 : decode cX10_change 40 = .ok (.invokevirtual 91, 3) := by decide +kernel
theorem dX10_change_43 : decode cX10_change 43 = .ok (.ireturn, 1) := by decide +kernel
theorem dX10_change_44 : decode cX10_change 44 = .ok (.aload_n 3, 1) := by decide +kernel
theorem dX10_change_45 : decode cX10_change 45 = .ok (.getfield 236, 3) := by decide +kernel
theorem dX10_change_48 : decode cX10_change 48 = .ok (.bipush 24, 2) := by decide +kernel
theorem dX10_change_50 : decode cX10_change 50 = .ok (.if_icmp .le 10, 3) := by decide +kernel
theorem dX10_change_53 : decode cX10_change 53 = .ok (.aload_n 0, 1) := by decide +kernel
theorem dX10_change_54 : decode cX10_change 54 = .ok (.ldc 127, 2) := by decide +kernel
theorem dX10_change_56 : decode cX10_change 56 = .ok (.invokevirtual 91, 3) := by decide +kernel
theorem dX10_change_59 : decode cX10_change 59 = .ok (.ireturn, 1) := by decide +kernel
theorem dX10_change_60 : decode cX10_change 60 = .ok (.iconst 0, 1) := by decide +kernel
theorem dX10_change_61 : decode cX10_change 61 = .ok (.istore 4, 2) := by decide +kernel
theorem dX10_change_63 : decode cX10_change 63 = .ok (.iload 4, 2) := by decide +kernel
theorem dX10_change_65 : decode cX10_change 65 = .ok (.aload_n 3, 1) := by decide +kernel
theorem dX10_change_66 : decode cX10_change 66 = .ok (.getfield 236, 3) := by decide +kernel
theorem dX10_change_69 : decode cX10_change 69 = .ok (.if_icmp .ge 25, 3) := by decide +kernel
theorem dX10_change_72 : decode cX10_change 72 = .ok (.aload_n 0, 1) := by decide +kernel
theorem dX10_change_73 : decode cX10_change 73 = .ok (.getfield 69, 3) := by decide +kernel
theorem dX10_change_76 : decode cX10_change 76 = .ok (.iload 4, 2) := by decide +kernel
theorem dX10_change_78 : decode cX10_change 78 = .ok (.aload_n 3, 1) := by decide +kernel
theorem dX10_change_79 : decode cX10_change 79 = .ok (.getfield 239, 3) := by decide +kernel
theorem dX10_change_82 : decode cX10_change 82 = .ok (.iload 4, 2) := by decide +kernel
theorem dX10_change_84 : decode cX10_change 84 = .ok (.iaload, 1) := by decide +kernel
theorem dX10_change_85 : decode cX10_change 85 = .ok (.iconst 3, 1) := by decide +kernel
theorem dX10_change_86 : decode cX10_change 86 = .ok (.iand, 1) := by decide +kernel
theorem dX10_change_87 : decode cX10_change 87 = .ok (.iastore, 1) := by decide +kernel
theorem dX10_change_88 : decode cX10_change 88 = .ok (.iinc 4 1, 3) := by decide +kernel
theorem dX10_change_91 : decode cX10_change 91 = .ok (.goto (-28), 3) := by decide +kernel
theorem dX10_change_94 : decode cX10_change 94 = .ok (.aload_n 0, 1) := by decide +kernel
theorem dX10_change_95 : decode cX10_change 95 = .ok (.getfield 11, 3) := by decide +kernel
theorem dX10_change_98 : decode cX10_change 98 = .ok (.iload_n 1, 1) := by decide +kernel
theorem dX10_change_99 : decode cX10_change 99 = .ok (.aaload, 1) := by decide +kernel
theorem dX10_change_100 : decode cX10_change 100 = .ok (.astore 4, 2) := by decide +kernel
theorem dX10_change_102 : decode cX10_change 102 = .ok (.aload_n 0, 1) := by decide +kernel
theorem dX10_change_103 : decode cX10_change 103 = .ok (.getfield 58, 3) := by decide +kernel
theorem dX10_change_106 : decode cX10_change 106 = .ok (.aload 4, 2) := by decide +kernel
theorem dX10_change_108 : decode cX10_change 108 = .ok (.getfield 111, 3) := by decide +kernel
theorem dX10_change_111 : decode cX10_change 111 = .ok (.aload 4, 2) := by decide +kernel
theorem dX10_change_113 : decode cX10_change 113 = .ok (.getfield 108, 3) := by decide +kernel
theorem dX10_change_116 : decode cX10_change 116 = .ok (.aload_n 0, 1) := by decide +kernel
theorem dX10_change_117 : decode cX10_change 117 = .ok (.getfield 69, 3) := by decide +kernel
theorem dX10_change_120 : decode cX10_change 120 = .ok (.aload_n 3, 1) := by decide +kernel
theorem dX10_change_121 : decode cX10_change 121 = .ok (.getfield 236, 3) := by decide +kernel
theorem dX10_change_124 : decode cX10_change 124 = .ok (.invokevirtual 242, 3) := by decide +kernel
theorem dX10_change_127 : decode cX10_change 127 = .ok (.istore 5, 2) := by decide +kernel
theorem dX10_change_129 : decode cX10_change 129 = .ok (.aload_n 0, 1) := by decide +kernel
theorem dX10_change_130 : decode cX10_change 130 = .ok (.bipush 12, 2) := by decide +kernel
theorem dX10_change_132 : decode cX10_change 132 = .ok (.iload_n 1, 1) := by decide +kernel
theorem dX10_change_133 : decode cX10_change 133 = .ok (.iconst 0, 1) := by decide +kernel
theorem dX10_change_134 : decode cX10_change 134 = .ok (.invokevirtual 100, 3) := by decide +kernel
theorem dX10_change_137 : decode cX10_change 137 = .ok (.aload 4, 2) := by decide +kernel
theorem dX10_change_139 : decode cX10_change 139 = .ok (.invokevirtual 246, 3) := by decide +kernel
theorem dX10_change_142 : decode cX10_change 142 = .ok (.aload 4, 2) := by decide +kernel
theorem dX10_change_144 : decode cX10_change 144 = .ok (.aload_n 0, 1) := by decide +kernel
theorem dX10_change_145 : decode cX10_change 145 = .ok (.getfield 69, 3) := by decide +kernel
theorem dX10_change_148 : decode cX10_change 148 = .ok (.aload_n 3, 1) := by decide +kernel
theorem dX10_change_149 : decode cX10_change 149 = .ok (.getfield 236, 3) := by decide +kernel
theorem dX10_change_152 : decode cX10_change 152 = .ok (.invokevirtual 250, 3) := by decide +kernel
theorem dX10_change_155 : decode cX10_change 155 = .ok (.iload 5, 2) := by decide +kernel
theorem dX10_change_157 : decode cX10_change 157 = .ok (.ireturn, 1) := by decide +kernel
theorem dX10_kept_0 : decode cX10_kept 0 = .ok (.aload_n 0, 1) := by decide +kernel
theorem dX10_kept_1 : decode cX10_kept 1 = .ok (.iload_n 1, 1) := by decide +kernel
theorem dX10_kept_2 : decode cX10_kept 2 = .ok (.invokevirtual 104, 3) := by decide +kernel
theorem dX10_kept_5 : decode cX10_kept 5 = .ok (.ifCond .eq 11, 3) := by decide +kernel
theorem dX10_kept_8 : decode cX10_kept 8 = .ok (.aload_n 0, 1) := by decide +kernel
theorem dX10_kept_9 : decode cX10_kept 9 = .ok (.iload_n 2, 1) := by decide +kernel
theorem dX10_kept_10 : decode cX10_kept 10 = .ok (.invokevirtual 104, 3) := by decide +kernel
theorem dX10_kept_13 : decode cX10_kept 13 = .ok (.ifCond .ne 10, 3) := by decide +kernel
theorem dX10_kept_16 : decode cX10_kept 16 = .ok (.aload_n 0, 1) := by decide +kernel
theorem dX10_kept_17 : decode cX10_kept 17 = .ok (.ldc 90, 2) := by decide +kernel
theorem dX10_kept_19 : decode cX10_kept 19 = .ok (.invokevirtual 91, 3) := by decide +kernel
theorem dX10_kept_22 : decode cX10_kept 22 = .ok (.ireturn, 1) := by decide +kernel
theorem dX10_kept_23 : decode cX10_kept 23 = .ok (.aload_n 0, 1) := by decide +kernel
theorem dX10_kept_24 : decode cX10_kept 24 = .ok (.getfield 11, 3) := by decide +kernel
theorem dX10_kept_27 : decode cX10_kept 27 = .ok (.iload_n 1, 1) := by decide +kernel
theorem dX10_kept_28 : decode cX10_kept 28 = .ok (.aaload, 1) := by decide +kernel
theorem dX10_kept_29 : decode cX10_kept 29 = .ok (.astore_n 3, 1) := by decide +kernel
theorem dX10_kept_30 : decode cX10_kept 30 = .ok (.aload_n 0, 1) := by decide +kernel
theorem dX10_kept_31 : decode cX10_kept 31 = .ok (.getfield 11, 3) := by decide +kernel
theorem dX10_kept_34 : decode cX10_kept 34 = .ok (.iload_n 2, 1) := by decide +kernel
theorem dX10_kept_35 : decode cX10_kept 35 = .ok (.aaload, 1) := by decide +kernel
theorem dX10_kept_36 : decode cX10_kept 36 = .ok (.astore 4, 2) := by decide +kernel
theorem dX10_kept_38 : decode cX10_kept 38 = .ok (.aload_n 0, 1) := by decide +kernel
theorem dX10_kept_39 : decode cX10_kept 39 = .ok (.getfield 58, 3) := by decide +kernel
theorem dX10_kept_42 : decode cX10_kept 42 = .ok (.aload_n 3, 1) := by decide +kernel
theorem dX10_kept_43 : decode cX10_kept 43 = .ok (.getfield 111, 3) := by decide +kernel
theorem dX10_kept_46 : decode cX10_kept 46 = .ok (.aload_n 3, 1) := by decide +kernel
theorem dX10_kept_47 : decode cX10_kept 47 = .ok (.getfield 108, 3) := by decide +kernel
theorem dX10_kept_50 : decode cX10_kept 50 = .ok (.aload 4, 2) := by decide +kernel
theorem dX10_kept_52 : decode cX10_kept 52 = .ok (.getfield 111, 3) := by decide +kernel
theorem dX10_kept_55 : decode cX10_kept 55 = .ok (.aload 4, 2) := by decide +kernel
theorem dX10_kept_57 : decode cX10_kept 57 = .ok (.getfield 108, 3) := by decide +kernel
theorem dX10_kept_60 : decode cX10_kept 60 = .ok (.invokevirtual 242, 3) := by decide +kernel
theorem dX10_kept_63 : decode cX10_kept 63 = .ok (.ireturn, 1) := by decide +kernel
theorem dX10_sheet_0 : decode cX10_sheet 0 = .ok (.iload_n 1, 1) := by decide +kernel
theorem dX10_sheet_1 : decode cX10_sheet 1 = .ok (.iconst 4, 1) := by decide +kernel
theorem dX10_sheet_2 : decode cX10_sheet 2 = .ok (.invokestatic 86, 3) := by decide +kernel
theorem dX10_sheet_5 : decode cX10_sheet 5 = .ok (.ifCond .eq 25, 3) := by decide +kernel
theorem dX10_sheet_8 : decode cX10_sheet 8 = .ok (.iload_n 2, 1) := by decide +kernel
theorem dX10_sheet_9 : decode cX10_sheet 9 = .ok (.ifCond .eq 28, 3) := by decide +kernel
theorem dX10_sheet_12 : decode cX10_sheet 12 = .ok (.iload_n 2, 1) := by decide +kernel
theorem dX10_sheet_13 : decode cX10_sheet 13 = .ok (.bipush 8, 2) := by decide +kernel
theorem dX10_sheet_15 : decode cX10_sheet 15 = .ok (.if_icmp .eq 22, 3) := by decide +kernel
theorem dX10_sheet_18 : decode cX10_sheet 18 = .ok (.iload_n 2, 1) := by decide +kernel
theorem dX10_sheet_19 : decode cX10_sheet 19 = .ok (.bipush 16, 2) := by decide +kernel
theorem dX10_sheet_21 : decode cX10_sheet 21 = .ok (.if_icmp .eq 16, 3) := by decide +kernel
theorem dX10_sheet_24 : decode cX10_sheet 24 = .ok (.iload_n 2, 1) := by decide +kernel
theorem dX10_sheet_25 : decode cX10_sheet 25 = .ok (.bipush 32, 2) := by decide +kernel
theorem dX10_sheet_27 : decode cX10_sheet 27 = .ok (.if_icmp .eq 10, 3) := by decide +kernel
theorem dX10_sheet_30 : decode cX10_sheet 30 = .ok (.aload_n 0, 1) := by decide +kernel
theorem dX10_sheet_31 : decode cX10_sheet 31 = .ok (.ldc 90, 2) := by decide +kernel
theorem dX10_sheet_33 : decode cX10_sheet 33 = .ok (.invokevirtual 91, 3) := by decide +kernel
theorem dX10_sheet_36 : decode cX10_sheet 36 = .ok (.ireturn, 1) := by decide +kernel
theorem dX10_sheet_37 : decode cX10_sheet 37 = .ok (.iload_n 3, 1) := by decide +kernel
theorem dX10_sheet_38 : decode cX10_sheet 38 = .ok (.ifCond .ge 10, 3) := by decide +kernel
theorem dX10_sheet_41 : decode cX10_sheet 41 = .ok (.aload_n 0, 1) := by decide +kernel
theorem dX10_sheet_42 : decode cX10_sheet 42 = .ok (.ldc 127, 2) := by decide +kernel
theorem dX10_sheet_44 : decode cX10_sheet 44 = .ok (.invokevirtual 91, 3) := by decide +kernel
theorem dX10_sheet_47 : decode cX10_sheet 47 = .ok (.ireturn, 1) := by decide +kernel
theorem dX10_sheet_48 : decode cX10_sheet 48 = .ok (.iload_n 3, 1) := by decide +kernel
theorem dX10_sheet_49 : decode cX10_sheet 49 = .ok (.bipush 30, 2) := by decide +kernel
theorem dX10_sheet_51 : decode cX10_sheet 51 = .ok (.if_icmp .le 10, 3) := by decide +kernel
theorem dX10_sheet_54 : decode cX10_sheet 54 = .ok (.aload_n 0, 1) := by decide +kernel
theorem dX10_sheet_55 : decode cX10_sheet 55 = .ok (.ldc 90, 2) := by decide +kernel
theorem dX10_sheet_57 : decode cX10_sheet 57 = .ok (.invokevirtual 91, 3) := by decide +kernel
theorem dX10_sheet_60 : decode cX10_sheet 60 = .ok (.ireturn, 1) := by decide +kernel
theorem dX10_sheet_61 : decode cX10_sheet 61 = .ok (.aload_n 0, 1) := by decide +kernel
theorem dX10_sheet_62 : decode cX10_sheet 62 = .ok (.getfield 23, 3) := by decide +kernel
theorem dX10_sheet_65 : decode cX10_sheet 65 = .ok (.iload_n 1, 1) := by decide +kernel
theorem dX10_sheet_66 : decode cX10_sheet 66 = .ok (.aaload, 1) := by decide +kernel
theorem dX10_sheet_67 : decode cX10_sheet 67 = .ok (.iload_n 2, 1) := by decide +kernel
theorem dX10_sheet_68 : decode cX10_sheet 68 = .ok (.iload_n 3, 1) := by decide +kernel
theorem dX10_sheet_69 : decode cX10_sheet 69 = .ok (.invokevirtual 254, 3) := by decide +kernel
theorem dX10_sheet_72 : decode cX10_sheet 72 = .ok (.aload_n 0, 1) := by decide +kernel
theorem dX10_sheet_73 : decode cX10_sheet 73 = .ok (.getfield 23, 3) := by decide +kernel
theorem dX10_sheet_76 : decode cX10_sheet 76 = .ok (.iload_n 1, 1) := by decide +kernel
theorem dX10_sheet_77 : decode cX10_sheet 77 = .ok (.aaload, 1) := by decide +kernel
theorem dX10_sheet_78 : decode cX10_sheet 78 = .ok (.getfield 236, 3) := by decide +kernel
theorem dX10_sheet_81 : decode cX10_sheet 81 = .ok (.ireturn, 1) := by decide +kernel
theorem dX10_put_0 : decode cX10_put 0 = .ok (.iload_n 1, 1) := by decide +kernel
theorem dX10_put_1 : decode cX10_put 1 = .ok (.iconst 4, 1) := by decide +kernel
theorem dX10_put_2 : decode cX10_put 2 = .ok (.invokestatic 86, 3) := by decide +kernel
theorem dX10_put_5 : decode cX10_put 5 = .ok (.ifCond .ne 10, 3) := by decide +kernel
theorem dX10_put_8 : decode cX10_put 8 = .ok (.aload_n 0, 1) := by decide +kernel
theorem dX10_put_9 : decode cX10_put 9 = .ok (.ldc 90, 2) := by decide +kernel
theorem dX10_put_11 : decode cX10_put 11 = .ok (.invokevirtual 91, 3) := by decide +kernel
theorem dX10_put_14 : decode cX10_put 14 = .ok (.ireturn, 1) := by decide +kernel
theorem dX10_put_15 : decode cX10_put 15 = .ok (.aload_n 0, 1) := by decide +kernel
theorem dX10_put_16 : decode cX10_put 16 = .ok (.getfield 23, 3) := by decide +kernel
theorem dX10_put_19 : decode cX10_put 19 = .ok (.iload_n 1, 1) := by decide +kernel
theorem dX10_put_20 : decode cX10_put 20 = .ok (.aaload, 1) := by decide +kernel
theorem dX10_put_21 : decode cX10_put 21 = .ok (.invokevirtual 231, 3) := by decide +kernel
theorem dX10_put_24 : decode cX10_put 24 = .ok (.ifCond .eq 10, 3) := by decide +kernel
theorem dX10_put_27 : decode cX10_put 27 = .ok (.aload_n 0, 1) := by decide +kernel
theorem dX10_put_28 : decode cX10_put 28 = .ok (.ldc 235, 2) := by decide +kernel
theorem dX10_put_30 : decode cX10_put 30 = .ok (.invokevirtual 91, 3) := by decide +kernel
theorem dX10_put_33 : decode cX10_put 33 = .ok (.ireturn, 1) := by decide +kernel
theorem dX10_put_34 : decode cX10_put 34 = .ok (.iload_n 2, 1) := by decide +kernel
theorem dX10_put_35 : decode cX10_put 35 = .ok (.aload_n 0, 1) := by decide +kernel
theorem dX10_put_36 : decode cX10_put 36 = .ok (.getfield 23, 3) := by decide +kernel
theorem dX10_put_39 : decode cX10_put 39 = .ok (.iload_n 1, 1) := by decide +kernel
theorem dX10_put_40 : decode cX10_put 40 = .ok (.aaload, 1) := by decide +kernel
theorem dX10_put_41 : decode cX10_put 41 = .ok (.getfield 236, 3) := by decide +kernel
theorem dX10_put_44 : decode cX10_put 44 = .ok (.invokestatic 86, 3) := by decide +kernel
theorem dX10_put_47 : decode cX10_put 47 = .ok (.ifCond .ne 10, 3) := by decide +kernel
theorem dX10_put_50 : decode cX10_put 50 = .ok (.aload_n 0, 1) := by decide +kernel
theorem dX10_put_51 : decode cX10_put 51 = .ok (.ldc 90, 2) := by decide +kernel
theorem dX10_put_53 : decode cX10_put 53 = .ok (.invokevirtual 91, 3) := by decide +kernel
theorem dX10_put_56 : decode cX10_put 56 = .ok (.ireturn, 1) := by decide +kernel
theorem dX10_put_57 : decode cX10_put 57 = .ok (.aload_n 0, 1) := by decide +kernel
theorem dX10_put_58 : decode cX10_put 58 = .ok (.getfield 23, 3) := by decide +kernel
theorem dX10_put_61 : decode cX10_put 61 = .ok (.iload_n 1, 1) := by decide +kernel
theorem dX10_put_62 : decode cX10_put 62 = .ok (.aaload, 1) := by decide +kernel
theorem dX10_put_63 : decode cX10_put 63 = .ok (.iload_n 2, 1) := by decide +kernel
theorem dX10_put_64 : decode cX10_put 64 = .ok (.iload_n 3, 1) := by decide +kernel
theorem dX10_put_65 : decode cX10_put 65 = .ok (.invokevirtual 257, 3) := by decide +kernel
theorem dX10_put_68 : decode cX10_put 68 = .ok (.iconst 0, 1) := by decide +kernel
theorem dX10_put_69 : decode cX10_put 69 = .ok (.ireturn, 1) := by decide +kernel
theorem dX10_copy_0 : decode cX10_copy 0 = .ok (.iload_n 1, 1) := by decide +kernel
theorem dX10_copy_1 : decode cX10_copy 1 = .ok (.iconst 4, 1) := by decide +kernel
theorem dX10_copy_2 : decode cX10_copy 2 = .ok (.invokestatic 86, 3) := by decide +kernel
theorem dX10_copy_5 : decode cX10_copy 5 = .ok (.ifCond .eq 11, 3) := by decide +kernel
theorem dX10_copy_8 : decode cX10_copy 8 = .ok (.iload_n 3, 1) := by decide +kernel
theorem dX10_copy_9 : decode cX10_copy 9 = .ok (.iconst 4, 1) := by decide +kernel
theorem dX10_copy_10 : decode cX10_copy 10 = .ok (.invokestatic 86, 3) := by decide +kernel
theorem dX10_copy_13 : decode cX10_copy 13 = .ok (.ifCond .ne 10, 3) := by decide +kernel
theorem dX10_copy_16 : decode cX10_copy 16 = .ok (.aload_n 0, 1) := by decide +kernel
theorem dX10_copy_17 : decode cX10_copy 17 = .ok (.ldc 90, 2) := by decide +kernel
theorem dX10_copy_19 : decode cX10_copy 19 = .ok (.invokevirtual 91, 3) := by decide +kernel
theorem dX10_copy_22 : decode cX10_copy 22 = .ok (.ireturn, 1) := by decide +kernel
theorem dX10_copy_23 : decode cX10_copy 23 = .ok (.aload_n 0, 1) := by decide +kernel
theorem dX10_copy_24 : decode cX10_copy 24 = .ok (.getfield 23, 3) := by decide +kernel
theorem dX10_copy_27 : decode cX10_copy 27 = .ok (.iload_n 1, 1) := by decide +kernel
theorem dX10_copy_28 : decode cX10_copy 28 = .ok (.aaload, 1) := by decide +kernel
theorem dX10_copy_29 : decode cX10_copy 29 = .ok (.astore 6, 2) := by decide +kernel
theorem dX10_copy_31 : decode cX10_copy 31 = .ok (.aload_n 0, 1) := by decide +kernel
theorem dX10_copy_32 : decode cX10_copy 32 = .ok (.getfield 23, 3) := by decide +kernel
theorem dX10_copy_35 : decode cX10_copy 35 = .ok (.iload_n 3, 1) := by decide +kernel
theorem dX10_copy_36 : decode cX10_copy 36 = .ok (.aaload, 1) := by decide +kernel
theorem dX10_copy_37 : decode cX10_copy 37 = .ok (.astore 7, 2) := by decide +kernel
theorem dX10_copy_39 : decode cX10_copy 39 = .ok (.aload 6, 2) := by decide +kernel
theorem dX10_copy_41 : decode cX10_copy 41 = .ok (.invokevirtual 231, 3) := by decide +kernel
theorem dX10_copy_44 : decode cX10_copy 44 = .ok (.ifCond .ne 11, 3) := by decide +kernel
theorem dX10_copy_47 : decode cX10_copy 47 = .ok (.aload 7, 2) := by decide +kernel
theorem dX10_copy_49 : decode cX10_copy 49 = .ok (.invokevirtual 231, 3) := by decide +kernel
theorem dX10_copy_52 : decode cX10_copy 52 = .ok (.ifCond .eq 10, 3) := by decide +kernel
theorem dX10_copy_55 : decode cX10_copy 55 = .ok (.aload_n 0, 1) := by decide +kernel
theorem dX10_copy_56 : decode cX10_copy 56 = .ok (.ldc 235, 2) := by decide +kernel
theorem dX10_copy_58 : decode cX10_copy 58 = .ok (.invokevirtual 91, 3) := by decide +kernel
theorem dX10_copy_61 : decode cX10_copy 61 = .ok (.ireturn, 1) := by decide +kernel
theorem dX10_copy_62 : decode cX10_copy 62 = .ok (.aload 6, 2) := by decide +kernel
theorem dX10_copy_64 : decode cX10_copy 64 = .ok (.getfield 260, 3) := by decide +kernel
theorem dX10_copy_67 : decode cX10_copy 67 = .ok (.aload 7, 2) := by decide +kernel
theorem dX10_copy_69 : decode cX10_copy 69 = .ok (.getfield 260, 3) := by decide +kernel
theorem dX10_copy_72 : decode cX10_copy 72 = .ok (.if_icmp .eq 10, 3) := by decide +kernel
theorem dX10_copy_75 : decode cX10_copy 75 = .ok (.aload_n 0, 1) := by decide +kernel
theorem dX10_copy_76 : decode cX10_copy 76 = .ok (.ldc 123, 2) := by decide +kernel
theorem dX10_copy_78 : decode cX10_copy 78 = .ok (.invokevirtual 91, 3) := by decide +kernel
theorem dX10_copy_81 : decode cX10_copy 81 = .ok (.ireturn, 1) := by decide +kernel
theorem dX10_copy_82 : decode cX10_copy 82 = .ok (.aload 6, 2) := by decide +kernel
theorem dX10_copy_84 : decode cX10_copy 84 = .ok (.iload_n 2, 1) := by decide +kernel
theorem dX10_copy_85 : decode cX10_copy 85 = .ok (.iload 5, 2) := by decide +kernel
theorem dX10_copy_87 : decode cX10_copy 87 = .ok (.invokevirtual 263, 3) := by decide +kernel
theorem dX10_copy_90 : decode cX10_copy 90 = .ok (.ifCond .eq 15, 3) := by decide +kernel
theorem dX10_copy_93 : decode cX10_copy 93 = .ok (.aload 7, 2) := by decide +kernel
theorem dX10_copy_95 : decode cX10_copy 95 = .ok (.iload 4, 2) := by decide +kernel
theorem dX10_copy_97 : decode cX10_copy 97 = .ok (.iload 5, 2) := by decide +kernel
theorem dX10_copy_99 : decode cX10_copy 99 = .ok (.invokevirtual 263, 3) := by decide +kernel
theorem dX10_copy_102 : decode cX10_copy 102 = .ok (.ifCond .ne 10, 3) := by decide +kernel
theorem dX10_copy_105 : decode cX10_copy 105 = .ok (.aload_n 0, 1) := by decide +kernel
theorem dX10_copy_106 : decode cX10_copy 106 = .ok (.ldc 90, 2) := by decide +kernel
theorem dX10_copy_108 : decode cX10_copy 108 = .ok (.invokevirtual 91, 3) := by decide +kernel
theorem dX10_copy_111 : decode cX10_copy 111 = .ok (.ireturn, 1) := by decide +kernel
theorem dX10_copy_112 : decode cX10_copy 112 = .ok (.aload 6, 2) := by decide +kernel
theorem dX10_copy_114 : decode cX10_copy 114 = .ok (.getfield 239, 3) := by decide +kernel
theorem dX10_copy_117 : decode cX10_copy 117 = .ok (.iload_n 2, 1) := by decide +kernel
theorem dX10_copy_118 : decode cX10_copy 118 = .ok (.aload 7, 2) := by decide +kernel
theorem dX10_copy_120 : decode cX10_copy 120 = .ok (.getfield 239, 3) := by decide +kernel
theorem dX10_copy_123 : decode cX10_copy 123 = .ok (.iload 4, 2) := by decide +kernel
theorem dX10_copy_125 : decode cX10_copy 125 = .ok (.iload 5, 2) := by decide +kernel
theorem dX10_copy_127 : decode cX10_copy 127 = .ok (.invokestatic 266, 3) := by decide +kernel
theorem dX10_copy_130 : decode cX10_copy 130 = .ok (.iload 5, 2) := by decide +kernel
theorem dX10_copy_132 : decode cX10_copy 132 = .ok (.ireturn, 1) := by decide +kernel
theorem dX10_undo_0 : decode cX10_undo 0 = .ok (.aload_n 0, 1) := by decide +kernel
theorem dX10_undo_1 : decode cX10_undo 1 = .ok (.getfield 65, 3) := by decide +kernel
theorem dX10_undo_4 : decode cX10_undo 4 = .ok (.getfield 272, 3) := by decide +kernel
theorem dX10_undo_7 : decode cX10_undo 7 = .ok (.ifCond .gt 10, 3) := by decide +kernel
theorem dX10_undo_10 : decode cX10_undo 10 = .ok (.aload_n 0, 1) := by decide +kernel
theorem dX10_undo_11 : decode cX10_undo 11 = .ok (.ldc 135, 2) := by decide +kernel
theorem dX10_undo_13 : decode cX10_undo 13 = .ok (.invokevirtual 91, 3) := by decide +kernel
theorem dX10_undo_16 : decode cX10_undo 16 = .ok (.ireturn, 1) := by decide +kernel
theorem dX10_undo_17 : decode cX10_undo 17 = .ok (.aload_n 0, 1) := by decide +kernel
theorem dX10_undo_18 : decode cX10_undo 18 = .ok (.getfield 65, 3) := by decide +kernel
theorem dX10_undo_21 : decode cX10_undo 21 = .ok (.invokevirtual 275, 3) := by decide +kernel
theorem dX10_undo_24 : decode cX10_undo 24 = .ok (.astore_n 1, 1) := by decide +kernel
theorem dX10_undo_25 : decode cX10_undo 25 = .ok (.aload_n 0, 1) := by decide +kernel
theorem dX10_undo_26 : decode cX10_undo 26 = .ok (.getfield 44, 3) := by decide +kernel
theorem dX10_undo_29 : decode cX10_undo 29 = .ok (.iconst 0, 1) := by decide +kernel
theorem dX10_undo_30 : decode cX10_undo 30 = .ok (.putfield 279, 3) := by decide +kernel
theorem dX10_undo_33 : decode cX10_undo 33 = .ok (.aload_n 1, 1) := by decide +kernel
theorem dX10_undo_34 : decode cX10_undo 34 = .ok (.getfield 283, 3) := by decide +kernel
theorem dX10_undo_37 : decode cX10_undo 37 = .ok (.iconst 4, 1) := by decide +kernel
theorem dX10_undo_38 : decode cX10_undo 38 = .ok (.if_icmp .le 12, 3) := by decide +kernel
theorem dX10_undo_41 : decode cX10_undo 41 = .ok (.aload_n 1, 1) := by decide +kernel
theorem dX10_undo_42 : decode cX10_undo 42 = .ok (.getfield 283, 3) := by decide +kernel
theorem dX10_undo_45 : decode cX10_undo 45 = .ok (.bipush 12, 2) := by decide +kernel
theorem dX10_undo_47 : decode cX10_undo 47 = .ok (.if_icmp .ne 11, 3) := by decide +kernel
theorem dX10_undo_50 : decode cX10_undo 50 = .ok (.aload_n 0, 1) := by decide +kernel
theorem dX10_undo_51 : decode cX10_undo 51 = .ok (.aload_n 1, 1) := by decide +kernel
theorem dX10_undo_52 : decode cX10_undo 52 = .ok (.invokevirtual 286, 3) := by decide +kernel
theorem dX10_undo_55 : decode cX10_undo 55 = .ok (.goto 8, 3) := by decide +kernel
theorem dX10_undo_58 : decode cX10_undo 58 = .ok (.aload_n 0, 1) := by decide +kernel
theorem dX10_undo_59 : decode cX10_undo 59 = .ok (.aload_n 1, 1) := by decide +kernel
theorem dX10_undo_60 : decode cX10_undo 60 = .ok (.invokevirtual 290, 3) := by decide +kernel
theorem dX10_undo_63 : decode cX10_undo 63 = .ok (.aload_n 0, 1) := by decide +kernel
theorem dX10_undo_64 : decode cX10_undo 64 = .ok (.getfield 65, 3) := by decide +kernel
theorem dX10_undo_67 : decode cX10_undo 67 = .ok (.getfield 272, 3) := by decide +kernel
theorem dX10_undo_70 : decode cX10_undo 70 = .ok (.ireturn, 1) := by decide +kernel
theorem dX10_all_0 : decode cX10_all 0 = .ok (.iload_n 1, 1) := by decide +kernel
theorem dX10_all_1 : decode cX10_all 1 = .ok (.tableswitch 66 0 4 #[35, 40, 45, 53, 61], 35) := by decide +kernel
theorem dX10_all_36 : decode cX10_all 36 = .ok (.aload_n 0, 1) := by decide +kernel
theorem dX10_all_37 : decode cX10_all 37 = .ok (.getfield 73, 3) := by decide +kernel
theorem dX10_all_40 : decode cX10_all 40 = .ok (.ireturn, 1) := by decide +kernel
theorem dX10_all_41 : decode cX10_all 41 = .ok (.aload_n 0, 1) := by decide +kernel
theorem dX10_all_42 : decode cX10_all 42 = .ok (.getfield 77, 3) := by decide +kernel
theorem dX10_all_45 : decode cX10_all 45 = .ok (.ireturn, 1) := by decide +kernel
theorem dX10_all_46 : decode cX10_all 46 = .ok (.aload_n 0, 1) := by decide +kernel
theorem dX10_all_47 : decode cX10_all 47 = .ok (.getfield 30, 3) := by decide +kernel
theorem dX10_all_50 : decode cX10_all 50 = .ok (.getfield 178, 3) := by decide +kernel
theorem dX10_all_53 : decode cX10_all 53 = .ok (.ireturn, 1) := by decide +kernel
theorem dX10_all_54 : decode cX10_all 54 = .ok (.aload_n 0, 1) := by decide +kernel
theorem dX10_all_55 : decode cX10_all 55 = .ok (.getfield 37, 3) := by decide +kernel
theorem dX10_all_58 : decode cX10_all 58 = .ok (.getfield 209, 3) := by decide +kernel
theorem dX10_all_61 : decode cX10_all 61 = .ok (.ireturn, 1) := by decide +kernel
theorem dX10_all_62 : decode cX10_all 62 = .ok (.aload_n 0, 1) := by decide +kernel
theorem dX10_all_63 : decode cX10_all 63 = .ok (.getfield 80, 3) := by decide +kernel
theorem dX10_all_66 : decode cX10_all 66 = .ok (.ireturn, 1) := by decide +kernel
theorem dX10_all_67 : decode cX10_all 67 = .ok (.aload_n 0, 1) := by decide +kernel
theorem dX10_all_68 : decode cX10_all 68 = .ok (.ldc 90, 2) := by decide +kernel
theorem dX10_all_70 : decode cX10_all 70 = .ok (.invokevirtual 91, 3) := by decide +kernel
theorem dX10_all_73 : decode cX10_all 73 = .ok (.ireturn, 1) := by decide +kernel
theorem dX10_finding_0 : decode cX10_finding 0 = .ok (.aload_n 0, 1) := by decide +kernel
theorem dX10_finding_1 : decode cX10_finding 1 = .ok (.dup, 1) := by decide +kernel
theorem dX10_finding_2 : decode cX10_finding 2 = .ok (.getfield 80, 3) := by decide +kernel
theorem dX10_finding_5 : decode cX10_finding 5 = .ok (.iconst 1, 1) := by decide +kernel
theorem dX10_finding_6 : decode cX10_finding 6 = .ok (.iadd, 1) := by decide +kernel
theorem dX10_finding_7 : decode cX10_finding 7 = .ok (.putfield 80, 3) := by decide +kernel
theorem dX10_finding_10 : decode cX10_finding 10 = .ok (.iload_n 1, 1) := by decide +kernel
theorem dX10_finding_11 : decode cX10_finding 11 = .ok (.ireturn, 1) := by decide +kernel
theorem dX10_within_0 : decode cX10_within 0 = .ok (.iload_n 0, 1) := by decide +kernel
theorem dX10_within_1 : decode cX10_within 1 = .ok (.ifCond .lt 12, 3) := by decide +kernel
theorem dX10_within_4 : decode cX10_within 4 = .ok (.iload_n 0, 1) := by decide +kernel
theorem dX10_within_5 : decode cX10_within 5 = .ok (.iload_n 1, 1) := by decide +kernel
theorem dX10_within_6 : decode cX10_within 6 = .ok (.if_icmp .ge 7, 3) := by decide +kernel
theorem dX10_within_9 : decode cX10_within 9 = .ok (.iconst 1, 1) := by decide +kernel
theorem dX10_within_10 : decode cX10_within 10 = .ok (.goto 4, 3) := by decide +kernel
theorem dX10_within_13 : decode cX10_within 13 = .ok (.iconst 0, 1) := by decide +kernel
theorem dX10_within_14 : decode cX10_within 14 = .ok (.ireturn, 1) := by decide +kernel
theorem dX10_isNoneOrWithin_0 : decode cX10_isNoneOrWithin 0 = .ok (.iload_n 0, 1) := by decide +kernel
theorem dX10_isNoneOrWithin_1 : decode cX10_isNoneOrWithin 1 = .ok (.iconst (-1), 1) := by decide +kernel
theorem dX10_isNoneOrWithin_2 : decode cX10_isNoneOrWithin 2 = .ok (.if_icmp .eq 11, 3) := by decide +kernel
theorem dX10_isNoneOrWithin_5 : decode cX10_isNoneOrWithin 5 = .ok (.iload_n 0, 1) := by decide +kernel
theorem dX10_isNoneOrWithin_6 : decode cX10_isNoneOrWithin 6 = .ok (.iload_n 1, 1) := by decide +kernel
theorem dX10_isNoneOrWithin_7 : decode cX10_isNoneOrWithin 7 = .ok (.invokestatic 86, 3) := by decide +kernel
theorem dX10_isNoneOrWithin_10 : decode cX10_isNoneOrWithin 10 = .ok (.ifCond .eq 7, 3) := by decide +kernel
theorem dX10_isNoneOrWithin_13 : decode cX10_isNoneOrWithin 13 = .ok (.iconst 1, 1) := by decide +kernel
theorem dX10_isNoneOrWithin_14 : decode cX10_isNoneOrWithin 14 = .ok (.goto 4, 3) := by decide +kernel
theorem dX10_isNoneOrWithin_17 : decode cX10_isNoneOrWithin 17 = .ok (.iconst 0, 1) := by decide +kernel
theorem dX10_isNoneOrWithin_18 : decode cX10_isNoneOrWithin 18 = .ok (.ireturn, 1) := by decide +kernel
theorem dX10_isLength_0 : decode cX10_isLength 0 = .ok (.iload_n 0, 1) := by decide +kernel
theorem dX10_isLength_1 : decode cX10_isLength 1 = .ok (.iconst 1, 1) := by decide +kernel
theorem dX10_isLength_2 : decode cX10_isLength 2 = .ok (.if_icmp .lt 13, 3) := by decide +kernel
theorem dX10_isLength_5 : decode cX10_isLength 5 = .ok (.iload_n 0, 1) := by decide +kernel
theorem dX10_isLength_6 : decode cX10_isLength 6 = .ok (.bipush 6, 2) := by decide +kernel
theorem dX10_isLength_8 : decode cX10_isLength 8 = .ok (.if_icmp .gt 7, 3) := by decide +kernel
theorem dX10_isLength_11 : decode cX10_isLength 11 = .ok (.iconst 1, 1) := by decide +kernel
theorem dX10_isLength_12 : decode cX10_isLength 12 = .ok (.goto 4, 3) := by decide +kernel
theorem dX10_isLength_15 : decode cX10_isLength 15 = .ok (.iconst 0, 1) := by decide +kernel
theorem dX10_isLength_16 : decode cX10_isLength 16 = .ok (.ireturn, 1) := by decide +kernel
theorem dX10_isLine_0 : decode cX10_isLine 0 = .ok (.iload_n 1, 1) := by decide +kernel
theorem dX10_isLine_1 : decode cX10_isLine 1 = .ok (.aload_n 0, 1) := by decide +kernel
theorem dX10_isLine_2 : decode cX10_isLine 2 = .ok (.getfield 73, 3) := by decide +kernel
theorem dX10_isLine_5 : decode cX10_isLine 5 = .ok (.invokestatic 86, 3) := by decide +kernel
theorem dX10_isLine_8 : decode cX10_isLine 8 = .ok (.ireturn, 1) := by decide +kernel
theorem dX10_isWording_0 : decode cX10_isWording 0 = .ok (.iload_n 1, 1) := by decide +kernel
theorem dX10_isWording_1 : decode cX10_isWording 1 = .ok (.aload_n 0, 1) := by decide +kernel
theorem dX10_isWording_2 : decode cX10_isWording 2 = .ok (.getfield 77, 3) := by decide +kernel
theorem dX10_isWording_5 : decode cX10_isWording 5 = .ok (.invokestatic 86, 3) := by decide +kernel
theorem dX10_isWording_8 : decode cX10_isWording 8 = .ok (.ireturn, 1) := by decide +kernel
theorem dX10_remember_0 : decode cX10_remember 0 = .ok (.aload_n 0, 1) := by decide +kernel
theorem dX10_remember_1 : decode cX10_remember 1 = .ok (.getfield 44, 3) := by decide +kernel
theorem dX10_remember_4 : decode cX10_remember 4 = .ok (.iconst 0, 1) := by decide +kernel
theorem dX10_remember_5 : decode cX10_remember 5 = .ok (.putfield 279, 3) := by decide +kernel
theorem dX10_remember_8 : decode cX10_remember 8 = .ok (.aload_n 0, 1) := by decide +kernel
theorem dX10_remember_9 : decode cX10_remember 9 = .ok (.getfield 65, 3) := by decide +kernel
theorem dX10_remember_12 : decode cX10_remember 12 = .ok (.iload_n 1, 1) := by decide +kernel
theorem dX10_remember_13 : decode cX10_remember 13 = .ok (.iload_n 2, 1) := by decide +kernel
theorem dX10_remember_14 : decode cX10_remember 14 = .ok (.iload_n 3, 1) := by decide +kernel
theorem dX10_remember_15 : decode cX10_remember 15 = .ok (.invokevirtual 293, 3) := by decide +kernel
theorem dX10_remember_18 : decode cX10_remember 18 = .ok (.areturn, 1) := by decide +kernel
theorem dX10_countWordings_0 : decode cX10_countWordings 0 = .ok (.iconst 0, 1) := by decide +kernel
theorem dX10_countWordings_1 : decode cX10_countWordings 1 = .ok (.istore_n 2, 1) := by decide +kernel
theorem dX10_countWordings_2 : decode cX10_countWordings 2 = .ok (.iconst 0, 1) := by decide +kernel
theorem dX10_countWordings_3 : decode cX10_countWordings 3 = .ok (.istore_n 3, 1) := by decide +kernel
theorem dX10_countWordings_4 : decode cX10_countWordings 4 = .ok (.iload_n 3, 1) := by decide +kernel
theorem dX10_countWordings_5 : decode cX10_countWordings 5 = .ok (.aload_n 0, 1) := by decide +kernel
theorem dX10_countWordings_6 : decode cX10_countWordings 6 = .ok (.getfield 77, 3) := by decide +kernel
theorem dX10_countWordings_9 : decode cX10_countWordings 9 = .ok (.if_icmp .ge 25, 3) := by decide +kernel
theorem dX10_countWordings_12 : decode cX10_countWordings 12 = .ok (.aload_n 0, 1) := by decide +kernel
theorem dX10_countWordings_13 : decode cX10_countWordings 13 = .ok (.getfield 17, 3) := by decide +kernel
theorem dX10_countWordings_16 : decode cX10_countWordings 16 = .ok (.iload_n 3, 1) := by decide +kernel
theorem dX10_countWordings_17 : decode cX10_countWordings 17 = .ok (.aaload, 1) := by decide +kernel
theorem dX10_countWordings_18 : decode cX10_countWordings 18 = .ok (.getfield 142, 3) := by decide +kernel
theorem dX10_countWordings_21 : decode cX10_countWordings 21 = .ok (.iload_n 1, 1) := by decide +kernel
theorem dX10_countWordings_22 : decode cX10_countWordings 22 = .ok (.if_icmp .ne 6, 3) := by decide +kernel
theorem dX10_countWordings_25 : decode cX10_countWordings 25 = .ok (.iinc 2 1, 3) := by decide +kernel
theorem dX10_countWordings_28 : decode cX10_countWordings 28 = .ok (.iinc 3 1, 3) := by decide +kernel
theorem dX10_countWordings_31 : decode cX10_countWordings 31 = .ok (.goto (-27), 3) := by decide +kernel
theorem dX10_countWordings_34 : decode cX10_countWordings 34 = .ok (.iload_n 2, 1) := by decide +kernel
theorem dX10_countWordings_35 : decode cX10_countWordings 35 = .ok (.ireturn, 1) := by decide +kernel
theorem dX10_findFit_0 : decode cX10_findFit 0 = .ok (.aload_n 0, 1) := by decide +kernel
theorem dX10_findFit_1 : decode cX10_findFit 1 = .ok (.getfield 17, 3) := by decide +kernel
theorem dX10_findFit_4 : decode cX10_findFit 4 = .ok (.iload_n 1, 1) := by decide +kernel
theorem dX10_findFit_5 : decode cX10_findFit 5 = .ok (.aaload, 1) := by decide +kernel
theorem dX10_findFit_6 : decode cX10_findFit 6 = .ok (.astore_n 2, 1) := by decide +kernel
theorem dX10_findFit_7 : decode cX10_findFit 7 = .ok (.aload_n 0, 1) := by decide +kernel
theorem dX10_findFit_8 : decode cX10_findFit 8 = .ok (.getfield 51, 3) := by decide +kernel
theorem dX10_findFit_11 : decode cX10_findFit 11 = .ok (.aload_n 2, 1) := by decide +kernel
theorem dX10_findFit_12 : decode cX10_findFit 12 = .ok (.aload_n 0, 1) := by decide +kernel
theorem dX10_findFit_13 : decode cX10_findFit 13 = .ok (.getfield 11, 3) := by decide +kernel
theorem dX10_findFit_16 : decode cX10_findFit 16 = .ok (.aload_n 2, 1) := by decide +kernel
theorem dX10_findFit_17 : decode cX10_findFit 17 = .ok (.getfield 142, 3) := by decide +kernel
theorem dX10_findFit_20 : decode cX10_findFit 20 = .ok (.aaload, 1) := by decide +kernel
theorem dX10_findFit_21 : decode cX10_findFit 21 = .ok (.invokevirtual 295, 3) := by decide +kernel
theorem dX10_findFit_24 : decode cX10_findFit 24 = .ok (.ireturn, 1) := by decide +kernel
theorem dX10_worthOfFit_0 : decode cX10_worthOfFit 0 = .ok (.aload_n 0, 1) := by decide +kernel
theorem dX10_worthOfFit_1 : decode cX10_worthOfFit 1 = .ok (.getfield 17, 3) := by decide +kernel
theorem dX10_worthOfFit_4 : decode cX10_worthOfFit 4 = .ok (.iload_n 1, 1) := by decide +kernel
theorem dX10_worthOfFit_5 : decode cX10_worthOfFit 5 = .ok (.aaload, 1) := by decide +kernel
theorem dX10_worthOfFit_6 : decode cX10_worthOfFit 6 = .ok (.getfield 148, 3) := by decide +kernel
theorem dX10_worthOfFit_9 : decode cX10_worthOfFit 9 = .ok (.aload_n 0, 1) := by decide +kernel
theorem dX10_worthOfFit_10 : decode cX10_worthOfFit 10 = .ok (.getfield 51, 3) := by decide +kernel
theorem dX10_worthOfFit_13 : decode cX10_worthOfFit 13 = .ok (.getfield 160, 3) := by decide +kernel
theorem dX10_worthOfFit_16 : decode cX10_worthOfFit 16 = .ok (.isub, 1) := by decide +kernel
theorem dX10_worthOfFit_17 : decode cX10_worthOfFit 17 = .ok (.ireturn, 1) := by decide +kernel
theorem dX10_findBest_0 : decode cX10_findBest 0 = .ok (.iconst (-1), 1) := by decide +kernel
theorem dX10_findBest_1 : decode cX10_findBest 1 = .ok (.istore 4, 2) := by decide +kernel
theorem dX10_findBest_3 : decode cX10_findBest 3 = .ok (.iconst 0, 1) := by decide +kernel
theorem dX10_findBest_4 : decode cX10_findBest 4 = .ok (.istore 5, 2) := by decide +kernel
theorem dX10_findBest_6 : decode cX10_findBest 6 = .ok (.iconst 0, 1) := by decide +kernel
theorem dX10_findBest_7 : decode cX10_findBest 7 = .ok (.istore 6, 2) := by decide +kernel
theorem dX10_findBest_9 : decode cX10_findBest 9 = .ok (.iload 6, 2) := by decide +kernel
theorem dX10_findBest_11 : decode cX10_findBest 11 = .ok (.aload_n 0, 1) := by decide +kernel
theorem dX10_findBest_12 : decode cX10_findBest 12 = .ok (.getfield 77, 3) := by decide +kernel
theorem dX10_findBest_15 : decode cX10_findBest 15 = .ok (.if_icmp .ge 82, 3) := by decide +kernel
theorem dX10_findBest_18 : decode cX10_findBest 18 = .ok (.aload_n 0, 1) := by decide +kernel
theorem dX10_findBest_19 : decode cX10_findBest 19 = .ok (.getfield 17, 3) := by decide +kernel
theorem dX10_findBest_22 : decode cX10_findBest 22 = .ok (.iload 6, 2) := by decide +kernel
theorem dX10_findBest_24 : decode cX10_findBest 24 = .ok (.aaload, 1) := by decide +kernel
theorem dX10_findBest_25 : decode cX10_findBest 25 = .ok (.getfield 142, 3) := by decide +kernel
theorem dX10_findBest_28 : decode cX10_findBest 28 = .ok (.iload_n 1, 1) := by decide +kernel
theorem dX10_findBest_29 : decode cX10_findBest 29 = .ok (.if_icmp .ne 62, 3) := by decide +kernel
theorem dX10_findBest_32 : decode cX10_findBest 32 = .ok (.aload_n 0, 1) := by decide +kernel
theorem dX10_findBest_33 : decode cX10_findBest 33 = .ok (.getfield 30, 3) := by decide +kernel
theorem dX10_findBest_36 : decode cX10_findBest 36 = .ok (.aload_n 0, 1) := by decide +kernel
theorem dX10_findBest_37 : decode cX10_findBest 37 = .ok (.getfield 17, 3) := by decide +kernel
theorem dX10_findBest_40 : decode cX10_findBest 40 = .ok (.iload 6, 2) := by decide +kernel
theorem dX10_findBest_42 : decode cX10_findBest 42 = .ok (.aaload, 1) := by decide +kernel
theorem dX10_findBest_43 : decode cX10_findBest 43 = .ok (.iload_n 2, 1) := by decide +kernel
theorem dX10_findBest_44 : decode cX10_findBest 44 = .ok (.iload_n 3, 1) := by decide +kernel
theorem dX10_findBest_45 : decode cX10_findBest 45 = .ok (.invokevirtual 190, 3) := by decide +kernel
theorem dX10_findBest_48 : decode cX10_findBest 48 = .ok (.ifCond .eq 43, 3) := by decide +kernel
theorem dX10_findBest_51 : decode cX10_findBest 51 = .ok (.aload_n 0, 1) := by decide +kernel
theorem dX10_findBest_52 : decode cX10_findBest 52 = .ok (.iload 6, 2) := by decide +kernel
theorem dX10_findBest_54 : decode cX10_findBest 54 = .ok (.invokevirtual 157, 3) := by decide +kernel
theorem dX10_findBest_57 : decode cX10_findBest 57 = .ok (.ifCond .ne 6, 3) := by decide +kernel
theorem dX10_findBest_60 : decode cX10_findBest 60 = .ok (.goto 31, 3) := by decide +kernel
theorem dX10_findBest_63 : decode cX10_findBest 63 = .ok (.aload_n 0, 1) := by decide +kernel
theorem dX10_findBest_64 : decode cX10_findBest 64 = .ok (.iload 6, 2) := by decide +kernel
theorem dX10_findBest_66 : decode cX10_findBest 66 = .ok (.invokevirtual 197, 3) := by decide +kernel
theorem dX10_findBest_69 : decode cX10_findBest 69 = .ok (.istore 7, 2) := by decide +kernel
theorem dX10_findBest_71 : decode cX10_findBest 71 = .ok (.iload 4, 2) := by decide +kernel
theorem dX10_findBest_73 : decode cX10_findBest 73 = .ok (.ifCond .lt 10, 3) := by decide +kernel
theorem dX10_findBest_76 : decode cX10_findBest 76 = .ok (.iload 7, 2) := by decide +kernel
theorem dX10_findBest_78 : decode cX10_findBest 78 = .ok (.iload 5, 2) := by decide +kernel
theorem dX10_findBest_80 : decode cX10_findBest 80 = .ok (.if_icmp .le 11, 3) := by decide +kernel
theorem dX10_findBest_83 : decode cX10_findBest 83 = .ok (.iload 6, 2) := by decide +kernel
theorem dX10_findBest_85 : decode cX10_findBest 85 = .ok (.istore 4, 2) := by decide +kernel
theorem dX10_findBest_87 : decode cX10_findBest 87 = .ok (.iload 7, 2) := by decide +kernel
theorem dX10_findBest_89 : decode cX10_findBest 89 = .ok (.istore 5, 2) := by decide +kernel
theorem dX10_findBest_91 : decode cX10_findBest 91 = .ok (.iinc 6 1, 3) := by decide +kernel
theorem dX10_findBest_94 : decode cX10_findBest 94 = .ok (.goto (-85), 3) := by decide +kernel
theorem dX10_findBest_97 : decode cX10_findBest 97 = .ok (.iload 4, 2) := by decide +kernel
theorem dX10_findBest_99 : decode cX10_findBest 99 = .ok (.ireturn, 1) := by decide +kernel
theorem dX10_takeBackOfLines_0 : decode cX10_takeBackOfLines 0 = .ok (.aload_n 1, 1) := by decide +kernel
theorem dX10_takeBackOfLines_1 : decode cX10_takeBackOfLines 1 = .ok (.getfield 283, 3) := by decide +kernel
theorem dX10_takeBackOfLines_4 : decode cX10_takeBackOfLines 4 = .ok (.tableswitch 175 0 12 #[68, 81, 102, 115, 136, 175, 175, 175, 175, 175, 175, 175, 152], 68) := by decide +kernel
theorem dX10_takeBackOfLines_72 : decode cX10_takeBackOfLines 72 = .ok (.aload_n 0, 1) := by decide +kernel
theorem dX10_takeBackOfLines_73 : decode cX10_takeBackOfLines 73 = .ok (.dup, 1) := by decide +kernel
theorem dX10_takeBackOfLines_74 : decode cX10_takeBackOfLines 74 = .ok (.getfield 73, 3) := by decide +kernel
theorem dX10_takeBackOfLines_77 : decode cX10_takeBackOfLines 77 = .ok (.iconst 1, 1) := by decide +kernel
theorem dX10_takeBackOfLines_78 : decode cX10_takeBackOfLines 78 = .ok (.isub, 1) := by decide +kernel
theorem dX10_takeBackOfLines_79 : decode cX10_takeBackOfLines 79 = .ok (.putfield 73, 3) := by decide +kernel
theorem dX10_takeBackOfLines_82 : decode cX10_takeBackOfLines 82 = .ok (.goto 97, 3) := by decide +kernel
theorem dX10_takeBackOfLines_85 : decode cX10_takeBackOfLines 85 = .ok (.aload_n 0, 1) := by decide +kernel
theorem dX10_takeBackOfLines_86 : decode cX10_takeBackOfLines 86 = .ok (.getfield 11, 3) := by decide +kernel
theorem dX10_takeBackOfLines_89 : decode cX10_takeBackOfLines 89 = .ok (.aload_n 1, 1) := by decide +kernel
theorem dX10_takeBackOfLines_90 : decode cX10_takeBackOfLines 90 = .ok (.getfield 299, 3) := by decide +kernel
theorem dX10_takeBackOfLines_93 : decode cX10_takeBackOfLines 93 = .ok (.aaload, 1) := by decide +kernel
theorem dX10_takeBackOfLines_94 : decode cX10_takeBackOfLines 94 = .ok (.dup, 1) := by decide +kernel
theorem dX10_takeBackOfLines_95 : decode cX10_takeBackOfLines 95 = .ok (.getfield 108, 3) := by decide +kernel
theorem dX10_takeBackOfLines_98 : decode cX10_takeBackOfLines 98 = .ok (.iconst 1, 1) := by decide +kernel
theorem dX10_takeBackOfLines_99 : decode cX10_takeBackOfLines 99 = .ok (.isub, 1) := by decide +kernel
theorem dX10_takeBackOfLines_100 : decode cX10_takeBackOfLines 100 = .ok (.putfield 108, 3) := by decide +kernel
theorem dX10_takeBackOfLines_103 : decode cX10_takeBackOfLines 103 = .ok (.goto 76, 3) := by decide +kernel
theorem dX10_takeBackOfLines_106 : decode cX10_takeBackOfLines 106 = .ok (.aload_n 0, 1) := by decide +kernel
theorem dX10_takeBackOfLines_107 : decode cX10_takeBackOfLines 107 = .ok (.dup, 1) := by decide +kernel
theorem dX10_takeBackOfLines_108 : decode cX10_takeBackOfLines 108 = .ok (.getfield 77, 3) := by decide +kernel
theorem dX10_takeBackOfLines_111 : decode cX10_takeBackOfLines 111 = .ok (.iconst 1, 1) := by decide +kernel
theorem dX10_takeBackOfLines_112 : decode cX10_takeBackOfLines 112 = .ok (.isub, 1) := by decide +kernel
theorem dX10_takeBackOfLines_113 : decode cX10_takeBackOfLines 113 = .ok (.putfield 77, 3) := by decide +kernel
theorem dX10_takeBackOfLines_116 : decode cX10_takeBackOfLines 116 = .ok (.goto 63, 3) := by decide +kernel
theorem dX10_takeBackOfLines_119 : decode cX10_takeBackOfLines 119 = .ok (.aload_n 0, 1) := by decide +kernel
theorem dX10_takeBackOfLines_120 : decode cX10_takeBackOfLines 120 = .ok (.getfield 17, 3) := by decide +kernel
theorem dX10_takeBackOfLines_123 : decode cX10_takeBackOfLines 123 = .ok (.aload_n 1, 1) := by decide +kernel
theorem dX10_takeBackOfLines_124 : decode cX10_takeBackOfLines 124 = .ok (.getfield 299, 3) := by decide +kernel
theorem dX10_takeBackOfLines_127 : decode cX10_takeBackOfLines 127 = .ok (.aaload, 1) := by decide +kernel
theorem dX10_takeBackOfLines_128 : decode cX10_takeBackOfLines 128 = .ok (.dup, 1) := by decide +kernel
theorem dX10_takeBackOfLines_129 : decode cX10_takeBackOfLines 129 = .ok (.getfield 128, 3) := by decide +kernel
theorem dX10_takeBackOfLines_132 : decode cX10_takeBackOfLines 132 = .ok (.iconst 1, 1) := by decide +kernel
theorem dX10_takeBackOfLines_133 : decode cX10_takeBackOfLines 133 = .ok (.isub, 1) := by decide +kernel
theorem dX10_takeBackOfLines_134 : decode cX10_takeBackOfLines 134 = .ok (.putfield 128, 3) := by decide +kernel
theorem dX10_takeBackOfLines_137 : decode cX10_takeBackOfLines 137 = .ok (.goto 42, 3) := by decide +kernel
theorem dX10_takeBackOfLines_140 : decode cX10_takeBackOfLines 140 = .ok (.aload_n 1, 1) := by decide +kernel
theorem dX10_takeBackOfLines_141 : decode cX10_takeBackOfLines 141 = .ok (.aload_n 0, 1) := by decide +kernel
theorem dX10_takeBackOfLines_142 : decode cX10_takeBackOfLines 142 = .ok (.getfield 17, 3) := by decide +kernel
theorem dX10_takeBackOfLines_145 : decode cX10_takeBackOfLines 145 = .ok (.aload_n 1, 1) := by decide +kernel
theorem dX10_takeBackOfLines_146 : decode cX10_takeBackOfLines 146 = .ok (.getfield 299, 3) := by decide +kernel
theorem dX10_takeBackOfLines_149 : decode cX10_takeBackOfLines 149 = .ok (.aaload, 1) := by decide +kernel
theorem dX10_takeBackOfLines_150 : decode cX10_takeBackOfLines 150 = .ok (.invokevirtual 302, 3) := by decide +kernel
theorem dX10_takeBackOfLines_153 : decode cX10_takeBackOfLines 153 = .ok (.goto 26, 3) := by decide +kernel
theorem dX10_takeBackOfLines_156 : decode cX10_takeBackOfLines 156 = .ok (.aload_n 0, 1) := by decide +kernel
theorem dX10_takeBackOfLines_157 : decode cX10_takeBackOfLines 157 = .ok (.getfield 11, 3) := by decide +kernel
theorem dX10_takeBackOfLines_160 : decode cX10_takeBackOfLines 160 = .ok (.aload_n 1, 1) := by decide +kernel
theorem dX10_takeBackOfLines_161 : decode cX10_takeBackOfLines 161 = .ok (.getfield 299, 3) := by decide +kernel
theorem dX10_takeBackOfLines_164 : decode cX10_takeBackOfLines 164 = .ok (.aaload, 1) := by decide +kernel
theorem dX10_takeBackOfLines_165 : decode cX10_takeBackOfLines 165 = .ok (.aload_n 1, 1) := by decide +kernel
theorem dX10_takeBackOfLines_166 : decode cX10_takeBackOfLines 166 = .ok (.getfield 305, 3) := by decide +kernel
theorem dX10_takeBackOfLines_169 : decode cX10_takeBackOfLines 169 = .ok (.aload_n 1, 1) := by decide +kernel
theorem dX10_takeBackOfLines_170 : decode cX10_takeBackOfLines 170 = .ok (.getfield 308, 3) := by decide +kernel
theorem dX10_takeBackOfLines_173 : decode cX10_takeBackOfLines 173 = .ok (.invokevirtual 250, 3) := by decide +kernel
theorem dX10_takeBackOfLines_176 : decode cX10_takeBackOfLines 176 = .ok (.goto 3, 3) := by decide +kernel
theorem dX10_takeBackOfLines_179 : decode cX10_takeBackOfLines 179 = .ok (.return_, 1) := by decide +kernel
theorem dX10_takeBackOfOthers_0 : decode cX10_takeBackOfOthers 0 = .ok (.aload_n 1, 1) := by decide +kernel
theorem dX10_takeBackOfOthers_1 : decode cX10_takeBackOfOthers 1 = .ok (.getfield 283, 3) := by decide +kernel
theorem dX10_takeBackOfOthers_4 : decode cX10_takeBackOfOthers 4 = .ok (.tableswitch 166 5 11 #[44, 63, 79, 98, 117, 136, 152], 44) := by decide +kernel
theorem dX10_takeBackOfOthers_48 : decode cX10_takeBackOfOthers 48 = .ok (.aload_n 0, 1) := by decide +kernel
theorem dX10_takeBackOfOthers_49 : decode cX10_takeBackOfOthers 49 = .ok (.getfield 30, 3) := by decide +kernel
theorem dX10_takeBackOfOthers_52 : decode cX10_takeBackOfOthers 52 = .ok (.getfield 175, 3) := by decide +kernel
theorem dX10_takeBackOfOthers_55 : decode cX10_takeBackOfOthers 55 = .ok (.aload_n 1, 1) := by decide +kernel
theorem dX10_takeBackOfOthers_56 : decode cX10_takeBackOfOthers 56 = .ok (.getfield 299, 3) := by decide +kernel
theorem dX10_takeBackOfOthers_59 : decode cX10_takeBackOfOthers 59 = .ok (.aload_n 1, 1) := by decide +kernel
theorem dX10_takeBackOfOthers_60 : decode cX10_takeBackOfOthers 60 = .ok (.getfield 311, 3) := by decide +kernel
theorem dX10_takeBackOfOthers_63 : decode cX10_takeBackOfOthers 63 = .ok (.iastore, 1) := by decide +kernel
theorem dX10_takeBackOfOthers_64 : decode cX10_takeBackOfOthers 64 = .ok (.goto 106, 3) := by decide +kernel
theorem dX10_takeBackOfOthers_67 : decode cX10_takeBackOfOthers 67 = .ok (.aload_n 0, 1) := by decide +kernel
theorem dX10_takeBackOfOthers_68 : decode cX10_takeBackOfOthers 68 = .ok (.getfield 30, 3) := by decide +kernel
theorem dX10_takeBackOfOthers_71 : decode cX10_takeBackOfOthers 71 = .ok (.dup, 1) := by decide +kernel
theorem dX10_takeBackOfOthers_72 : decode cX10_takeBackOfOthers 72 = .ok (.getfield 178, 3) := by decide +kernel
theorem dX10_takeBackOfOthers_75 : decode cX10_takeBackOfOthers 75 = .ok (.iconst 1, 1) := by decide +kernel
theorem dX10_takeBackOfOthers_76 : decode cX10_takeBackOfOthers 76 = .ok (.isub, 1) := by decide +kernel
theorem dX10_takeBackOfOthers_77 : decode cX10_takeBackOfOthers 77 = .ok (.putfield 178, 3) := by decide +kernel
theorem dX10_takeBackOfOthers_80 : decode cX10_takeBackOfOthers 80 = .ok (.goto 90, 3) := by decide +kernel
theorem dX10_takeBackOfOthers_83 : decode cX10_takeBackOfOthers 83 = .ok (.aload_n 0, 1) := by decide +kernel
theorem dX10_takeBackOfOthers_84 : decode cX10_takeBackOfOthers 84 = .ok (.getfield 37, 3) := by decide +kernel
theorem dX10_takeBackOfOthers_87 : decode cX10_takeBackOfOthers 87 = .ok (.getfield 200, 3) := by decide +kernel
theorem dX10_takeBackOfOthers_90 : decode cX10_takeBackOfOthers 90 = .ok (.aload_n 1, 1) := by decide +kernel
theorem dX10_takeBackOfOthers_91 : decode cX10_takeBackOfOthers 91 = .ok (.getfield 299, 3) := by decide +kernel
theorem dX10_takeBackOfOthers_94 : decode cX10_takeBackOfOthers 94 = .ok (.aload_n 1, 1) := by decide +kernel
theorem dX10_takeBackOfOthers_95 : decode cX10_takeBackOfOthers 95 = .ok (.getfield 311, 3) := by decide +kernel
theorem dX10_takeBackOfOthers_98 : decode cX10_takeBackOfOthers 98 = .ok (.iastore, 1) := by decide +kernel
theorem dX10_takeBackOfOthers_99 : decode cX10_takeBackOfOthers 99 = .ok (.goto 71, 3) := by decide +kernel
theorem dX10_takeBackOfOthers_102 : decode cX10_takeBackOfOthers 102 = .ok (.aload_n 0, 1) := by decide +kernel
theorem dX10_takeBackOfOthers_103 : decode cX10_takeBackOfOthers 103 = .ok (.getfield 37, 3) := by decide +kernel
theorem dX10_takeBackOfOthers_106 : decode cX10_takeBackOfOthers 106 = .ok (.getfield 203, 3) := by decide +kernel
theorem dX10_takeBackOfOthers_109 : decode cX10_takeBackOfOthers 109 = .ok (.aload_n 1, 1) := by decide +kernel
theorem dX10_takeBackOfOthers_110 : decode cX10_takeBackOfOthers 110 = .ok (.getfield 299, 3) := by decide +kernel
theorem dX10_takeBackOfOthers_113 : decode cX10_takeBackOfOthers 113 = .ok (.aload_n 1, 1) := by decide +kernel
theorem dX10_takeBackOfOthers_114 : decode cX10_takeBackOfOthers 114 = .ok (.getfield 311, 3) := by decide +kernel
theorem dX10_takeBackOfOthers_117 : decode cX10_takeBackOfOthers 117 = .ok (.iastore, 1) := by decide +kernel
theorem dX10_takeBackOfOthers_118 : decode cX10_takeBackOfOthers 118 = .ok (.goto 52, 3) := by decide +kernel
theorem dX10_takeBackOfOthers_121 : decode cX10_takeBackOfOthers 121 = .ok (.aload_n 0, 1) := by decide +kernel
theorem dX10_takeBackOfOthers_122 : decode cX10_takeBackOfOthers 122 = .ok (.getfield 37, 3) := by decide +kernel
theorem dX10_takeBackOfOthers_125 : decode cX10_takeBackOfOthers 125 = .ok (.getfield 206, 3) := by decide +kernel
theorem dX10_takeBackOfOthers_128 : decode cX10_takeBackOfOthers 128 = .ok (.aload_n 1, 1) := by decide +kernel
theorem dX10_takeBackOfOthers_129 : decode cX10_takeBackOfOthers 129 = .ok (.getfield 299, 3) := by decide +kernel
theorem dX10_takeBackOfOthers_132 : decode cX10_takeBackOfOthers 132 = .ok (.aload_n 1, 1) := by decide +kernel
theorem dX10_takeBackOfOthers_133 : decode cX10_takeBackOfOthers 133 = .ok (.getfield 311, 3) := by decide +kernel
theorem dX10_takeBackOfOthers_136 : decode cX10_takeBackOfOthers 136 = .ok (.iastore, 1) := by decide +kernel
theorem dX10_takeBackOfOthers_137 : decode cX10_takeBackOfOthers 137 = .ok (.goto 33, 3) := by decide +kernel
theorem dX10_takeBackOfOthers_140 : decode cX10_takeBackOfOthers 140 = .ok (.aload_n 0, 1) := by decide +kernel
theorem dX10_takeBackOfOthers_141 : decode cX10_takeBackOfOthers 141 = .ok (.getfield 37, 3) := by decide +kernel
theorem dX10_takeBackOfOthers_144 : decode cX10_takeBackOfOthers 144 = .ok (.dup, 1) := by decide +kernel
theorem dX10_takeBackOfOthers_145 : decode cX10_takeBackOfOthers 145 = .ok (.getfield 209, 3) := by decide +kernel
theorem dX10_takeBackOfOthers_148 : decode cX10_takeBackOfOthers 148 = .ok (.iconst 1, 1) := by decide +kernel
theorem dX10_takeBackOfOthers_149 : decode cX10_takeBackOfOthers 149 = .ok (.isub, 1) := by decide +kernel
theorem dX10_takeBackOfOthers_150 : decode cX10_takeBackOfOthers 150 = .ok (.putfield 209, 3) := by decide +kernel
theorem dX10_takeBackOfOthers_153 : decode cX10_takeBackOfOthers 153 = .ok (.goto 17, 3) := by decide +kernel
theorem dX10_takeBackOfOthers_156 : decode cX10_takeBackOfOthers 156 = .ok (.aload_n 0, 1) := by decide +kernel
theorem dX10_takeBackOfOthers_157 : decode cX10_takeBackOfOthers 157 = .ok (.getfield 37, 3) := by decide +kernel
theorem dX10_takeBackOfOthers_160 : decode cX10_takeBackOfOthers 160 = .ok (.aload_n 1, 1) := by decide +kernel
theorem dX10_takeBackOfOthers_161 : decode cX10_takeBackOfOthers 161 = .ok (.getfield 311, 3) := by decide +kernel
theorem dX10_takeBackOfOthers_164 : decode cX10_takeBackOfOthers 164 = .ok (.invokevirtual 212, 3) := by decide +kernel
theorem dX10_takeBackOfOthers_167 : decode cX10_takeBackOfOthers 167 = .ok (.goto 3, 3) := by decide +kernel
theorem dX10_takeBackOfOthers_170 : decode cX10_takeBackOfOthers 170 = .ok (.return_, 1) := by decide +kernel
