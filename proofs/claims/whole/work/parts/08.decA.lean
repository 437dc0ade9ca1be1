theorem dX0_init_0 : decode cX0_init 0 = .ok (.aload_n 0, 1) := by decide +kernel
theorem dX0_init_1 : decode cX0_init 1 = .ok (.invokespecial 3, 3) := by decide +kernel
theorem dX0_init_4 : decode cX0_init 4 = .ok (.aload_n 0, 1) := by decide +kernel
theorem dX0_init_5 : decode cX0_init 5 = .ok (.bipush 24, 2) := by decide +kernel
theorem dX0_init_7 : decode cX0_init 7 = .ok (.newarray .int, 2) := by decide +kernel
theorem dX0_init_9 : decode cX0_init 9 = .ok (.putfield 9, 3) := by decide +kernel
theorem dX0_init_12 : decode cX0_init 12 = .ok (.aload_n 0, 1) := by decide +kernel
theorem dX0_init_13 : decode cX0_init 13 = .ok (.iconst 0, 1) := by decide +kernel
theorem dX0_init_14 : decode cX0_init 14 = .ok (.putfield 15, 3) := by decide +kernel
theorem dX0_init_17 : decode cX0_init 17 = .ok (.aload_n 0, 1) := by decide +kernel
theorem dX0_init_18 : decode cX0_init 18 = .ok (.iconst 0, 1) := by decide +kernel
theorem dX0_init_19 : decode cX0_init 19 = .ok (.putfield 19, 3) := by decide +kernel
theorem dX0_init_22 : decode cX0_init 22 = .ok (.aload_n 0, 1) := by decide +kernel
theorem dX0_init_23 : decode cX0_init 23 = .ok (.iconst 0, 1) := by decide +kernel
theorem dX0_init_24 : decode cX0_init 24 = .ok (.putfield 22, 3) := by decide +kernel
theorem dX0_init_27 : decode cX0_init 27 = .ok (.aload_n 0, 1) := by decide +kernel
theorem dX0_init_28 : decode cX0_init 28 = .ok (.iconst 0, 1) := by decide +kernel
theorem dX0_init_29 : decode cX0_init 29 = .ok (.putfield 25, 3) := by decide +kernel
theorem dX0_init_32 : decode cX0_init 32 = .ok (.return_, 1) := by decide +kernel
theorem dX0_keepFrames_0 : decode cX0_keepFrames 0 = .ok (.aload_n 1, 1) := by decide +kernel
theorem dX0_keepFrames_1 : decode cX0_keepFrames 1 = .ok (.getfield 28, 3) := by decide +kernel
theorem dX0_keepFrames_4 : decode cX0_keepFrames 4 = .ok (.iconst 0, 1) := by decide +kernel
theorem dX0_keepFrames_5 : decode cX0_keepFrames 5 = .ok (.aload_n 0, 1) := by decide +kernel
theorem dX0_keepFrames_6 : decode cX0_keepFrames 6 = .ok (.getfield 9, 3) := by decide +kernel
theorem dX0_keepFrames_9 : decode cX0_keepFrames 9 = .ok (.iconst 0, 1) := by decide +kernel
theorem dX0_keepFrames_10 : decode cX0_keepFrames 10 = .ok (.aload_n 1, 1) := by decide +kernel
theorem dX0_keepFrames_11 : decode cX0_keepFrames 11 = .ok (.getfield 33, 3) := by decide +kernel
theorem dX0_keepFrames_14 : decode cX0_keepFrames 14 = .ok (.invokestatic 36, 3) := by decide +kernel
theorem dX0_keepFrames_17 : decode cX0_keepFrames 17 = .ok (.aload_n 0, 1) := by decide +kernel
theorem dX0_keepFrames_18 : decode cX0_keepFrames 18 = .ok (.aload_n 1, 1) := by decide +kernel
theorem dX0_keepFrames_19 : decode cX0_keepFrames 19 = .ok (.getfield 33, 3) := by decide +kernel
theorem dX0_keepFrames_22 : decode cX0_keepFrames 22 = .ok (.putfield 15, 3) := by decide +kernel
theorem dX0_keepFrames_25 : decode cX0_keepFrames 25 = .ok (.return_, 1) := by decide +kernel
theorem dX0_keepSyllable_0 : decode cX0_keepSyllable 0 = .ok (.aload_n 1, 1) := by decide +kernel
theorem dX0_keepSyllable_1 : decode cX0_keepSyllable 1 = .ok (.getfield 42, 3) := by decide +kernel
theorem dX0_keepSyllable_4 : decode cX0_keepSyllable 4 = .ok (.istore_n 2, 1) := by decide +kernel
theorem dX0_keepSyllable_5 : decode cX0_keepSyllable 5 = .ok (.aload_n 0, 1) := by decide +kernel
theorem dX0_keepSyllable_6 : decode cX0_keepSyllable 6 = .ok (.getfield 9, 3) := by decide +kernel
theorem dX0_keepSyllable_9 : decode cX0_keepSyllable 9 = .ok (.iconst 0, 1) := by decide +kernel
theorem dX0_keepSyllable_10 : decode cX0_keepSyllable 10 = .ok (.aload_n 1, 1) := by decide +kernel
theorem dX0_keepSyllable_11 : decode cX0_keepSyllable 11 = .ok (.getfield 47, 3) := by decide +kernel
theorem dX0_keepSyllable_14 : decode cX0_keepSyllable 14 = .ok (.iload_n 2, 1) := by decide +kernel
theorem dX0_keepSyllable_15 : decode cX0_keepSyllable 15 = .ok (.iaload, 1) := by decide +kernel
theorem dX0_keepSyllable_16 : decode cX0_keepSyllable 16 = .ok (.iastore, 1) := by decide +kernel
theorem dX0_keepSyllable_17 : decode cX0_keepSyllable 17 = .ok (.aload_n 0, 1) := by decide +kernel
theorem dX0_keepSyllable_18 : decode cX0_keepSyllable 18 = .ok (.getfield 9, 3) := by decide +kernel
theorem dX0_keepSyllable_21 : decode cX0_keepSyllable 21 = .ok (.iconst 1, 1) := by decide +kernel
theorem dX0_keepSyllable_22 : decode cX0_keepSyllable 22 = .ok (.aload_n 1, 1) := by decide +kernel
theorem dX0_keepSyllable_23 : decode cX0_keepSyllable 23 = .ok (.getfield 48, 3) := by decide +kernel
theorem dX0_keepSyllable_26 : decode cX0_keepSyllable 26 = .ok (.iload_n 2, 1) := by decide +kernel
theorem dX0_keepSyllable_27 : decode cX0_keepSyllable 27 = .ok (.iaload, 1) := by decide +kernel
theorem dX0_keepSyllable_28 : decode cX0_keepSyllable 28 = .ok (.iastore, 1) := by decide +kernel
theorem dX0_keepSyllable_29 : decode cX0_keepSyllable 29 = .ok (.aload_n 0, 1) := by decide +kernel
theorem dX0_keepSyllable_30 : decode cX0_keepSyllable 30 = .ok (.getfield 9, 3) := by decide +kernel
theorem dX0_keepSyllable_33 : decode cX0_keepSyllable 33 = .ok (.iconst 2, 1) := by decide +kernel
theorem dX0_keepSyllable_34 : decode cX0_keepSyllable 34 = .ok (.aload_n 1, 1) := by decide +kernel
theorem dX0_keepSyllable_35 : decode cX0_keepSyllable 35 = .ok (.getfield 51, 3) := by decide +kernel
theorem dX0_keepSyllable_38 : decode cX0_keepSyllable 38 = .ok (.iload_n 2, 1) := by decide +kernel
theorem dX0_keepSyllable_39 : decode cX0_keepSyllable 39 = .ok (.iaload, 1) := by decide +kernel
theorem dX0_keepSyllable_40 : decode cX0_keepSyllable 40 = .ok (.iastore, 1) := by decide +kernel
theorem dX0_keepSyllable_41 : decode cX0_keepSyllable 41 = .ok (.aload_n 0, 1) := by decide +kernel
theorem dX0_keepSyllable_42 : decode cX0_keepSyllable 42 = .ok (.getfield 9, 3) := by decide +kernel
theorem dX0_keepSyllable_45 : decode cX0_keepSyllable 45 = .ok (.iconst 3, 1) := by decide +kernel
theorem dX0_keepSyllable_46 : decode cX0_keepSyllable 46 = .ok (.aload_n 1, 1) := by decide +kernel
theorem dX0_keepSyllable_47 : decode cX0_keepSyllable 47 = .ok (.getfield 54, 3) := by decide +kernel
theorem dX0_keepSyllable_50 : decode cX0_keepSyllable 50 = .ok (.iload_n 2, 1) := by decide +kernel
theorem dX0_keepSyllable_51 : decode cX0_keepSyllable 51 = .ok (.iaload, 1) := by decide +kernel
theorem dX0_keepSyllable_52 : decode cX0_keepSyllable 52 = .ok (.iastore, 1) := by decide +kernel
theorem dX0_keepSyllable_53 : decode cX0_keepSyllable 53 = .ok (.return_, 1) := by decide +kernel
theorem dX0_giveSyllableBack_0 : decode cX0_giveSyllableBack 0 = .ok (.aload_n 1, 1) := by decide +kernel
theorem dX0_giveSyllableBack_1 : decode cX0_giveSyllableBack 1 = .ok (.aload_n 0, 1) := by decide +kernel
theorem dX0_giveSyllableBack_2 : decode cX0_giveSyllableBack 2 = .ok (.getfield 9, 3) := by decide +kernel
theorem dX0_giveSyllableBack_5 : decode cX0_giveSyllableBack 5 = .ok (.iconst 0, 1) := by decide +kernel
theorem dX0_giveSyllableBack_6 : decode cX0_giveSyllableBack 6 = .ok (.iaload, 1) := by decide +kernel
theorem dX0_giveSyllableBack_7 : decode cX0_giveSyllableBack 7 = .ok (.aload_n 0, 1) := by decide +kernel
theorem dX0_giveSyllableBack_8 : decode cX0_giveSyllableBack 8 = .ok (.getfield 9, 3) := by decide +kernel
theorem dX0_giveSyllableBack_11 : decode cX0_giveSyllableBack 11 = .ok (.iconst 1, 1) := by decide +kernel
theorem dX0_giveSyllableBack_12 : decode cX0_giveSyllableBack 12 = .ok (.iaload, 1) := by decide +kernel
theorem dX0_giveSyllableBack_13 : decode cX0_giveSyllableBack 13 = .ok (.aload_n 0, 1) := by decide +kernel
theorem dX0_giveSyllableBack_14 : decode cX0_giveSyllableBack 14 = .ok (.getfield 9, 3) := by decide +kernel
theorem dX0_giveSyllableBack_17 : decode cX0_giveSyllableBack 17 = .ok (.iconst 2, 1) := by decide +kernel
theorem dX0_giveSyllableBack_18 : decode cX0_giveSyllableBack 18 = .ok (.iaload, 1) := by decide +kernel
theorem dX0_giveSyllableBack_19 : decode cX0_giveSyllableBack 19 = .ok (.aload_n 0, 1) := by decide +kernel
theorem dX0_giveSyllableBack_20 : decode cX0_giveSyllableBack 20 = .ok (.getfield 9, 3) := by decide +kernel
theorem dX0_giveSyllableBack_23 : decode cX0_giveSyllableBack 23 = .ok (.iconst 3, 1) := by decide +kernel
theorem dX0_giveSyllableBack_24 : decode cX0_giveSyllableBack 24 = .ok (.iaload, 1) := by decide +kernel
theorem dX0_giveSyllableBack_25 : decode cX0_giveSyllableBack 25 = .ok (.invokevirtual 57, 3) := by decide +kernel
theorem dX0_giveSyllableBack_28 : decode cX0_giveSyllableBack 28 = .ok (.return_, 1) := by decide +kernel
theorem dX1_init_0 : decode cX1_init 0 = .ok (.aload_n 0, 1) := by decide +kernel
theorem dX1_init_1 : decode cX1_init 1 = .ok (.invokespecial 3, 3) := by decide +kernel
theorem dX1_init_4 : decode cX1_init 4 = .ok (.aload_n 0, 1) := by decide +kernel
theorem dX1_init_5 : decode cX1_init 5 = .ok (.bipush 6, 2) := by decide +kernel
theorem dX1_init_7 : decode cX1_init 7 = .ok (.newarray .int, 2) := by decide +kernel
theorem dX1_init_9 : decode cX1_init 9 = .ok (.putfield 9, 3) := by decide +kernel
theorem dX1_init_12 : decode cX1_init 12 = .ok (.aload_n 0, 1) := by decide +kernel
theorem dX1_init_13 : decode cX1_init 13 = .ok (.bipush 8, 2) := by decide +kernel
theorem dX1_init_15 : decode cX1_init 15 = .ok (.newarray .int, 2) := by decide +kernel
theorem dX1_init_17 : decode cX1_init 17 = .ok (.putfield 15, 3) := by decide +kernel
theorem dX1_init_20 : decode cX1_init 20 = .ok (.aload_n 0, 1) := by decide +kernel
theorem dX1_init_21 : decode cX1_init 21 = .ok (.iconst 4, 1) := by decide +kernel
theorem dX1_init_22 : decode cX1_init 22 = .ok (.newarray .int, 2) := by decide +kernel
theorem dX1_init_24 : decode cX1_init 24 = .ok (.putfield 18, 3) := by decide +kernel
theorem dX1_init_27 : decode cX1_init 27 = .ok (.aload_n 0, 1) := by decide +kernel
theorem dX1_init_28 : decode cX1_init 28 = .ok (.bipush 7, 2) := by decide +kernel
theorem dX1_init_30 : decode cX1_init 30 = .ok (.newarray .int, 2) := by decide +kernel
theorem dX1_init_32 : decode cX1_init 32 = .ok (.putfield 21, 3) := by decide +kernel
theorem dX1_init_35 : decode cX1_init 35 = .ok (.aload_n 0, 1) := by decide +kernel
theorem dX1_init_36 : decode cX1_init 36 = .ok (.iconst 0, 1) := by decide +kernel
theorem dX1_init_37 : decode cX1_init 37 = .ok (.putfield 24, 3) := by decide +kernel
theorem dX1_init_40 : decode cX1_init 40 = .ok (.iconst 0, 1) := by decide +kernel
theorem dX1_init_41 : decode cX1_init 41 = .ok (.istore_n 1, 1) := by decide +kernel
theorem dX1_init_42 : decode cX1_init 42 = .ok (.iload_n 1, 1) := by decide +kernel
theorem dX1_init_43 : decode cX1_init 43 = .ok (.bipush 6, 2) := by decide +kernel
theorem dX1_init_45 : decode cX1_init 45 = .ok (.if_icmp .ge 16, 3) := by decide +kernel
theorem dX1_init_48 : decode cX1_init 48 = .ok (.aload_n 0, 1) := by decide +kernel
theorem dX1_init_49 : decode cX1_init 49 = .ok (.getfield 9, 3) := by decide +kernel
theorem dX1_init_52 : decode cX1_init 52 = .ok (.iload_n 1, 1) := by decide +kernel
theorem dX1_init_53 : decode cX1_init 53 = .ok (.iconst (-1), 1) := by decide +kernel
theorem dX1_init_54 : decode cX1_init 54 = .ok (.iastore, 1) := by decide +kernel
theorem dX1_init_55 : decode cX1_init 55 = .ok (.iinc 1 1, 3) := by decide +kernel
theorem dX1_init_58 : decode cX1_init 58 = .ok (.goto (-16), 3) := by decide +kernel
theorem dX1_init_61 : decode cX1_init 61 = .ok (.iconst 0, 1) := by decide +kernel
theorem dX1_init_62 : decode cX1_init 62 = .ok (.istore_n 1, 1) := by decide +kernel
theorem dX1_init_63 : decode cX1_init 63 = .ok (.iload_n 1, 1) := by decide +kernel
theorem dX1_init_64 : decode cX1_init 64 = .ok (.bipush 8, 2) := by decide +kernel
theorem dX1_init_66 : decode cX1_init 66 = .ok (.if_icmp .ge 17, 3) := by decide +kernel
theorem dX1_init_69 : decode cX1_init 69 = .ok (.aload_n 0, 1) := by decide +kernel
theorem dX1_init_70 : decode cX1_init 70 = .ok (.getfield 15, 3) := by decide +kernel
theorem dX1_init_73 : decode cX1_init 73 = .ok (.iload_n 1, 1) := by decide +kernel
theorem dX1_init_74 : decode cX1_init 74 = .ok (.bipush 15, 2) := by decide +kernel
theorem dX1_init_76 : decode cX1_init 76 = .ok (.iastore, 1) := by decide +kernel
theorem dX1_init_77 : decode cX1_init 77 = .ok (.iinc 1 1, 3) := by decide +kernel
theorem dX1_init_80 : decode cX1_init 80 = .ok (.goto (-17), 3) := by decide +kernel
theorem dX1_init_83 : decode cX1_init 83 = .ok (.iconst 0, 1) := by decide +kernel
theorem dX1_init_84 : decode cX1_init 84 = .ok (.istore_n 1, 1) := by decide +kernel
theorem dX1_init_85 : decode cX1_init 85 = .ok (.iload_n 1, 1) := by decide +kernel
theorem dX1_init_86 : decode cX1_init 86 = .ok (.iconst 4, 1) := by decide +kernel
theorem dX1_init_87 : decode cX1_init 87 = .ok (.if_icmp .ge 17, 3) := by decide +kernel
theorem dX1_init_90 : decode cX1_init 90 = .ok (.aload_n 0, 1) := by decide +kernel
theorem dX1_init_91 : decode cX1_init 91 = .ok (.getfield 18, 3) := by decide +kernel
theorem dX1_init_94 : decode cX1_init 94 = .ok (.iload_n 1, 1) := by decide +kernel
theorem dX1_init_95 : decode cX1_init 95 = .ok (.bipush 60, 2) := by decide +kernel
theorem dX1_init_97 : decode cX1_init 97 = .ok (.iastore, 1) := by decide +kernel
theorem dX1_init_98 : decode cX1_init 98 = .ok (.iinc 1 1, 3) := by decide +kernel
theorem dX1_init_101 : decode cX1_init 101 = .ok (.goto (-16), 3) := by decide +kernel
theorem dX1_init_104 : decode cX1_init 104 = .ok (.return_, 1) := by decide +kernel
theorem dX1_appendLoop_0 : decode cX1_appendLoop 0 = .ok (.aload_n 0, 1) := by decide +kernel
theorem dX1_appendLoop_1 : decode cX1_appendLoop 1 = .ok (.getfield 21, 3) := by decide +kernel
theorem dX1_appendLoop_4 : decode cX1_appendLoop 4 = .ok (.aload_n 0, 1) := by decide +kernel
theorem dX1_appendLoop_5 : decode cX1_appendLoop 5 = .ok (.getfield 24, 3) := by decide +kernel
theorem dX1_appendLoop_8 : decode cX1_appendLoop 8 = .ok (.iload_n 1, 1) := by decide +kernel
theorem dX1_appendLoop_9 : decode cX1_appendLoop 9 = .ok (.iastore, 1) := by decide +kernel
theorem dX1_appendLoop_10 : decode cX1_appendLoop 10 = .ok (.aload_n 0, 1) := by decide +kernel
theorem dX1_appendLoop_11 : decode cX1_appendLoop 11 = .ok (.dup, 1) := by decide +kernel
theorem dX1_appendLoop_12 : decode cX1_appendLoop 12 = .ok (.getfield 24, 3) := by decide +kernel
theorem dX1_appendLoop_15 : decode cX1_appendLoop 15 = .ok (.iconst 1, 1) := by decide +kernel
theorem dX1_appendLoop_16 : decode cX1_appendLoop 16 = .ok (.iadd, 1) := by decide +kernel
theorem dX1_appendLoop_17 : decode cX1_appendLoop 17 = .ok (.putfield 24, 3) := by decide +kernel
theorem dX1_appendLoop_20 : decode cX1_appendLoop 20 = .ok (.return_, 1) := by decide +kernel
theorem dX1_actorsOfLoop_0 : decode cX1_actorsOfLoop 0 = .ok (.iconst 0, 1) := by decide +kernel
theorem dX1_actorsOfLoop_1 : decode cX1_actorsOfLoop 1 = .ok (.istore_n 3, 1) := by decide +kernel
theorem dX1_actorsOfLoop_2 : decode cX1_actorsOfLoop 2 = .ok (.iconst 0, 1) := by decide +kernel
theorem dX1_actorsOfLoop_3 : decode cX1_actorsOfLoop 3 = .ok (.istore 4, 2) := by decide +kernel
theorem dX1_actorsOfLoop_5 : decode cX1_actorsOfLoop 5 = .ok (.iload 4, 2) := by decide +kernel
theorem dX1_actorsOfLoop_7 : decode cX1_actorsOfLoop 7 = .ok (.bipush 12, 2) := by decide +kernel
theorem dX1_actorsOfLoop_9 : decode cX1_actorsOfLoop 9 = .ok (.if_icmp .ge 50, 3) := by decide +kernel
theorem dX1_actorsOfLoop_12 : decode cX1_actorsOfLoop 12 = .ok (.aload_n 0, 1) := by decide +kernel
theorem dX1_actorsOfLoop_13 : decode cX1_actorsOfLoop 13 = .ok (.getfield 9, 3) := by decide +kernel
theorem dX1_actorsOfLoop_16 : decode cX1_actorsOfLoop 16 = .ok (.aload_n 2, 1) := by decide +kernel
theorem dX1_actorsOfLoop_17 : decode cX1_actorsOfLoop 17 = .ok (.iload 4, 2) := by decide +kernel
theorem dX1_actorsOfLoop_19 : decode cX1_actorsOfLoop 19 = .ok (.aaload, 1) := by decide +kernel
theorem dX1_actorsOfLoop_20 : decode cX1_actorsOfLoop 20 = .ok (.getfield 28, 3) := by decide +kernel
theorem dX1_actorsOfLoop_23 : decode cX1_actorsOfLoop 23 = .ok (.iaload, 1) := by decide +kernel
theorem dX1_actorsOfLoop_24 : decode cX1_actorsOfLoop 24 = .ok (.istore 5, 2) := by decide +kernel
theorem dX1_actorsOfLoop_26 : decode cX1_actorsOfLoop 26 = .ok (.aload_n 0, 1) := by decide +kernel
theorem dX1_actorsOfLoop_27 : decode cX1_actorsOfLoop 27 = .ok (.getfield 21, 3) := by decide +kernel
theorem dX1_actorsOfLoop_30 : decode cX1_actorsOfLoop 30 = .ok (.iload_n 1, 1) := by decide +kernel
theorem dX1_actorsOfLoop_31 : decode cX1_actorsOfLoop 31 = .ok (.iaload, 1) := by decide +kernel
theorem dX1_actorsOfLoop_32 : decode cX1_actorsOfLoop 32 = .ok (.iload 4, 2) := by decide +kernel
theorem dX1_actorsOfLoop_34 : decode cX1_actorsOfLoop 34 = .ok (.ishr, 1) := by decide +kernel
theorem dX1_actorsOfLoop_35 : decode cX1_actorsOfLoop 35 = .ok (.iconst 1, 1) := by decide +kernel
theorem dX1_actorsOfLoop_36 : decode cX1_actorsOfLoop 36 = .ok (.iand, 1) := by decide +kernel
theorem dX1_actorsOfLoop_37 : decode cX1_actorsOfLoop 37 = .ok (.iconst 1, 1) := by decide +kernel
theorem dX1_actorsOfLoop_38 : decode cX1_actorsOfLoop 38 = .ok (.if_icmp .ne 15, 3) := by decide +kernel
theorem dX1_actorsOfLoop_41 : decode cX1_actorsOfLoop 41 = .ok (.iload 5, 2) := by decide +kernel
theorem dX1_actorsOfLoop_43 : decode cX1_actorsOfLoop 43 = .ok (.ifCond .lt 10, 3) := by decide +kernel
theorem dX1_actorsOfLoop_46 : decode cX1_actorsOfLoop 46 = .ok (.iload_n 3, 1) := by decide +kernel
theorem dX1_actorsOfLoop_47 : decode cX1_actorsOfLoop 47 = .ok (.iconst 1, 1) := by decide +kernel
theorem dX1_actorsOfLoop_48 : decode cX1_actorsOfLoop 48 = .ok (.iload 5, 2) := by decide +kernel
theorem dX1_actorsOfLoop_50 : decode cX1_actorsOfLoop 50 = .ok (.ishl, 1) := by decide +kernel
theorem dX1_actorsOfLoop_51 : decode cX1_actorsOfLoop 51 = .ok (.ior, 1) := by decide +kernel
theorem dX1_actorsOfLoop_52 : decode cX1_actorsOfLoop 52 = .ok (.istore_n 3, 1) := by decide +kernel
theorem dX1_actorsOfLoop_53 : decode cX1_actorsOfLoop 53 = .ok (.iinc 4 1, 3) := by decide +kernel
theorem dX1_actorsOfLoop_56 : decode cX1_actorsOfLoop 56 = .ok (.goto (-51), 3) := by decide +kernel
theorem dX1_actorsOfLoop_59 : decode cX1_actorsOfLoop 59 = .ok (.iload_n 3, 1) := by decide +kernel
theorem dX1_actorsOfLoop_60 : decode cX1_actorsOfLoop 60 = .ok (.ireturn, 1) := by decide +kernel
theorem dX1_daysOfActors_0 : decode cX1_daysOfActors 0 = .ok (.bipush 15, 2) := by decide +kernel
theorem dX1_daysOfActors_2 : decode cX1_daysOfActors 2 = .ok (.istore_n 2, 1) := by decide +kernel
theorem dX1_daysOfActors_3 : decode cX1_daysOfActors 3 = .ok (.iconst 0, 1) := by decide +kernel
theorem dX1_daysOfActors_4 : decode cX1_daysOfActors 4 = .ok (.istore_n 3, 1) := by decide +kernel
theorem dX1_daysOfActors_5 : decode cX1_daysOfActors 5 = .ok (.iload_n 3, 1) := by decide +kernel
theorem dX1_daysOfActors_6 : decode cX1_daysOfActors 6 = .ok (.bipush 8, 2) := by decide +kernel
theorem dX1_daysOfActors_8 : decode cX1_daysOfActors 8 = .ok (.if_icmp .ge 27, 3) := by decide +kernel
theorem dX1_daysOfActors_11 : decode cX1_daysOfActors 11 = .ok (.iload_n 1, 1) := by decide +kernel
theorem dX1_daysOfActors_12 : decode cX1_daysOfActors 12 = .ok (.iload_n 3, 1) := by decide +kernel
theorem dX1_daysOfActors_13 : decode cX1_daysOfActors 13 = .ok (.ishr, 1) := by decide +kernel
theorem dX1_daysOfActors_14 : decode cX1_daysOfActors 14 = .ok (.iconst 1, 1) := by decide +kernel
theorem dX1_daysOfActors_15 : decode cX1_daysOfActors 15 = .ok (.iand, 1) := by decide +kernel
theorem dX1_daysOfActors_16 : decode cX1_daysOfActors 16 = .ok (.iconst 1, 1) := by decide +kernel
theorem dX1_daysOfActors_17 : decode cX1_daysOfActors 17 = .ok (.if_icmp .ne 12, 3) := by decide +kernel
theorem dX1_daysOfActors_20 : decode cX1_daysOfActors 20 = .ok (.iload_n 2, 1) := by decide +kernel
theorem dX1_daysOfActors_21 : decode cX1_daysOfActors 21 = .ok (.aload_n 0, 1) := by decide +kernel
theorem dX1_daysOfActors_22 : decode cX1_daysOfActors 22 = .ok (.getfield 15, 3) := by decide +kernel
theorem dX1_daysOfActors_25 : decode cX1_daysOfActors 25 = .ok (.iload_n 3, 1) := by decide +kernel
theorem dX1_daysOfActors_26 : decode cX1_daysOfActors 26 = .ok (.iaload, 1) := by decide +kernel
theorem dX1_daysOfActors_27 : decode cX1_daysOfActors 27 = .ok (.iand, 1) := by decide +kernel
theorem dX1_daysOfActors_28 : decode cX1_daysOfActors 28 = .ok (.istore_n 2, 1) := by decide +kernel
theorem dX1_daysOfActors_29 : decode cX1_daysOfActors 29 = .ok (.iinc 3 1, 3) := by decide +kernel
theorem dX1_daysOfActors_32 : decode cX1_daysOfActors 32 = .ok (.goto (-27), 3) := by decide +kernel
theorem dX1_daysOfActors_35 : decode cX1_daysOfActors 35 = .ok (.iload_n 2, 1) := by decide +kernel
theorem dX1_daysOfActors_36 : decode cX1_daysOfActors 36 = .ok (.ireturn, 1) := by decide +kernel
theorem dX2_init_0 : decode cX2_init 0 = .ok (.aload_n 0, 1) := by decide +kernel
theorem dX2_init_1 : decode cX2_init 1 = .ok (.invokespecial 3, 3) := by decide +kernel
theorem dX2_init_4 : decode cX2_init 4 = .ok (.aload_n 0, 1) := by decide +kernel
theorem dX2_init_5 : decode cX2_init 5 = .ok (.bipush 9, 2) := by decide +kernel
theorem dX2_init_7 : decode cX2_init 7 = .ok (.bipush 25, 2) := by decide +kernel
theorem dX2_init_9 : decode cX2_init 9 = .ok (.multianewarray 9 2, 4) := by decide +kernel
theorem dX2_init_13 : decode cX2_init 13 = .ok (.putfield 11, 3) := by decide +kernel
theorem dX2_init_16 : decode cX2_init 16 = .ok (.aload_n 0, 1) := by decide +kernel
theorem dX2_init_17 : decode cX2_init 17 = .ok (.bipush 8, 2) := by decide +kernel
theorem dX2_init_19 : decode cX2_init 19 = .ok (.newarray .int, 2) := by decide +kernel
theorem dX2_init_21 : decode cX2_init 21 = .ok (.putfield 16, 3) := by decide +kernel
theorem dX2_init_24 : decode cX2_init 24 = .ok (.aload_n 0, 1) := by decide +kernel
theorem dX2_init_25 : decode cX2_init 25 = .ok (.bipush 8, 2) := by decide +kernel
theorem dX2_init_27 : decode cX2_init 27 = .ok (.newarray .int, 2) := by decide +kernel
theorem dX2_init_29 : decode cX2_init 29 = .ok (.putfield 20, 3) := by decide +kernel
theorem dX2_init_32 : decode cX2_init 32 = .ok (.aload_n 0, 1) := by decide +kernel
theorem dX2_init_33 : decode cX2_init 33 = .ok (.iconst 0, 1) := by decide +kernel
theorem dX2_init_34 : decode cX2_init 34 = .ok (.putfield 23, 3) := by decide +kernel
theorem dX2_init_37 : decode cX2_init 37 = .ok (.aload_n 0, 1) := by decide +kernel
theorem dX2_init_38 : decode cX2_init 38 = .ok (.iconst 0, 1) := by decide +kernel
theorem dX2_init_39 : decode cX2_init 39 = .ok (.putfield 27, 3) := by decide +kernel
theorem dX2_init_42 : decode cX2_init 42 = .ok (.return_, 1) := by decide +kernel
theorem dX2_seek_0 : decode cX2_seek 0 = .ok (.aload_n 0, 1) := by decide +kernel
theorem dX2_seek_1 : decode cX2_seek 1 = .ok (.aload_n 1, 1) := by decide +kernel
theorem dX2_seek_2 : decode cX2_seek 2 = .ok (.getfield 30, 3) := by decide +kernel
theorem dX2_seek_5 : decode cX2_seek 5 = .ok (.putfield 27, 3) := by decide +kernel
theorem dX2_seek_8 : decode cX2_seek 8 = .ok (.aload_n 0, 1) := by decide +kernel
theorem dX2_seek_9 : decode cX2_seek 9 = .ok (.aload_n 2, 1) := by decide +kernel
theorem dX2_seek_10 : decode cX2_seek 10 = .ok (.invokevirtual 33, 3) := by decide +kernel
theorem dX2_seek_13 : decode cX2_seek 13 = .ok (.aload_n 0, 1) := by decide +kernel
theorem dX2_seek_14 : decode cX2_seek 14 = .ok (.getfield 27, 3) := by decide +kernel
theorem dX2_seek_17 : decode cX2_seek 17 = .ok (.iconst 1, 1) := by decide +kernel
theorem dX2_seek_18 : decode cX2_seek 18 = .ok (.isub, 1) := by decide +kernel
theorem dX2_seek_19 : decode cX2_seek 19 = .ok (.istore_n 3, 1) := by decide +kernel
theorem dX2_seek_20 : decode cX2_seek 20 = .ok (.iload_n 3, 1) := by decide +kernel
theorem dX2_seek_21 : decode cX2_seek 21 = .ok (.ifCond .lt 16, 3) := by decide +kernel
theorem dX2_seek_24 : decode cX2_seek 24 = .ok (.aload_n 0, 1) := by decide +kernel
theorem dX2_seek_25 : decode cX2_seek 25 = .ok (.aload_n 1, 1) := by decide +kernel
theorem dX2_seek_26 : decode cX2_seek 26 = .ok (.aload_n 2, 1) := by decide +kernel
theorem dX2_seek_27 : decode cX2_seek 27 = .ok (.iload_n 3, 1) := by decide +kernel
theorem dX2_seek_28 : decode cX2_seek 28 = .ok (.invokevirtual 37, 3) := by decide +kernel
theorem dX2_seek_31 : decode cX2_seek 31 = .ok (.iinc 3 (-1), 3) := by decide +kernel
theorem dX2_seek_34 : decode cX2_seek 34 = .ok (.goto (-14), 3) := by decide +kernel
theorem dX2_seek_37 : decode cX2_seek 37 = .ok (.aload_n 0, 1) := by decide +kernel
theorem dX2_seek_38 : decode cX2_seek 38 = .ok (.aload_n 0, 1) := by decide +kernel
theorem dX2_seek_39 : decode cX2_seek 39 = .ok (.getfield 11, 3) := by decide +kernel
theorem dX2_seek_42 : decode cX2_seek 42 = .ok (.iconst 0, 1) := by decide +kernel
theorem dX2_seek_43 : decode cX2_seek 43 = .ok (.aaload, 1) := by decide +kernel
theorem dX2_seek_44 : decode cX2_seek 44 = .ok (.iconst 0, 1) := by decide +kernel
theorem dX2_seek_45 : decode cX2_seek 45 = .ok (.iaload, 1) := by decide +kernel
theorem dX2_seek_46 : decode cX2_seek 46 = .ok (.putfield 23, 3) := by decide +kernel
theorem dX2_seek_49 : decode cX2_seek 49 = .ok (.aload_n 0, 1) := by decide +kernel
theorem dX2_seek_50 : decode cX2_seek 50 = .ok (.getfield 23, 3) := by decide +kernel
theorem dX2_seek_53 : decode cX2_seek 53 = .ok (.ldc 41, 2) := by decide +kernel
theorem dX2_seek_55 : decode cX2_seek 55 = .ok (.if_icmp .lt 5, 3) := by decide +kernel
theorem dX2_seek_58 : decode cX2_seek 58 = .ok (.iconst 0, 1) := by decide +kernel
theorem dX2_seek_59 : decode cX2_seek 59 = .ok (.ireturn, 1) := by decide +kernel
theorem dX2_seek_60 : decode cX2_seek 60 = .ok (.aload_n 0, 1) := by decide +kernel
theorem dX2_seek_61 : decode cX2_seek 61 = .ok (.aload_n 1, 1) := by decide +kernel
theorem dX2_seek_62 : decode cX2_seek 62 = .ok (.aload_n 2, 1) := by decide +kernel
theorem dX2_seek_63 : decode cX2_seek 63 = .ok (.invokevirtual 42, 3) := by decide +kernel
theorem dX2_seek_66 : decode cX2_seek 66 = .ok (.iconst 1, 1) := by decide +kernel
theorem dX2_seek_67 : decode cX2_seek 67 = .ok (.ireturn, 1) := by decide +kernel
theorem dX2_syllableOn_0 : decode cX2_syllableOn 0 = .ok (.iconst 0, 1) := by decide +kernel
theorem dX2_syllableOn_1 : decode cX2_syllableOn 1 = .ok (.istore_n 2, 1) := by decide +kernel
theorem dX2_syllableOn_2 : decode cX2_syllableOn 2 = .ok (.iload_n 2, 1) := by decide +kernel
theorem dX2_syllableOn_3 : decode cX2_syllableOn 3 = .ok (.aload_n 0, 1) := by decide +kernel
theorem dX2_syllableOn_4 : decode cX2_syllableOn 4 = .ok (.getfield 27, 3) := by decide +kernel
theorem dX2_syllableOn_7 : decode cX2_syllableOn 7 = .ok (.if_icmp .ge 38, 3) := by decide +kernel
theorem dX2_syllableOn_10 : decode cX2_syllableOn 10 = .ok (.iload_n 1, 1) := by decide +kernel
theorem dX2_syllableOn_11 : decode cX2_syllableOn 11 = .ok (.aload_n 0, 1) := by decide +kernel
theorem dX2_syllableOn_12 : decode cX2_syllableOn 12 = .ok (.getfield 16, 3) := by decide +kernel
theorem dX2_syllableOn_15 : decode cX2_syllableOn 15 = .ok (.iload_n 2, 1) := by decide +kernel
theorem dX2_syllableOn_16 : decode cX2_syllableOn 16 = .ok (.iaload, 1) := by decide +kernel
theorem dX2_syllableOn_17 : decode cX2_syllableOn 17 = .ok (.if_icmp .lt 22, 3) := by decide +kernel
theorem dX2_syllableOn_20 : decode cX2_syllableOn 20 = .ok (.iload_n 1, 1) := by decide +kernel
theorem dX2_syllableOn_21 : decode cX2_syllableOn 21 = .ok (.aload_n 0, 1) := by decide +kernel
theorem dX2_syllableOn_22 : decode cX2_syllableOn 22 = .ok (.getfield 16, 3) := by decide +kernel
theorem dX2_syllableOn_25 : decode cX2_syllableOn 25 = .ok (.iload_n 2, 1) := by decide +kernel
theorem dX2_syllableOn_26 : decode cX2_syllableOn 26 = .ok (.iaload, 1) := by decide +kernel
theorem dX2_syllableOn_27 : decode cX2_syllableOn 27 = .ok (.aload_n 0, 1) := by decide +kernel
theorem dX2_syllableOn_28 : decode cX2_syllableOn 28 = .ok (.getfield 20, 3) := by decide +kernel
theorem dX2_syllableOn_31 : decode cX2_syllableOn 31 = .ok (.iload_n 2, 1) := by decide +kernel
theorem dX2_syllableOn_32 : decode cX2_syllableOn 32 = .ok (.iaload, 1) := by decide +kernel
theorem dX2_syllableOn_33 : decode cX2_syllableOn 33 = .ok (.iadd, 1) := by decide +kernel
theorem dX2_syllableOn_34 : decode cX2_syllableOn 34 = .ok (.if_icmp .ge 5, 3) := by decide +kernel
theorem dX2_syllableOn_37 : decode cX2_syllableOn 37 = .ok (.iload_n 2, 1) := by decide +kernel
theorem dX2_syllableOn_38 : decode cX2_syllableOn 38 = .ok (.ireturn, 1) := by decide +kernel
theorem dX2_syllableOn_39 : decode cX2_syllableOn 39 = .ok (.iinc 2 1, 3) := by decide +kernel
theorem dX2_syllableOn_42 : decode cX2_syllableOn 42 = .ok (.goto (-40), 3) := by decide +kernel
theorem dX2_syllableOn_45 : decode cX2_syllableOn 45 = .ok (.iconst (-1), 1) := by decide +kernel
theorem dX2_syllableOn_46 : decode cX2_syllableOn 46 = .ok (.ireturn, 1) := by decide +kernel
theorem dX2_pauseCost_0 : decode cX2_pauseCost 0 = .ok (.iload_n 0, 1) := by decide +kernel
theorem dX2_pauseCost_1 : decode cX2_pauseCost 1 = .ok (.ifCond .ne 7, 3) := by decide +kernel
theorem dX2_pauseCost_4 : decode cX2_pauseCost 4 = .ok (.iconst 0, 1) := by decide +kernel
theorem dX2_pauseCost_5 : decode cX2_pauseCost 5 = .ok (.goto 4, 3) := by decide +kernel
theorem dX2_pauseCost_8 : decode cX2_pauseCost 8 = .ok (.iconst 2, 1) := by decide +kernel
theorem dX2_pauseCost_9 : decode cX2_pauseCost 9 = .ok (.ireturn, 1) := by decide +kernel
theorem dX2_fillPauses_0 : decode cX2_fillPauses 0 = .ok (.aload_n 0, 1) := by decide +kernel
theorem dX2_fillPauses_1 : decode cX2_fillPauses 1 = .ok (.getfield 11, 3) := by decide +kernel
theorem dX2_fillPauses_4 : decode cX2_fillPauses 4 = .ok (.aload_n 0, 1) := by decide +kernel
theorem dX2_fillPauses_5 : decode cX2_fillPauses 5 = .ok (.getfield 27, 3) := by decide +kernel
theorem dX2_fillPauses_8 : decode cX2_fillPauses 8 = .ok (.aaload, 1) := by decide +kernel
theorem dX2_fillPauses_9 : decode cX2_fillPauses 9 = .ok (.astore_n 2, 1) := by decide +kernel
theorem dX2_fillPauses_10 : decode cX2_fillPauses 10 = .ok (.aload_n 2, 1) := by decide +kernel
theorem dX2_fillPauses_11 : decode cX2_fillPauses 11 = .ok (.aload_n 1, 1) := by decide +kernel
theorem dX2_fillPauses_12 : decode cX2_fillPauses 12 = .ok (.getfield 46, 3) := by decide +kernel
theorem dX2_fillPauses_15 : decode cX2_fillPauses 15 = .ok (.iconst 0, 1) := by decide +kernel
theorem dX2_fillPauses_16 : decode cX2_fillPauses 16 = .ok (.iastore, 1) := by decide +kernel
theorem dX2_fillPauses_17 : decode cX2_fillPauses 17 = .ok (.aload_n 1, 1) := by decide +kernel
theorem dX2_fillPauses_18 : decode cX2_fillPauses 18 = .ok (.getfield 46, 3) := by decide +kernel
theorem dX2_fillPauses_21 : decode cX2_fillPauses 21 = .ok (.iconst 1, 1) := by decide +kernel
theorem dX2_fillPauses_22 : decode cX2_fillPauses 22 = .ok (.isub, 1) := by decide +kernel
theorem dX2_fillPauses_23 : decode cX2_fillPauses 23 = .ok (.istore_n 3, 1) := by decide +kernel
theorem dX2_fillPauses_24 : decode cX2_fillPauses 24 = .ok (.iload_n 3, 1) := by decide +kernel
theorem dX2_fillPauses_25 : decode cX2_fillPauses 25 = .ok (.ifCond .lt 27, 3) := by decide +kernel
theorem dX2_fillPauses_28 : decode cX2_fillPauses 28 = .ok (.aload_n 2, 1) := by decide +kernel
theorem dX2_fillPauses_29 : decode cX2_fillPauses 29 = .ok (.iload_n 3, 1) := by decide +kernel
theorem dX2_fillPauses_30 : decode cX2_fillPauses 30 = .ok (.aload_n 2, 1) := by decide +kernel
theorem dX2_fillPauses_31 : decode cX2_fillPauses 31 = .ok (.iload_n 3, 1) := by decide +kernel
theorem dX2_fillPauses_32 : decode cX2_fillPauses 32 = .ok (.iconst 1, 1) := by decide +kernel
theorem dX2_fillPauses_33 : decode cX2_fillPauses 33 = .ok (.iadd, 1) := by decide +kernel
theorem dX2_fillPauses_34 : decode cX2_fillPauses 34 = .ok (.iaload, 1) := by decide +kernel
theorem dX2_fillPauses_35 : decode cX2_fillPauses 35 = .ok (.aload_n 1, 1) := by decide +kernel
theorem dX2_fillPauses_36 : decode cX2_fillPauses 36 = .ok (.getfield 51, 3) := by decide +kernel
theorem dX2_fillPauses_39 : decode cX2_fillPauses 39 = .ok (.iload_n 3, 1) := by decide +kernel
theorem dX2_fillPauses_40 : decode cX2_fillPauses 40 = .ok (.iaload, 1) := by decide +kernel
theorem dX2_fillPauses_41 : decode cX2_fillPauses 41 = .ok (.invokestatic 54, 3) := by decide +kernel
theorem dX2_fillPauses_44 : decode cX2_fillPauses 44 = .ok (.iadd, 1) := by decide +kernel
theorem dX2_fillPauses_45 : decode cX2_fillPauses 45 = .ok (.iastore, 1) := by decide +kernel
theorem dX2_fillPauses_46 : decode cX2_fillPauses 46 = .ok (.iinc 3 (-1), 3) := by decide +kernel
theorem dX2_fillPauses_49 : decode cX2_fillPauses 49 = .ok (.goto (-25), 3) := by decide +kernel
theorem dX2_fillPauses_52 : decode cX2_fillPauses 52 = .ok (.return_, 1) := by decide +kernel
theorem dX2_fillSyllable_0 : decode cX2_fillSyllable 0 = .ok (.aload_n 0, 1) := by decide +kernel
theorem dX2_fillSyllable_1 : decode cX2_fillSyllable 1 = .ok (.getfield 11, 3) := by decide +kernel
theorem dX2_fillSyllable_4 : decode cX2_fillSyllable 4 = .ok (.iload_n 3, 1) := by decide +kernel
theorem dX2_fillSyllable_5 : decode cX2_fillSyllable 5 = .ok (.aaload, 1) := by decide +kernel
theorem dX2_fillSyllable_6 : decode cX2_fillSyllable 6 = .ok (.astore 4, 2) := by decide +kernel
theorem dX2_fillSyllable_8 : decode cX2_fillSyllable 8 = .ok (.aload 4, 2) := by decide +kernel
theorem dX2_fillSyllable_10 : decode cX2_fillSyllable 10 = .ok (.aload_n 2, 1) := by decide +kernel
theorem dX2_fillSyllable_11 : decode cX2_fillSyllable 11 = .ok (.getfield 46, 3) := by decide +kernel
theorem dX2_fillSyllable_14 : decode cX2_fillSyllable 14 = .ok (.ldc 41, 2) := by decide +kernel
theorem dX2_fillSyllable_16 : decode cX2_fillSyllable 16 = .ok (.iastore, 1) := by decide +kernel
theorem dX2_fillSyllable_17 : decode cX2_fillSyllable 17 = .ok (.aload_n 2, 1) := by decide +kernel
theorem dX2_fillSyllable_18 : decode cX2_fillSyllable 18 = .ok (.getfield 46, 3) := by decide +kernel
theorem dX2_fillSyllable_21 : decode cX2_fillSyllable 21 = .ok (.iconst 1, 1) := by decide +kernel
theorem dX2_fillSyllable_22 : decode cX2_fillSyllable 22 = .ok (.isub, 1) := by decide +kernel
theorem dX2_fillSyllable_23 : decode cX2_fillSyllable 23 = .ok (.istore 5, 2) := by decide +kernel
theorem dX2_fillSyllable_25 : decode cX2_fillSyllable 25 = .ok (.iload 5, 2) := by decide +kernel
theorem dX2_fillSyllable_27 : decode cX2_fillSyllable 27 = .ok (.ifCond .lt 48, 3) := by decide +kernel
theorem dX2_fillSyllable_30 : decode cX2_fillSyllable 30 = .ok (.aload 4, 2) := by decide +kernel
theorem dX2_fillSyllable_32 : decode cX2_fillSyllable 32 = .ok (.iload 5, 2) := by decide +kernel
theorem dX2_fillSyllable_34 : decode cX2_fillSyllable 34 = .ok (.iconst 1, 1) := by decide +kernel
theorem dX2_fillSyllable_35 : decode cX2_fillSyllable 35 = .ok (.iadd, 1) := by decide +kernel
theorem dX2_fillSyllable_36 : decode cX2_fillSyllable 36 = .ok (.iaload, 1) := by decide +kernel
theorem dX2_fillSyllable_37 : decode cX2_fillSyllable 37 = .ok (.aload_n 2, 1) := by decide +kernel
theorem dX2_fillSyllable_38 : decode cX2_fillSyllable 38 = .ok (.getfield 51, 3) := by decide +kernel
theorem dX2_fillSyllable_41 : decode cX2_fillSyllable 41 = .ok (.iload 5, 2) := by decide +kernel
theorem dX2_fillSyllable_43 : decode cX2_fillSyllable 43 = .ok (.iaload, 1) := by decide +kernel
theorem dX2_fillSyllable_44 : decode cX2_fillSyllable 44 = .ok (.invokestatic 54, 3) := by decide +kernel
theorem dX2_fillSyllable_47 : decode cX2_fillSyllable 47 = .ok (.iadd, 1) := by decide +kernel
theorem dX2_fillSyllable_48 : decode cX2_fillSyllable 48 = .ok (.istore 6, 2) := by decide +kernel
theorem dX2_fillSyllable_50 : decode cX2_fillSyllable 50 = .ok (.aload 4, 2) := by decide +kernel
theorem dX2_fillSyllable_52 : decode cX2_fillSyllable 52 = .ok (.iload 5, 2) := by decide +kernel
theorem dX2_fillSyllable_54 : decode cX2_fillSyllable 54 = .ok (.iload 6, 2) := by decide +kernel
theorem dX2_fillSyllable_56 : decode cX2_fillSyllable 56 = .ok (.aload_n 0, 1) := by decide +kernel
theorem dX2_fillSyllable_57 : decode cX2_fillSyllable 57 = .ok (.aload_n 1, 1) := by decide +kernel
theorem dX2_fillSyllable_58 : decode cX2_fillSyllable 58 = .ok (.aload_n 2, 1) := by decide +kernel
theorem dX2_fillSyllable_59 : decode cX2_fillSyllable 59 = .ok (.iload_n 3, 1) := by decide +kernel
theorem dX2_fillSyllable_60 : decode cX2_fillSyllable 60 = .ok (.iload 5, 2) := by decide +kernel
theorem dX2_fillSyllable_62 : decode cX2_fillSyllable 62 = .ok (.invokevirtual 58, 3) := by decide +kernel
theorem dX2_fillSyllable_65 : decode cX2_fillSyllable 65 = .ok (.invokestatic 62, 3) := by decide +kernel
theorem dX2_fillSyllable_68 : decode cX2_fillSyllable 68 = .ok (.iastore, 1) := by decide +kernel
theorem dX2_fillSyllable_69 : decode cX2_fillSyllable 69 = .ok (.iinc 5 (-1), 3) := by decide +kernel
theorem dX2_fillSyllable_72 : decode cX2_fillSyllable 72 = .ok (.goto (-47), 3) := by decide +kernel
theorem dX2_fillSyllable_75 : decode cX2_fillSyllable 75 = .ok (.return_, 1) := by decide +kernel
theorem dX2_leastFrom_0 : decode cX2_leastFrom 0 = .ok (.aload_n 1, 1) := by decide +kernel
theorem dX2_leastFrom_1 : decode cX2_leastFrom 1 = .ok (.iload_n 3, 1) := by decide +kernel
theorem dX2_leastFrom_2 : decode cX2_leastFrom 2 = .ok (.invokevirtual 68, 3) := by decide +kernel
theorem dX2_leastFrom_5 : decode cX2_leastFrom 5 = .ok (.aload_n 2, 1) := by decide +kernel
theorem dX2_leastFrom_6 : decode cX2_leastFrom 6 = .ok (.getfield 46, 3) := by decide +kernel
theorem dX2_leastFrom_9 : decode cX2_leastFrom 9 = .ok (.iload 4, 2) := by decide +kernel
theorem dX2_leastFrom_11 : decode cX2_leastFrom 11 = .ok (.isub, 1) := by decide +kernel
theorem dX2_leastFrom_12 : decode cX2_leastFrom 12 = .ok (.invokestatic 62, 3) := by decide +kernel
theorem dX2_leastFrom_15 : decode cX2_leastFrom 15 = .ok (.istore 5, 2) := by decide +kernel
theorem dX2_leastFrom_17 : decode cX2_leastFrom 17 = .ok (.iconst 0, 1) := by decide +kernel
theorem dX2_leastFrom_18 : decode cX2_leastFrom 18 = .ok (.istore 6, 2) := by decide +kernel
theorem dX2_leastFrom_20 : decode cX2_leastFrom 20 = .ok (.ldc 41, 2) := by decide +kernel
theorem dX2_leastFrom_22 : decode cX2_leastFrom 22 = .ok (.istore 7, 2) := by decide +kernel
theorem dX2_leastFrom_24 : decode cX2_leastFrom 24 = .ok (.iconst 1, 1) := by decide +kernel
theorem dX2_leastFrom_25 : decode cX2_leastFrom 25 = .ok (.istore 8, 2) := by decide +kernel
theorem dX2_leastFrom_27 : decode cX2_leastFrom 27 = .ok (.iload 8, 2) := by decide +kernel
theorem dX2_leastFrom_29 : decode cX2_leastFrom 29 = .ok (.iload 5, 2) := by decide +kernel
theorem dX2_leastFrom_31 : decode cX2_leastFrom 31 = .ok (.if_icmp .gt 66, 3) := by decide +kernel
theorem dX2_leastFrom_34 : decode cX2_leastFrom 34 = .ok (.iload 6, 2) := by decide +kernel
theorem dX2_leastFrom_36 : decode cX2_leastFrom 36 = .ok (.aload_n 1, 1) := by decide +kernel
theorem dX2_leastFrom_37 : decode cX2_leastFrom 37 = .ok (.iload_n 3, 1) := by decide +kernel
theorem dX2_leastFrom_38 : decode cX2_leastFrom 38 = .ok (.aload_n 2, 1) := by decide +kernel
theorem dX2_leastFrom_39 : decode cX2_leastFrom 39 = .ok (.getfield 51, 3) := by decide +kernel
theorem dX2_leastFrom_42 : decode cX2_leastFrom 42 = .ok (.iload 4, 2) := by decide +kernel
theorem dX2_leastFrom_44 : decode cX2_leastFrom 44 = .ok (.iload 8, 2) := by decide +kernel
theorem dX2_leastFrom_46 : decode cX2_leastFrom 46 = .ok (.iadd, 1) := by decide +kernel
theorem dX2_leastFrom_47 : decode cX2_leastFrom 47 = .ok (.iconst 1, 1) := by decide +kernel
theorem dX2_leastFrom_48 : decode cX2_leastFrom 48 = .ok (.isub, 1) := by decide +kernel
theorem dX2_leastFrom_49 : decode cX2_leastFrom 49 = .ok (.iaload, 1) := by decide +kernel
theorem dX2_leastFrom_50 : decode cX2_leastFrom 50 = .ok (.invokevirtual 71, 3) := by decide +kernel
theorem dX2_leastFrom_53 : decode cX2_leastFrom 53 = .ok (.iadd, 1) := by decide +kernel
theorem dX2_leastFrom_54 : decode cX2_leastFrom 54 = .ok (.istore 6, 2) := by decide +kernel
theorem dX2_leastFrom_56 : decode cX2_leastFrom 56 = .ok (.iload 8, 2) := by decide +kernel
theorem dX2_leastFrom_58 : decode cX2_leastFrom 58 = .ok (.aload_n 1, 1) := by decide +kernel
theorem dX2_leastFrom_59 : decode cX2_leastFrom 59 = .ok (.getfield 74, 3) := by decide +kernel
theorem dX2_leastFrom_62 : decode cX2_leastFrom 62 = .ok (.iload_n 3, 1) := by decide +kernel
theorem dX2_leastFrom_63 : decode cX2_leastFrom 63 = .ok (.iaload, 1) := by decide +kernel
theorem dX2_leastFrom_64 : decode cX2_leastFrom 64 = .ok (.if_icmp .lt 27, 3) := by decide +kernel
theorem dX2_leastFrom_67 : decode cX2_leastFrom 67 = .ok (.iload 7, 2) := by decide +kernel
theorem dX2_leastFrom_69 : decode cX2_leastFrom 69 = .ok (.iload 6, 2) := by decide +kernel
theorem dX2_leastFrom_71 : decode cX2_leastFrom 71 = .ok (.aload_n 0, 1) := by decide +kernel
theorem dX2_leastFrom_72 : decode cX2_leastFrom 72 = .ok (.getfield 11, 3) := by decide +kernel
theorem dX2_leastFrom_75 : decode cX2_leastFrom 75 = .ok (.iload_n 3, 1) := by decide +kernel
theorem dX2_leastFrom_76 : decode cX2_leastFrom 76 = .ok (.iconst 1, 1) := by decide +kernel
theorem dX2_leastFrom_77 : decode cX2_leastFrom 77 = .ok (.iadd, 1) := by decide +kernel
theorem dX2_leastFrom_78 : decode cX2_leastFrom 78 = .ok (.aaload, 1) := by decide +kernel
theorem dX2_leastFrom_79 : decode cX2_leastFrom 79 = .ok (.iload 4, 2) := by decide +kernel
theorem dX2_leastFrom_81 : decode cX2_leastFrom 81 = .ok (.iload 8, 2) := by decide +kernel
theorem dX2_leastFrom_83 : decode cX2_leastFrom 83 = .ok (.iadd, 1) := by decide +kernel
theorem dX2_leastFrom_84 : decode cX2_leastFrom 84 = .ok (.iaload, 1) := by decide +kernel
theorem dX2_leastFrom_85 : decode cX2_leastFrom 85 = .ok (.iadd, 1) := by decide +kernel
theorem dX2_leastFrom_86 : decode cX2_leastFrom 86 = .ok (.invokestatic 62, 3) := by decide +kernel
theorem dX2_leastFrom_89 : decode cX2_leastFrom 89 = .ok (.istore 7, 2) := by decide +kernel
theorem dX2_leastFrom_91 : decode cX2_leastFrom 91 = .ok (.iinc 8 1, 3) := by decide +kernel
theorem dX2_leastFrom_94 : decode cX2_leastFrom 94 = .ok (.goto (-67), 3) := by decide +kernel
theorem dX2_leastFrom_97 : decode cX2_leastFrom 97 = .ok (.iload 7, 2) := by decide +kernel
theorem dX2_leastFrom_99 : decode cX2_leastFrom 99 = .ok (.ireturn, 1) := by decide +kernel
theorem dX2_trace_0 : decode cX2_trace 0 = .ok (.iconst 0, 1) := by decide +kernel
theorem dX2_trace_1 : decode cX2_trace 1 = .ok (.istore_n 3, 1) := by decide +kernel
theorem dX2_trace_2 : decode cX2_trace 2 = .ok (.iconst 0, 1) := by decide +kernel
theorem dX2_trace_3 : decode cX2_trace 3 = .ok (.istore 4, 2) := by decide +kernel
theorem dX2_trace_5 : decode cX2_trace 5 = .ok (.iconst 0, 1) := by decide +kernel
theorem dX2_trace_6 : decode cX2_trace 6 = .ok (.istore 5, 2) := by decide +kernel
theorem dX2_trace_8 : decode cX2_trace 8 = .ok (.iload 5, 2) := by decide +kernel
theorem dX2_trace_10 : decode cX2_trace 10 = .ok (.aload_n 2, 1) := by decide +kernel
theorem dX2_trace_11 : decode cX2_trace 11 = .ok (.getfield 46, 3) := by decide +kernel
theorem dX2_trace_14 : decode cX2_trace 14 = .ok (.if_icmp .ge 70, 3) := by decide +kernel
theorem dX2_trace_17 : decode cX2_trace 17 = .ok (.iload_n 3, 1) := by decide +kernel
theorem dX2_trace_18 : decode cX2_trace 18 = .ok (.aload_n 0, 1) := by decide +kernel
theorem dX2_trace_19 : decode cX2_trace 19 = .ok (.getfield 27, 3) := by decide +kernel
theorem dX2_trace_22 : decode cX2_trace 22 = .ok (.if_icmp .ge 62, 3) := by decide +kernel
theorem dX2_trace_25 : decode cX2_trace 25 = .ok (.iload 5, 2) := by decide +kernel
theorem dX2_trace_27 : decode cX2_trace 27 = .ok (.iload 4, 2) := by decide +kernel
theorem dX2_trace_29 : decode cX2_trace 29 = .ok (.if_icmp .ge 7, 3) := by decide +kernel
theorem dX2_trace_32 : decode cX2_trace 32 = .ok (.iconst 0, 1) := by decide +kernel
theorem dX2_trace_33 : decode cX2_trace 33 = .ok (.goto 12, 3) := by decide +kernel
theorem dX2_trace_36 : decode cX2_trace 36 = .ok (.aload_n 0, 1) := by decide +kernel
theorem dX2_trace_37 : decode cX2_trace 37 = .ok (.aload_n 1, 1) := by decide +kernel
theorem dX2_trace_38 : decode cX2_trace 38 = .ok (.aload_n 2, 1) := by decide +kernel
theorem dX2_trace_39 : decode cX2_trace 39 = .ok (.iload_n 3, 1) := by decide +kernel
theorem dX2_trace_40 : decode cX2_trace 40 = .ok (.iload 5, 2) := by decide +kernel
theorem dX2_trace_42 : decode cX2_trace 42 = .ok (.invokevirtual 77, 3) := by decide +kernel
theorem dX2_trace_45 : decode cX2_trace 45 = .ok (.istore 6, 2) := by decide +kernel
theorem dX2_trace_47 : decode cX2_trace 47 = .ok (.iload 6, 2) := by decide +kernel
theorem dX2_trace_49 : decode cX2_trace 49 = .ok (.ifCond .le 29, 3) := by decide +kernel
theorem dX2_trace_52 : decode cX2_trace 52 = .ok (.aload_n 0, 1) := by decide +kernel
theorem dX2_trace_53 : decode cX2_trace 53 = .ok (.getfield 16, 3) := by decide +kernel
theorem dX2_trace_56 : decode cX2_trace 56 = .ok (.iload_n 3, 1) := by decide +kernel
theorem dX2_trace_57 : decode cX2_trace 57 = .ok (.iload 5, 2) := by decide +kernel
theorem dX2_trace_59 : decode cX2_trace 59 = .ok (.iastore, 1) := by decide +kernel
theorem dX2_trace_60 : decode cX2_trace 60 = .ok (.aload_n 0, 1) := by decide +kernel
theorem dX2_trace_61 : decode cX2_trace 61 = .ok (.getfield 20, 3) := by decide +kernel
theorem dX2_trace_64 : decode cX2_trace 64 = .ok (.iload_n 3, 1) := by decide +kernel
theorem dX2_trace_65 : decode cX2_trace 65 = .ok (.iload 6, 2) := by decide +kernel
theorem dX2_trace_67 : decode cX2_trace 67 = .ok (.iastore, 1) := by decide +kernel
theorem dX2_trace_68 : decode cX2_trace 68 = .ok (.iload 5, 2) := by decide +kernel
theorem dX2_trace_70 : decode cX2_trace 70 = .ok (.iload 6, 2) := by decide +kernel
theorem dX2_trace_72 : decode cX2_trace 72 = .ok (.iadd, 1) := by decide +kernel
theorem dX2_trace_73 : decode cX2_trace 73 = .ok (.istore 4, 2) := by decide +kernel
theorem dX2_trace_75 : decode cX2_trace 75 = .ok (.iinc 3 1, 3) := by decide +kernel
theorem dX2_trace_78 : decode cX2_trace 78 = .ok (.iinc 5 1, 3) := by decide +kernel
theorem dX2_trace_81 : decode cX2_trace 81 = .ok (.goto (-73), 3) := by decide +kernel
theorem dX2_trace_84 : decode cX2_trace 84 = .ok (.return_, 1) := by decide +kernel
theorem dX2_shortestFrom_0 : decode cX2_shortestFrom 0 = .ok (.aload_n 1, 1) := by decide +kernel
theorem dX2_shortestFrom_1 : decode cX2_shortestFrom 1 = .ok (.iload_n 3, 1) := by decide +kernel
theorem dX2_shortestFrom_2 : decode cX2_shortestFrom 2 = .ok (.invokevirtual 68, 3) := by decide +kernel
theorem dX2_shortestFrom_5 : decode cX2_shortestFrom 5 = .ok (.aload_n 2, 1) := by decide +kernel
theorem dX2_shortestFrom_6 : decode cX2_shortestFrom 6 = .ok (.getfield 46, 3) := by decide +kernel
theorem dX2_shortestFrom_9 : decode cX2_shortestFrom 9 = .ok (.iload 4, 2) := by decide +kernel
theorem dX2_shortestFrom_11 : decode cX2_shortestFrom 11 = .ok (.isub, 1) := by decide +kernel
theorem dX2_shortestFrom_12 : decode cX2_shortestFrom 12 = .ok (.invokestatic 62, 3) := by decide +kernel
theorem dX2_shortestFrom_15 : decode cX2_shortestFrom 15 = .ok (.istore 5, 2) := by decide +kernel
theorem dX2_shortestFrom_17 : decode cX2_shortestFrom 17 = .ok (.iconst 0, 1) := by decide +kernel
theorem dX2_shortestFrom_18 : decode cX2_shortestFrom 18 = .ok (.istore 6, 2) := by decide +kernel
theorem dX2_shortestFrom_20 : decode cX2_shortestFrom 20 = .ok (.iconst 1, 1) := by decide +kernel
theorem dX2_shortestFrom_21 : decode cX2_shortestFrom 21 = .ok (.istore 7, 2) := by decide +kernel
theorem dX2_shortestFrom_23 : decode cX2_shortestFrom 23 = .ok (.iload 7, 2) := by decide +kernel
theorem dX2_shortestFrom_25 : decode cX2_shortestFrom 25 = .ok (.iload 5, 2) := by decide +kernel
theorem dX2_shortestFrom_27 : decode cX2_shortestFrom 27 = .ok (.if_icmp .gt 74, 3) := by decide +kernel
theorem dX2_shortestFrom_30 : decode cX2_shortestFrom 30 = .ok (.iload 6, 2) := by decide +kernel
theorem dX2_shortestFrom_32 : decode cX2_shortestFrom 32 = .ok (.aload_n 1, 1) := by decide +kernel
theorem dX2_shortestFrom_33 : decode cX2_shortestFrom 33 = .ok (.iload_n 3, 1) := by decide +kernel
theorem dX2_shortestFrom_34 : decode cX2_shortestFrom 34 = .ok (.aload_n 2, 1) := by decide +kernel
theorem dX2_shortestFrom_35 : decode cX2_shortestFrom 35 = .ok (.getfield 51, 3) := by decide +kernel
theorem dX2_shortestFrom_38 : decode cX2_shortestFrom 38 = .ok (.iload 4, 2) := by decide +kernel
theorem dX2_shortestFrom_40 : decode cX2_shortestFrom 40 = .ok (.iload 7, 2) := by decide +kernel
theorem dX2_shortestFrom_42 : decode cX2_shortestFrom 42 = .ok (.iadd, 1) := by decide +kernel
theorem dX2_shortestFrom_43 : decode cX2_shortestFrom 43 = .ok (.iconst 1, 1) := by decide +kernel
theorem dX2_shortestFrom_44 : decode cX2_shortestFrom 44 = .ok (.isub, 1) := by decide +kernel
theorem dX2_shortestFrom_45 : decode cX2_shortestFrom 45 = .ok (.iaload, 1) := by decide +kernel
theorem dX2_shortestFrom_46 : decode cX2_shortestFrom 46 = .ok (.invokevirtual 71, 3) := by decide +kernel
theorem dX2_shortestFrom_49 : decode cX2_shortestFrom 49 = .ok (.iadd, 1) := by decide +kernel
theorem dX2_shortestFrom_50 : decode cX2_shortestFrom 50 = .ok (.istore 6, 2) := by decide +kernel
theorem dX2_shortestFrom_52 : decode cX2_shortestFrom 52 = .ok (.iload 7, 2) := by decide +kernel
theorem dX2_shortestFrom_54 : decode cX2_shortestFrom 54 = .ok (.aload_n 1, 1) := by decide +kernel
theorem dX2_shortestFrom_55 : decode cX2_shortestFrom 55 = .ok (.getfield 74, 3) := by decide +kernel
theorem dX2_shortestFrom_58 : decode cX2_shortestFrom 58 = .ok (.iload_n 3, 1) := by decide +kernel
theorem dX2_shortestFrom_59 : decode cX2_shortestFrom 59 = .ok (.iaload, 1) := by decide +kernel
theorem dX2_shortestFrom_60 : decode cX2_shortestFrom 60 = .ok (.if_icmp .lt 35, 3) := by decide +kernel
theorem dX2_shortestFrom_63 : decode cX2_shortestFrom 63 = .ok (.iload 6, 2) := by decide +kernel
theorem dX2_shortestFrom_65 : decode cX2_shortestFrom 65 = .ok (.aload_n 0, 1) := by decide +kernel
theorem dX2_shortestFrom_66 : decode cX2_shortestFrom 66 = .ok (.getfield 11, 3) := by decide +kernel
theorem dX2_shortestFrom_69 : decode cX2_shortestFrom 69 = .ok (.iload_n 3, 1) := by decide +kernel
theorem dX2_shortestFrom_70 : decode cX2_shortestFrom 70 = .ok (.iconst 1, 1) := by decide +kernel
theorem dX2_shortestFrom_71 : decode cX2_shortestFrom 71 = .ok (.iadd, 1) := by decide +kernel
theorem dX2_shortestFrom_72 : decode cX2_shortestFrom 72 = .ok (.aaload, 1) := by decide +kernel
theorem dX2_shortestFrom_73 : decode cX2_shortestFrom 73 = .ok (.iload 4, 2) := by decide +kernel
theorem dX2_shortestFrom_75 : decode cX2_shortestFrom 75 = .ok (.iload 7, 2) := by decide +kernel
theorem dX2_shortestFrom_77 : decode cX2_shortestFrom 77 = .ok (.iadd, 1) := by decide +kernel
theorem dX2_shortestFrom_78 : decode cX2_shortestFrom 78 = .ok (.iaload, 1) := by decide +kernel
theorem dX2_shortestFrom_79 : decode cX2_shortestFrom 79 = .ok (.iadd, 1) := by decide +kernel
theorem dX2_shortestFrom_80 : decode cX2_shortestFrom 80 = .ok (.aload_n 0, 1) := by decide +kernel
theorem dX2_shortestFrom_81 : decode cX2_shortestFrom 81 = .ok (.getfield 11, 3) := by decide +kernel
theorem dX2_shortestFrom_84 : decode cX2_shortestFrom 84 = .ok (.iload_n 3, 1) := by decide +kernel
theorem dX2_shortestFrom_85 : decode cX2_shortestFrom 85 = .ok (.aaload, 1) := by decide +kernel
theorem dX2_shortestFrom_86 : decode cX2_shortestFrom 86 = .ok (.iload 4, 2) := by decide +kernel
theorem dX2_shortestFrom_88 : decode cX2_shortestFrom 88 = .ok (.iaload, 1) := by decide +kernel
theorem dX2_shortestFrom_89 : decode cX2_shortestFrom 89 = .ok (.if_icmp .ne 6, 3) := by decide +kernel
theorem dX2_shortestFrom_92 : decode cX2_shortestFrom 92 = .ok (.iload 7, 2) := by decide +kernel
theorem dX2_shortestFrom_94 : decode cX2_shortestFrom 94 = .ok (.ireturn, 1) := by decide +kernel
theorem dX2_shortestFrom_95 : decode cX2_shortestFrom 95 = .ok (.iinc 7 1, 3) := by decide +kernel
theorem dX2_shortestFrom_98 : decode cX2_shortestFrom 98 = .ok (.goto (-75), 3) := by decide +kernel
theorem dX2_shortestFrom_101 : decode cX2_shortestFrom 101 = .ok (.iconst 0, 1) := by decide +kernel
theorem dX2_shortestFrom_102 : decode cX2_shortestFrom 102 = .ok (.ireturn, 1) := by decide +kernel
theorem dX3_init_0 : decode cX3_init 0 = .ok (.aload_n 0, 1) := by decide +kernel
theorem dX3_init_1 : decode cX3_init 1 = .ok (.invokespecial 3, 3) := by decide +kernel
theorem dX3_init_4 : decode cX3_init 4 = .ok (.aload_n 0, 1) := by decide +kernel
theorem dX3_init_5 : decode cX3_init 5 = .ok (.bipush 20, 2) := by decide +kernel
theorem dX3_init_7 : decode cX3_init 7 = .ok (.anewarray 9, 3) := by decide +kernel
theorem dX3_init_10 : decode cX3_init 10 = .ok (.putfield 11, 3) := by decide +kernel
theorem dX3_init_13 : decode cX3_init 13 = .ok (.aload_n 0, 1) := by decide +kernel
theorem dX3_init_14 : decode cX3_init 14 = .ok (.iconst 0, 1) := by decide +kernel
theorem dX3_init_15 : decode cX3_init 15 = .ok (.putfield 17, 3) := by decide +kernel
theorem dX3_init_18 : decode cX3_init 18 = .ok (.aload_n 0, 1) := by decide +kernel
theorem dX3_init_19 : decode cX3_init 19 = .ok (.iconst 0, 1) := by decide +kernel
theorem dX3_init_20 : decode cX3_init 20 = .ok (.putfield 21, 3) := by decide +kernel
theorem dX3_init_23 : decode cX3_init 23 = .ok (.iconst 0, 1) := by decide +kernel
theorem dX3_init_24 : decode cX3_init 24 = .ok (.istore_n 1, 1) := by decide +kernel
theorem dX3_init_25 : decode cX3_init 25 = .ok (.iload_n 1, 1) := by decide +kernel
theorem dX3_init_26 : decode cX3_init 26 = .ok (.bipush 20, 2) := by decide +kernel
theorem dX3_init_28 : decode cX3_init 28 = .ok (.if_icmp .ge 22, 3) := by decide +kernel
theorem dX3_init_31 : decode cX3_init 31 = .ok (.aload_n 0, 1) := by decide +kernel
theorem dX3_init_32 : decode cX3_init 32 = .ok (.getfield 11, 3) := by decide +kernel
theorem dX3_init_35 : decode cX3_init 35 = .ok (.iload_n 1, 1) := by decide +kernel
theorem dX3_init_36 : decode cX3_init 36 = .ok (.new 9, 3) := by decide +kernel
theorem dX3_init_39 : decode cX3_init 39 = .ok (.dup, 1) := by decide +kernel
theorem dX3_init_40 : decode cX3_init 40 = .ok (.invokespecial 24, 3) := by decide +kernel
theorem dX3_init_43 : decode cX3_init 43 = .ok (.aastore, 1) := by decide +kernel
theorem dX3_init_44 : decode cX3_init 44 = .ok (.iinc 1 1, 3) := by decide +kernel
theorem dX3_init_47 : decode cX3_init 47 = .ok (.goto (-22), 3) := by decide +kernel
theorem dX3_init_50 : decode cX3_init 50 = .ok (.return_, 1) := by decide +kernel
theorem dX3_append_0 : decode cX3_append 0 = .ok (.aload_n 0, 1) := by decide +kernel
theorem dX3_append_1 : decode cX3_append 1 = .ok (.getfield 11, 3) := by decide +kernel
theorem dX3_append_4 : decode cX3_append 4 = .ok (.aload_n 0, 1) := by decide +kernel
theorem dX3_append_5 : decode cX3_append 5 = .ok (.getfield 17, 3) := by decide +kernel
theorem dX3_append_8 : decode cX3_append 8 = .ok (.aaload, 1) := by decide +kernel
theorem dX3_append_9 : decode cX3_append 9 = .ok (.astore 4, 2) := by decide +kernel
theorem dX3_append_11 : decode cX3_append 11 = .ok (.aload 4, 2) := by decide +kernel
theorem dX3_append_13 : decode cX3_append 13 = .ok (.iload_n 1, 1) := by decide +kernel
theorem dX3_append_14 : decode cX3_append 14 = .ok (.putfield 25, 3) := by decide +kernel
theorem dX3_append_17 : decode cX3_append 17 = .ok (.aload 4, 2) := by decide +kernel
theorem dX3_append_19 : decode cX3_append 19 = .ok (.iload_n 2, 1) := by decide +kernel
theorem dX3_append_20 : decode cX3_append 20 = .ok (.putfield 28, 3) := by decide +kernel
theorem dX3_append_23 : decode cX3_append 23 = .ok (.aload 4, 2) := by decide +kernel
theorem dX3_append_25 : decode cX3_append 25 = .ok (.iload_n 3, 1) := by decide +kernel
theorem dX3_append_26 : decode cX3_append 26 = .ok (.putfield 31, 3) := by decide +kernel
theorem dX3_append_29 : decode cX3_append 29 = .ok (.aload_n 0, 1) := by decide +kernel
theorem dX3_append_30 : decode cX3_append 30 = .ok (.aload_n 0, 1) := by decide +kernel
theorem dX3_append_31 : decode cX3_append 31 = .ok (.getfield 17, 3) := by decide +kernel
theorem dX3_append_34 : decode cX3_append 34 = .ok (.iconst 1, 1) := by decide +kernel
theorem dX3_append_35 : decode cX3_append 35 = .ok (.iadd, 1) := by decide +kernel
theorem dX3_append_36 : decode cX3_append 36 = .ok (.bipush 20, 2) := by decide +kernel
theorem dX3_append_38 : decode cX3_append 38 = .ok (.if_icmp .ge 12, 3) := by decide +kernel
theorem dX3_append_41 : decode cX3_append 41 = .ok (.aload_n 0, 1) := by decide +kernel
theorem dX3_append_42 : decode cX3_append 42 = .ok (.getfield 17, 3) := by decide +kernel
theorem dX3_append_45 : decode cX3_append 45 = .ok (.iconst 1, 1) := by decide +kernel
theorem dX3_append_46 : decode cX3_append 46 = .ok (.iadd, 1) := by decide +kernel
theorem dX3_append_47 : decode cX3_append 47 = .ok (.goto 4, 3) := by decide +kernel
theorem dX3_append_50 : decode cX3_append 50 = .ok (.iconst 0, 1) := by decide +kernel
theorem dX3_append_51 : decode cX3_append 51 = .ok (.putfield 17, 3) := by decide +kernel
theorem dX3_append_54 : decode cX3_append 54 = .ok (.aload_n 0, 1) := by decide +kernel
theorem dX3_append_55 : decode cX3_append 55 = .ok (.aload_n 0, 1) := by decide +kernel
theorem dX3_append_56 : decode cX3_append 56 = .ok (.getfield 21, 3) := by decide +kernel
theorem dX3_append_59 : decode cX3_append 59 = .ok (.iconst 1, 1) := by decide +kernel
theorem dX3_append_60 : decode cX3_append 60 = .ok (.iadd, 1) := by decide +kernel
theorem dX3_append_61 : decode cX3_append 61 = .ok (.bipush 20, 2) := by decide +kernel
theorem dX3_append_63 : decode cX3_append 63 = .ok (.invokestatic 34, 3) := by decide +kernel
theorem dX3_append_66 : decode cX3_append 66 = .ok (.putfield 21, 3) := by decide +kernel
theorem dX3_append_69 : decode cX3_append 69 = .ok (.aload 4, 2) := by decide +kernel
theorem dX3_append_71 : decode cX3_append 71 = .ok (.areturn, 1) := by decide +kernel
theorem dX3_takeLatest_0 : decode cX3_takeLatest 0 = .ok (.aload_n 0, 1) := by decide +kernel
theorem dX3_takeLatest_1 : decode cX3_takeLatest 1 = .ok (.aload_n 0, 1) := by decide +kernel
theorem dX3_takeLatest_2 : decode cX3_takeLatest 2 = .ok (.getfield 17, 3) := by decide +kernel
theorem dX3_takeLatest_5 : decode cX3_takeLatest 5 = .ok (.ifCond .le 12, 3) := by decide +kernel
theorem dX3_takeLatest_8 : decode cX3_takeLatest 8 = .ok (.aload_n 0, 1) := by decide +kernel
theorem dX3_takeLatest_9 : decode cX3_takeLatest 9 = .ok (.getfield 17, 3) := by decide +kernel
theorem dX3_takeLatest_12 : decode cX3_takeLatest 12 = .ok (.iconst 1, 1) := by decide +kernel
theorem dX3_takeLatest_13 : decode cX3_takeLatest 13 = .ok (.isub, 1) := by decide +kernel
theorem dX3_takeLatest_14 : decode cX3_takeLatest 14 = .ok (.goto 5, 3) := by decide +kernel
theorem dX3_takeLatest_17 : decode cX3_takeLatest 17 = .ok (.bipush 19, 2) := by decide +kernel
theorem dX3_takeLatest_19 : decode cX3_takeLatest 19 = .ok (.putfield 17, 3) := by decide +kernel
theorem dX3_takeLatest_22 : decode cX3_takeLatest 22 = .ok (.aload_n 0, 1) := by decide +kernel
theorem dX3_takeLatest_23 : decode cX3_takeLatest 23 = .ok (.dup, 1) := by decide +kernel
theorem dX3_takeLatest_24 : decode cX3_takeLatest 24 = .ok (.getfield 21, 3) := by decide +kernel
theorem dX3_takeLatest_27 : decode cX3_takeLatest 27 = .ok (.iconst 1, 1) := by decide +kernel
theorem dX3_takeLatest_28 : decode cX3_takeLatest 28 = .ok (.isub, 1) := by decide +kernel
theorem dX3_takeLatest_29 : decode cX3_takeLatest 29 = .ok (.putfield 21, 3) := by decide +kernel
theorem dX3_takeLatest_32 : decode cX3_takeLatest 32 = .ok (.aload_n 0, 1) := by decide +kernel
theorem dX3_takeLatest_33 : decode cX3_takeLatest 33 = .ok (.getfield 11, 3) := by decide +kernel
theorem dX3_takeLatest_36 : decode cX3_takeLatest 36 = .ok (.aload_n 0, 1) := by decide +kernel
theorem dX3_takeLatest_37 : decode cX3_takeLatest 37 = .ok (.getfield 17, 3) := by decide +kernel
theorem dX3_takeLatest_40 : decode cX3_takeLatest 40 = .ok (.aaload, 1) := by decide +kernel
theorem dX3_takeLatest_41 : decode cX3_takeLatest 41 = .ok (.areturn, 1) := by decide +kernel
theorem dX4_init_0 : decode cX4_init 0 = .ok (.aload_n 0, 1) := by decide +kernel
theorem dX4_init_1 : decode cX4_init 1 = .ok (.invokespecial 3, 3) := by decide +kernel
theorem dX4_init_4 : decode cX4_init 4 = .ok (.aload_n 0, 1) := by decide +kernel
theorem dX4_init_5 : decode cX4_init 5 = .ok (.bipush 32, 2) := by decide +kernel
theorem dX4_init_7 : decode cX4_init 7 = .ok (.newarray .int, 2) := by decide +kernel
theorem dX4_init_9 : decode cX4_init 9 = .ok (.putfield 9, 3) := by decide +kernel
theorem dX4_init_12 : decode cX4_init 12 = .ok (.aload_n 0, 1) := by decide +kernel
theorem dX4_init_13 : decode cX4_init 13 = .ok (.bipush 40, 2) := by decide +kernel
theorem dX4_init_15 : decode cX4_init 15 = .ok (.newarray .int, 2) := by decide +kernel
theorem dX4_init_17 : decode cX4_init 17 = .ok (.putfield 15, 3) := by decide +kernel
theorem dX4_init_20 : decode cX4_init 20 = .ok (.aload_n 0, 1) := by decide +kernel
theorem dX4_init_21 : decode cX4_init 21 = .ok (.bipush 40, 2) := by decide +kernel
theorem dX4_init_23 : decode cX4_init 23 = .ok (.newarray .int, 2) := by decide +kernel
theorem dX4_init_25 : decode cX4_init 25 = .ok (.putfield 18, 3) := by decide +kernel
theorem dX4_init_28 : decode cX4_init 28 = .ok (.aload_n 0, 1) := by decide +kernel
theorem dX4_init_29 : decode cX4_init 29 = .ok (.bipush 40, 2) := by decide +kernel
theorem dX4_init_31 : decode cX4_init 31 = .ok (.newarray .int, 2) := by decide +kernel
theorem dX4_init_33 : decode cX4_init 33 = .ok (.putfield 21, 3) := by decide +kernel
theorem dX4_init_36 : decode cX4_init 36 = .ok (.aload_n 0, 1) := by decide +kernel
theorem dX4_init_37 : decode cX4_init 37 = .ok (.bipush 40, 2) := by decide +kernel
theorem dX4_init_39 : decode cX4_init 39 = .ok (.newarray .int, 2) := by decide +kernel
theorem dX4_init_41 : decode cX4_init 41 = .ok (.putfield 24, 3) := by decide +kernel
theorem dX4_init_44 : decode cX4_init 44 = .ok (.aload_n 0, 1) := by decide +kernel
theorem dX4_init_45 : decode cX4_init 45 = .ok (.iconst 0, 1) := by decide +kernel
theorem dX4_init_46 : decode cX4_init 46 = .ok (.putfield 27, 3) := by decide +kernel
theorem dX4_init_49 : decode cX4_init 49 = .ok (.iconst 0, 1) := by decide +kernel
theorem dX4_init_50 : decode cX4_init 50 = .ok (.istore_n 1, 1) := by decide +kernel
theorem dX4_init_51 : decode cX4_init 51 = .ok (.iload_n 1, 1) := by decide +kernel
theorem dX4_init_52 : decode cX4_init 52 = .ok (.bipush 32, 2) := by decide +kernel
theorem dX4_init_54 : decode cX4_init 54 = .ok (.if_icmp .ge 16, 3) := by decide +kernel
theorem dX4_init_57 : decode cX4_init 57 = .ok (.aload_n 0, 1) := by decide +kernel
theorem dX4_init_58 : decode cX4_init 58 = .ok (.getfield 9, 3) := by decide +kernel
theorem dX4_init_61 : decode cX4_init 61 = .ok (.iload_n 1, 1) := by decide +kernel
theorem dX4_init_62 : decode cX4_init 62 = .ok (.iconst (-1), 1) := by decide +kernel
theorem dX4_init_63 : decode cX4_init 63 = .ok (.iastore, 1) := by decide +kernel
theorem dX4_init_64 : decode cX4_init 64 = .ok (.iinc 1 1, 3) := by decide +kernel
theorem dX4_init_67 : decode cX4_init 67 = .ok (.goto (-16), 3) := by decide +kernel
theorem dX4_init_70 : decode cX4_init 70 = .ok (.return_, 1) := by decide +kernel
theorem dX4_append_0 : decode cX4_append 0 = .ok (.aload_n 0, 1) := by decide +kernel
theorem dX4_append_1 : decode cX4_append 1 = .ok (.getfield 15, 3) := by decide +kernel
theorem dX4_append_4 : decode cX4_append 4 = .ok (.aload_n 0, 1) := by decide +kernel
theorem dX4_append_5 : decode cX4_append 5 = .ok (.getfield 27, 3) := by decide +kernel
theorem dX4_append_8 : decode cX4_append 8 = .ok (.iload_n 1, 1) := by decide +kernel
theorem dX4_append_9 : decode cX4_append 9 = .ok (.iastore, 1) := by decide +kernel
theorem dX4_append_10 : decode cX4_append 10 = .ok (.aload_n 0, 1) := by decide +kernel
theorem dX4_append_11 : decode cX4_append 11 = .ok (.getfield 18, 3) := by decide +kernel
theorem dX4_append_14 : decode cX4_append 14 = .ok (.aload_n 0, 1) := by decide +kernel
theorem dX4_append_15 : decode cX4_append 15 = .ok (.getfield 27, 3) := by decide +kernel
theorem dX4_append_18 : decode cX4_append 18 = .ok (.iload_n 2, 1) := by decide +kernel
theorem dX4_append_19 : decode cX4_append 19 = .ok (.iastore, 1) := by decide +kernel
theorem dX4_append_20 : decode cX4_append 20 = .ok (.aload_n 0, 1) := by decide +kernel
theorem dX4_append_21 : decode cX4_append 21 = .ok (.getfield 21, 3) := by decide +kernel
theorem dX4_append_24 : decode cX4_append 24 = .ok (.aload_n 0, 1) := by decide +kernel
theorem dX4_append_25 : decode cX4_append 25 = .ok (.getfield 27, 3) := by decide +kernel
theorem dX4_append_28 : decode cX4_append 28 = .ok (.iload_n 3, 1) := by decide +kernel
theorem dX4_append_29 : decode cX4_append 29 = .ok (.iastore, 1) := by decide +kernel
theorem dX4_append_30 : decode cX4_append 30 = .ok (.aload_n 0, 1) := by decide +kernel
theorem dX4_append_31 : decode cX4_append 31 = .ok (.getfield 24, 3) := by decide +kernel
theorem dX4_append_34 : decode cX4_append 34 = .ok (.aload_n 0, 1) := by decide +kernel
theorem dX4_append_35 : decode cX4_append 35 = .ok (.getfield 27, 3) := by decide +kernel
theorem dX4_append_38 : decode cX4_append 38 = .ok (.iload 4, 2) := by decide +kernel
theorem dX4_append_40 : decode cX4_append 40 = .ok (.iastore, 1) := by decide +kernel
theorem dX4_append_41 : decode cX4_append 41 = .ok (.aload_n 0, 1) := by decide +kernel
theorem dX4_append_42 : decode cX4_append 42 = .ok (.dup, 1) := by decide +kernel
theorem dX4_append_43 : decode cX4_append 43 = .ok (.getfield 27, 3) := by decide +kernel
theorem dX4_append_46 : decode cX4_append 46 = .ok (.iconst 1, 1) := by decide +kernel
theorem dX4_append_47 : decode cX4_append 47 = .ok (.iadd, 1) := by decide +kernel
theorem dX4_append_48 : decode cX4_append 48 = .ok (.putfield 27, 3) := by decide +kernel
theorem dX4_append_51 : decode cX4_append 51 = .ok (.return_, 1) := by decide +kernel
theorem dX4_isBarred_0 : decode cX4_isBarred 0 = .ok (.iconst (-1), 1) := by decide +kernel
theorem dX4_isBarred_1 : decode cX4_isBarred 1 = .ok (.istore 4, 2) := by decide +kernel
theorem dX4_isBarred_3 : decode cX4_isBarred 3 = .ok (.iconst 0, 1) := by decide +kernel
theorem dX4_isBarred_4 : decode cX4_isBarred 4 = .ok (.istore 5, 2) := by decide +kernel
theorem dX4_isBarred_6 : decode cX4_isBarred 6 = .ok (.iload 5, 2) := by decide +kernel
theorem dX4_isBarred_8 : decode cX4_isBarred 8 = .ok (.aload_n 0, 1) := by decide +kernel
theorem dX4_isBarred_9 : decode cX4_isBarred 9 = .ok (.getfield 27, 3) := by decide +kernel
theorem dX4_isBarred_12 : decode cX4_isBarred 12 = .ok (.if_icmp .ge 48, 3) := by decide +kernel
theorem dX4_isBarred_15 : decode cX4_isBarred 15 = .ok (.aload_n 0, 1) := by decide +kernel
theorem dX4_isBarred_16 : decode cX4_isBarred 16 = .ok (.getfield 18, 3) := by decide +kernel
theorem dX4_isBarred_19 : decode cX4_isBarred 19 = .ok (.iload 5, 2) := by decide +kernel
theorem dX4_isBarred_21 : decode cX4_isBarred 21 = .ok (.iaload, 1) := by decide +kernel
theorem dX4_isBarred_22 : decode cX4_isBarred 22 = .ok (.iconst 2, 1) := by decide +kernel
theorem dX4_isBarred_23 : decode cX4_isBarred 23 = .ok (.if_icmp .eq 31, 3) := by decide +kernel
theorem dX4_isBarred_26 : decode cX4_isBarred 26 = .ok (.aload_n 0, 1) := by decide +kernel
theorem dX4_isBarred_27 : decode cX4_isBarred 27 = .ok (.getfield 21, 3) := by decide +kernel
theorem dX4_isBarred_30 : decode cX4_isBarred 30 = .ok (.iload 5, 2) := by decide +kernel
theorem dX4_isBarred_32 : decode cX4_isBarred 32 = .ok (.iaload, 1) := by decide +kernel
theorem dX4_isBarred_33 : decode cX4_isBarred 33 = .ok (.iload_n 2, 1) := by decide +kernel
theorem dX4_isBarred_34 : decode cX4_isBarred 34 = .ok (.if_icmp .ne 20, 3) := by decide +kernel
theorem dX4_isBarred_37 : decode cX4_isBarred 37 = .ok (.aload_n 0, 1) := by decide +kernel
theorem dX4_isBarred_38 : decode cX4_isBarred 38 = .ok (.iload 5, 2) := by decide +kernel
theorem dX4_isBarred_40 : decode cX4_isBarred 40 = .ok (.iload 4, 2) := by decide +kernel
theorem dX4_isBarred_42 : decode cX4_isBarred 42 = .ok (.iload_n 1, 1) := by decide +kernel
theorem dX4_isBarred_43 : decode cX4_isBarred 43 = .ok (.iload_n 3, 1) := by decide +kernel
theorem dX4_isBarred_44 : decode cX4_isBarred 44 = .ok (.invokevirtual 31, 3) := by decide +kernel
theorem dX4_isBarred_47 : decode cX4_isBarred 47 = .ok (.ifCond .eq 7, 3) := by decide +kernel
theorem dX4_isBarred_50 : decode cX4_isBarred 50 = .ok (.iload 5, 2) := by decide +kernel
theorem dX4_isBarred_52 : decode cX4_isBarred 52 = .ok (.istore 4, 2) := by decide +kernel
theorem dX4_isBarred_54 : decode cX4_isBarred 54 = .ok (.iinc 5 1, 3) := by decide +kernel
theorem dX4_isBarred_57 : decode cX4_isBarred 57 = .ok (.goto (-51), 3) := by decide +kernel
theorem dX4_isBarred_60 : decode cX4_isBarred 60 = .ok (.iload 4, 2) := by decide +kernel
theorem dX4_isBarred_62 : decode cX4_isBarred 62 = .ok (.ifCond .lt 17, 3) := by decide +kernel
theorem dX4_isBarred_65 : decode cX4_isBarred 65 = .ok (.aload_n 0, 1) := by decide +kernel
theorem dX4_isBarred_66 : decode cX4_isBarred 66 = .ok (.getfield 18, 3) := by decide +kernel
theorem dX4_isBarred_69 : decode cX4_isBarred 69 = .ok (.iload 4, 2) := by decide +kernel
theorem dX4_isBarred_71 : decode cX4_isBarred 71 = .ok (.iaload, 1) := by decide +kernel
theorem dX4_isBarred_72 : decode cX4_isBarred 72 = .ok (.ifCond .ne 7, 3) := by decide +kernel
theorem dX4_isBarred_75 : decode cX4_isBarred 75 = .ok (.iconst 1, 1) := by decide +kernel
theorem dX4_isBarred_76 : decode cX4_isBarred 76 = .ok (.goto 4, 3) := by decide +kernel
theorem dX4_isBarred_79 : decode cX4_isBarred 79 = .ok (.iconst 0, 1) := by decide +kernel
theorem dX4_isBarred_80 : decode cX4_isBarred 80 = .ok (.ireturn, 1) := by decide +kernel
theorem dX4_choiceFor_0 : decode cX4_choiceFor 0 = .ok (.iconst (-1), 1) := by decide +kernel
theorem dX4_choiceFor_1 : decode cX4_choiceFor 1 = .ok (.istore 4, 2) := by decide +kernel
theorem dX4_choiceFor_3 : decode cX4_choiceFor 3 = .ok (.iconst 0, 1) := by decide +kernel
theorem dX4_choiceFor_4 : decode cX4_choiceFor 4 = .ok (.istore 5, 2) := by decide +kernel
theorem dX4_choiceFor_6 : decode cX4_choiceFor 6 = .ok (.iload 5, 2) := by decide +kernel
theorem dX4_choiceFor_8 : decode cX4_choiceFor 8 = .ok (.aload_n 0, 1) := by decide +kernel
theorem dX4_choiceFor_9 : decode cX4_choiceFor 9 = .ok (.getfield 27, 3) := by decide +kernel
theorem dX4_choiceFor_12 : decode cX4_choiceFor 12 = .ok (.if_icmp .ge 53, 3) := by decide +kernel
theorem dX4_choiceFor_15 : decode cX4_choiceFor 15 = .ok (.aload_n 0, 1) := by decide +kernel
theorem dX4_choiceFor_16 : decode cX4_choiceFor 16 = .ok (.getfield 18, 3) := by decide +kernel
theorem dX4_choiceFor_19 : decode cX4_choiceFor 19 = .ok (.iload 5, 2) := by decide +kernel
theorem dX4_choiceFor_21 : decode cX4_choiceFor 21 = .ok (.iaload, 1) := by decide +kernel
theorem dX4_choiceFor_22 : decode cX4_choiceFor 22 = .ok (.iconst 2, 1) := by decide +kernel
theorem dX4_choiceFor_23 : decode cX4_choiceFor 23 = .ok (.if_icmp .ne 36, 3) := by decide +kernel
theorem dX4_choiceFor_26 : decode cX4_choiceFor 26 = .ok (.aload_n 0, 1) := by decide +kernel
theorem dX4_choiceFor_27 : decode cX4_choiceFor 27 = .ok (.getfield 9, 3) := by decide +kernel
theorem dX4_choiceFor_30 : decode cX4_choiceFor 30 = .ok (.aload_n 0, 1) := by decide +kernel
theorem dX4_choiceFor_31 : decode cX4_choiceFor 31 = .ok (.getfield 21, 3) := by decide +kernel
theorem dX4_choiceFor_34 : decode cX4_choiceFor 34 = .ok (.iload 5, 2) := by decide +kernel
theorem dX4_choiceFor_36 : decode cX4_choiceFor 36 = .ok (.iaload, 1) := by decide +kernel
theorem dX4_choiceFor_37 : decode cX4_choiceFor 37 = .ok (.iaload, 1) := by decide +kernel
theorem dX4_choiceFor_38 : decode cX4_choiceFor 38 = .ok (.iload_n 2, 1) := by decide +kernel
theorem dX4_choiceFor_39 : decode cX4_choiceFor 39 = .ok (.if_icmp .ne 20, 3) := by decide +kernel
theorem dX4_choiceFor_42 : decode cX4_choiceFor 42 = .ok (.aload_n 0, 1) := by decide +kernel
theorem dX4_choiceFor_43 : decode cX4_choiceFor 43 = .ok (.iload 5, 2) := by decide +kernel
theorem dX4_choiceFor_45 : decode cX4_choiceFor 45 = .ok (.iload 4, 2) := by decide +kernel
theorem dX4_choiceFor_47 : decode cX4_choiceFor 47 = .ok (.iload_n 1, 1) := by decide +kernel
theorem dX4_choiceFor_48 : decode cX4_choiceFor 48 = .ok (.iload_n 3, 1) := by decide +kernel
theorem dX4_choiceFor_49 : decode cX4_choiceFor 49 = .ok (.invokevirtual 31, 3) := by decide +kernel
theorem dX4_choiceFor_52 : decode cX4_choiceFor 52 = .ok (.ifCond .eq 7, 3) := by decide +kernel
theorem dX4_choiceFor_55 : decode cX4_choiceFor 55 = .ok (.iload 5, 2) := by decide +kernel
theorem dX4_choiceFor_57 : decode cX4_choiceFor 57 = .ok (.istore 4, 2) := by decide +kernel
theorem dX4_choiceFor_59 : decode cX4_choiceFor 59 = .ok (.iinc 5 1, 3) := by decide +kernel
theorem dX4_choiceFor_62 : decode cX4_choiceFor 62 = .ok (.goto (-56), 3) := by decide +kernel
theorem dX4_choiceFor_65 : decode cX4_choiceFor 65 = .ok (.iload 4, 2) := by decide +kernel
theorem dX4_choiceFor_67 : decode cX4_choiceFor 67 = .ok (.ifCond .ge 7, 3) := by decide +kernel
theorem dX4_choiceFor_70 : decode cX4_choiceFor 70 = .ok (.iconst (-1), 1) := by decide +kernel
theorem dX4_choiceFor_71 : decode cX4_choiceFor 71 = .ok (.goto 10, 3) := by decide +kernel
theorem dX4_choiceFor_74 : decode cX4_choiceFor 74 = .ok (.aload_n 0, 1) := by decide +kernel
theorem dX4_choiceFor_75 : decode cX4_choiceFor 75 = .ok (.getfield 21, 3) := by decide +kernel
theorem dX4_choiceFor_78 : decode cX4_choiceFor 78 = .ok (.iload 4, 2) := by decide +kernel
theorem dX4_choiceFor_80 : decode cX4_choiceFor 80 = .ok (.iaload, 1) := by decide +kernel
theorem dX4_choiceFor_81 : decode cX4_choiceFor 81 = .ok (.ireturn, 1) := by decide +kernel
theorem dX4_allows_0 : decode cX4_allows 0 = .ok (.iconst 0, 1) := by decide +kernel
theorem dX4_allows_1 : decode cX4_allows 1 = .ok (.istore 4, 2) := by decide +kernel
theorem dX4_allows_3 : decode cX4_allows 3 = .ok (.iload 4, 2) := by decide +kernel
theorem dX4_allows_5 : decode cX4_allows 5 = .ok (.aload_n 1, 1) := by decide +kernel
theorem dX4_allows_6 : decode cX4_allows 6 = .ok (.getfield 35, 3) := by decide +kernel
theorem dX4_allows_9 : decode cX4_allows 9 = .ok (.if_icmp .ge 27, 3) := by decide +kernel
theorem dX4_allows_12 : decode cX4_allows 12 = .ok (.aload_n 0, 1) := by decide +kernel
theorem dX4_allows_13 : decode cX4_allows 13 = .ok (.aload_n 1, 1) := by decide +kernel
theorem dX4_allows_14 : decode cX4_allows 14 = .ok (.getfield 40, 3) := by decide +kernel
theorem dX4_allows_17 : decode cX4_allows 17 = .ok (.iload 4, 2) := by decide +kernel
theorem dX4_allows_19 : decode cX4_allows 19 = .ok (.iaload, 1) := by decide +kernel
theorem dX4_allows_20 : decode cX4_allows 20 = .ok (.iload_n 2, 1) := by decide +kernel
theorem dX4_allows_21 : decode cX4_allows 21 = .ok (.iload_n 3, 1) := by decide +kernel
theorem dX4_allows_22 : decode cX4_allows 22 = .ok (.invokevirtual 41, 3) := by decide +kernel
theorem dX4_allows_25 : decode cX4_allows 25 = .ok (.ifCond .ne 5, 3) := by decide +kernel
theorem dX4_allows_28 : decode cX4_allows 28 = .ok (.iconst 0, 1) := by decide +kernel
theorem dX4_allows_29 : decode cX4_allows 29 = .ok (.ireturn, 1) := by decide +kernel
theorem dX4_allows_30 : decode cX4_allows 30 = .ok (.iinc 4 1, 3) := by decide +kernel
theorem dX4_allows_33 : decode cX4_allows 33 = .ok (.goto (-30), 3) := by decide +kernel
theorem dX4_allows_36 : decode cX4_allows 36 = .ok (.iconst 1, 1) := by decide +kernel
theorem dX4_allows_37 : decode cX4_allows 37 = .ok (.ireturn, 1) := by decide +kernel
theorem dX4_allowsWord_0 : decode cX4_allowsWord 0 = .ok (.aload_n 0, 1) := by decide +kernel
theorem dX4_allowsWord_1 : decode cX4_allowsWord 1 = .ok (.iload_n 2, 1) := by decide +kernel
theorem dX4_allowsWord_2 : decode cX4_allowsWord 2 = .ok (.iload_n 1, 1) := by decide +kernel
theorem dX4_allowsWord_3 : decode cX4_allowsWord 3 = .ok (.iload_n 3, 1) := by decide +kernel
theorem dX4_allowsWord_4 : decode cX4_allowsWord 4 = .ok (.invokevirtual 45, 3) := by decide +kernel
theorem dX4_allowsWord_7 : decode cX4_allowsWord 7 = .ok (.ifCond .eq 5, 3) := by decide +kernel
theorem dX4_allowsWord_10 : decode cX4_allowsWord 10 = .ok (.iconst 0, 1) := by decide +kernel
theorem dX4_allowsWord_11 : decode cX4_allowsWord 11 = .ok (.ireturn, 1) := by decide +kernel
theorem dX4_allowsWord_12 : decode cX4_allowsWord 12 = .ok (.aload_n 0, 1) := by decide +kernel
theorem dX4_allowsWord_13 : decode cX4_allowsWord 13 = .ok (.getfield 9, 3) := by decide +kernel
theorem dX4_allowsWord_16 : decode cX4_allowsWord 16 = .ok (.iload_n 1, 1) := by decide +kernel
theorem dX4_allowsWord_17 : decode cX4_allowsWord 17 = .ok (.iaload, 1) := by decide +kernel
theorem dX4_allowsWord_18 : decode cX4_allowsWord 18 = .ok (.ifCond .ge 5, 3) := by decide +kernel
theorem dX4_allowsWord_21 : decode cX4_allowsWord 21 = .ok (.iconst 1, 1) := by decide +kernel
theorem dX4_allowsWord_22 : decode cX4_allowsWord 22 = .ok (.ireturn, 1) := by decide +kernel
theorem dX4_allowsWord_23 : decode cX4_allowsWord 23 = .ok (.aload_n 0, 1) := by decide +kernel
theorem dX4_allowsWord_24 : decode cX4_allowsWord 24 = .ok (.iload_n 2, 1) := by decide +kernel
theorem dX4_allowsWord_25 : decode cX4_allowsWord 25 = .ok (.aload_n 0, 1) := by decide +kernel
theorem dX4_allowsWord_26 : decode cX4_allowsWord 26 = .ok (.getfield 9, 3) := by decide +kernel
theorem dX4_allowsWord_29 : decode cX4_allowsWord 29 = .ok (.iload_n 1, 1) := by decide +kernel
theorem dX4_allowsWord_30 : decode cX4_allowsWord 30 = .ok (.iaload, 1) := by decide +kernel
theorem dX4_allowsWord_31 : decode cX4_allowsWord 31 = .ok (.iload_n 3, 1) := by decide +kernel
theorem dX4_allowsWord_32 : decode cX4_allowsWord 32 = .ok (.invokevirtual 48, 3) := by decide +kernel
theorem dX4_allowsWord_35 : decode cX4_allowsWord 35 = .ok (.istore 4, 2) := by decide +kernel
theorem dX4_allowsWord_37 : decode cX4_allowsWord 37 = .ok (.iload 4, 2) := by decide +kernel
theorem dX4_allowsWord_39 : decode cX4_allowsWord 39 = .ok (.ifCond .lt 9, 3) := by decide +kernel
theorem dX4_allowsWord_42 : decode cX4_allowsWord 42 = .ok (.iload 4, 2) := by decide +kernel
theorem dX4_allowsWord_44 : decode cX4_allowsWord 44 = .ok (.iload_n 1, 1) := by decide +kernel
theorem dX4_allowsWord_45 : decode cX4_allowsWord 45 = .ok (.if_icmp .ne 7, 3) := by decide +kernel
theorem dX4_allowsWord_48 : decode cX4_allowsWord 48 = .ok (.iconst 1, 1) := by decide +kernel
theorem dX4_allowsWord_49 : decode cX4_allowsWord 49 = .ok (.goto 4, 3) := by decide +kernel
theorem dX4_allowsWord_52 : decode cX4_allowsWord 52 = .ok (.iconst 0, 1) := by decide +kernel
theorem dX4_allowsWord_53 : decode cX4_allowsWord 53 = .ok (.ireturn, 1) := by decide +kernel
theorem dX4_overrules_0 : decode cX4_overrules 0 = .ok (.aload_n 0, 1) := by decide +kernel
theorem dX4_overrules_1 : decode cX4_overrules 1 = .ok (.getfield 15, 3) := by decide +kernel
theorem dX4_overrules_4 : decode cX4_overrules 4 = .ok (.iload_n 1, 1) := by decide +kernel
theorem dX4_overrules_5 : decode cX4_overrules 5 = .ok (.iaload, 1) := by decide +kernel
theorem dX4_overrules_6 : decode cX4_overrules 6 = .ok (.iload_n 3, 1) := by decide +kernel
theorem dX4_overrules_7 : decode cX4_overrules 7 = .ok (.if_icmp .ne 37, 3) := by decide +kernel
theorem dX4_overrules_10 : decode cX4_overrules 10 = .ok (.aload_n 0, 1) := by decide +kernel
theorem dX4_overrules_11 : decode cX4_overrules 11 = .ok (.getfield 24, 3) := by decide +kernel
theorem dX4_overrules_14 : decode cX4_overrules 14 = .ok (.iload_n 1, 1) := by decide +kernel
theorem dX4_overrules_15 : decode cX4_overrules 15 = .ok (.iaload, 1) := by decide +kernel
theorem dX4_overrules_16 : decode cX4_overrules 16 = .ok (.iload 4, 2) := by decide +kernel
theorem dX4_overrules_18 : decode cX4_overrules 18 = .ok (.if_icmp .gt 26, 3) := by decide +kernel
theorem dX4_overrules_21 : decode cX4_overrules 21 = .ok (.iload_n 2, 1) := by decide +kernel
theorem dX4_overrules_22 : decode cX4_overrules 22 = .ok (.ifCond .lt 18, 3) := by decide +kernel
theorem dX4_overrules_25 : decode cX4_overrules 25 = .ok (.aload_n 0, 1) := by decide +kernel
theorem dX4_overrules_26 : decode cX4_overrules 26 = .ok (.getfield 24, 3) := by decide +kernel
theorem dX4_overrules_29 : decode cX4_overrules 29 = .ok (.iload_n 1, 1) := by decide +kernel
theorem dX4_overrules_30 : decode cX4_overrules 30 = .ok (.iaload, 1) := by decide +kernel
theorem dX4_overrules_31 : decode cX4_overrules 31 = .ok (.aload_n 0, 1) := by decide +kernel
theorem dX4_overrules_32 : decode cX4_overrules 32 = .ok (.getfield 24, 3) := by decide +kernel
theorem dX4_overrules_35 : decode cX4_overrules 35 = .ok (.iload_n 2, 1) := by decide +kernel
theorem dX4_overrules_36 : decode cX4_overrules 36 = .ok (.iaload, 1) := by decide +kernel
theorem dX4_overrules_37 : decode cX4_overrules 37 = .ok (.if_icmp .lt 7, 3) := by decide +kernel
theorem dX4_overrules_40 : decode cX4_overrules 40 = .ok (.iconst 1, 1) := by decide +kernel
theorem dX4_overrules_41 : decode cX4_overrules 41 = .ok (.goto 4, 3) := by decide +kernel
theorem dX4_overrules_44 : decode cX4_overrules 44 = .ok (.iconst 0, 1) := by decide +kernel
theorem dX4_overrules_45 : decode cX4_overrules 45 = .ok (.ireturn, 1) := by decide +kernel
theorem dX5_init_0 : decode cX5_init 0 = .ok (.aload_n 0, 1) := by decide +kernel
theorem dX5_init_1 : decode cX5_init 1 = .ok (.invokespecial 3, 3) := by decide +kernel
theorem dX5_init_4 : decode cX5_init 4 = .ok (.aload_n 0, 1) := by decide +kernel
theorem dX5_init_5 : decode cX5_init 5 = .ok (.bipush 24, 2) := by decide +kernel
theorem dX5_init_7 : decode cX5_init 7 = .ok (.newarray .int, 2) := by decide +kernel
theorem dX5_init_9 : decode cX5_init 9 = .ok (.putfield 9, 3) := by decide +kernel
theorem dX5_init_12 : decode cX5_init 12 = .ok (.aload_n 0, 1) := by decide +kernel
theorem dX5_init_13 : decode cX5_init 13 = .ok (.iconst 0, 1) := by decide +kernel
theorem dX5_init_14 : decode cX5_init 14 = .ok (.putfield 15, 3) := by decide +kernel
theorem dX5_init_17 : decode cX5_init 17 = .ok (.aload_n 0, 1) := by decide +kernel
theorem dX5_init_18 : decode cX5_init 18 = .ok (.iconst 0, 1) := by decide +kernel
theorem dX5_init_19 : decode cX5_init 19 = .ok (.putfield 19, 3) := by decide +kernel
theorem dX5_init_22 : decode cX5_init 22 = .ok (.return_, 1) := by decide +kernel
theorem dX5_begin_0 : decode cX5_begin 0 = .ok (.aload_n 0, 1) := by decide +kernel
theorem dX5_begin_1 : decode cX5_begin 1 = .ok (.iload_n 1, 1) := by decide +kernel
theorem dX5_begin_2 : decode cX5_begin 2 = .ok (.putfield 15, 3) := by decide +kernel
theorem dX5_begin_5 : decode cX5_begin 5 = .ok (.aload_n 0, 1) := by decide +kernel
theorem dX5_begin_6 : decode cX5_begin 6 = .ok (.iconst 0, 1) := by decide +kernel
theorem dX5_begin_7 : decode cX5_begin 7 = .ok (.putfield 19, 3) := by decide +kernel
theorem dX5_begin_10 : decode cX5_begin 10 = .ok (.return_, 1) := by decide +kernel
theorem dX5_takeFrames_0 : decode cX5_takeFrames 0 = .ok (.aload_n 1, 1) := by decide +kernel
theorem dX5_takeFrames_1 : decode cX5_takeFrames 1 = .ok (.iconst 0, 1) := by decide +kernel
theorem dX5_takeFrames_2 : decode cX5_takeFrames 2 = .ok (.aload_n 0, 1) := by decide +kernel
theorem dX5_takeFrames_3 : decode cX5_takeFrames 3 = .ok (.getfield 9, 3) := by decide +kernel
theorem dX5_takeFrames_6 : decode cX5_takeFrames 6 = .ok (.iconst 0, 1) := by decide +kernel
theorem dX5_takeFrames_7 : decode cX5_takeFrames 7 = .ok (.iload_n 2, 1) := by decide +kernel
theorem dX5_takeFrames_8 : decode cX5_takeFrames 8 = .ok (.invokestatic 22, 3) := by decide +kernel
theorem dX5_takeFrames_11 : decode cX5_takeFrames 11 = .ok (.aload_n 0, 1) := by decide +kernel
theorem dX5_takeFrames_12 : decode cX5_takeFrames 12 = .ok (.iload_n 2, 1) := by decide +kernel
theorem dX5_takeFrames_13 : decode cX5_takeFrames 13 = .ok (.putfield 19, 3) := by decide +kernel
theorem dX5_takeFrames_16 : decode cX5_takeFrames 16 = .ok (.return_, 1) := by decide +kernel
theorem dX6_init_0 : decode cX6_init 0 = .ok (.aload_n 0, 1) := by decide +kernel
theorem dX6_init_1 : decode cX6_init 1 = .ok (.invokespecial 3, 3) := by decide +kernel
theorem dX6_init_4 : decode cX6_init 4 = .ok (.aload_n 0, 1) := by decide +kernel
theorem dX6_init_5 : decode cX6_init 5 = .ok (.bipush 25, 2) := by decide +kernel
theorem dX6_init_7 : decode cX6_init 7 = .ok (.newarray .int, 2) := by decide +kernel
theorem dX6_init_9 : decode cX6_init 9 = .ok (.putfield 9, 3) := by decide +kernel
theorem dX6_init_12 : decode cX6_init 12 = .ok (.return_, 1) := by decide +kernel
theorem dX6_countKept_0 : decode cX6_countKept 0 = .ok (.iconst 0, 1) := by decide +kernel
theorem dX6_countKept_1 : decode cX6_countKept 1 = .ok (.istore 5, 2) := by decide +kernel
theorem dX6_countKept_3 : decode cX6_countKept 3 = .ok (.iload 5, 2) := by decide +kernel
theorem dX6_countKept_5 : decode cX6_countKept 5 = .ok (.iload 4, 2) := by decide +kernel
theorem dX6_countKept_7 : decode cX6_countKept 7 = .ok (.if_icmp .gt 17, 3) := by decide +kernel
theorem dX6_countKept_10 : decode cX6_countKept 10 = .ok (.aload_n 0, 1) := by decide +kernel
theorem dX6_countKept_11 : decode cX6_countKept 11 = .ok (.getfield 9, 3) := by decide +kernel
theorem dX6_countKept_14 : decode cX6_countKept 14 = .ok (.iload 5, 2) := by decide +kernel
theorem dX6_countKept_16 : decode cX6_countKept 16 = .ok (.iconst 0, 1) := by decide +kernel
theorem dX6_countKept_17 : decode cX6_countKept 17 = .ok (.iastore, 1) := by decide +kernel
theorem dX6_countKept_18 : decode cX6_countKept 18 = .ok (.iinc 5 1, 3) := by decide +kernel
theorem dX6_countKept_21 : decode cX6_countKept 21 = .ok (.goto (-18), 3) := by decide +kernel
theorem dX6_countKept_24 : decode cX6_countKept 24 = .ok (.iconst 0, 1) := by decide +kernel
theorem dX6_countKept_25 : decode cX6_countKept 25 = .ok (.istore 5, 2) := by decide +kernel
theorem dX6_countKept_27 : decode cX6_countKept 27 = .ok (.iload 5, 2) := by decide +kernel
theorem dX6_countKept_29 : decode cX6_countKept 29 = .ok (.iload_n 2, 1) := by decide +kernel
theorem dX6_countKept_30 : decode cX6_countKept 30 = .ok (.if_icmp .ge 82, 3) := by decide +kernel
theorem dX6_countKept_33 : decode cX6_countKept 33 = .ok (.iconst 0, 1) := by decide +kernel
theorem dX6_countKept_34 : decode cX6_countKept 34 = .ok (.istore 6, 2) := by decide +kernel
theorem dX6_countKept_36 : decode cX6_countKept 36 = .ok (.iconst 1, 1) := by decide +kernel
theorem dX6_countKept_37 : decode cX6_countKept 37 = .ok (.istore 7, 2) := by decide +kernel
theorem dX6_countKept_39 : decode cX6_countKept 39 = .ok (.iload 7, 2) := by decide +kernel
theorem dX6_countKept_41 : decode cX6_countKept 41 = .ok (.iload 4, 2) := by decide +kernel
theorem dX6_countKept_43 : decode cX6_countKept 43 = .ok (.if_icmp .gt 63, 3) := by decide +kernel
theorem dX6_countKept_46 : decode cX6_countKept 46 = .ok (.aload_n 0, 1) := by decide +kernel
theorem dX6_countKept_47 : decode cX6_countKept 47 = .ok (.getfield 9, 3) := by decide +kernel
theorem dX6_countKept_50 : decode cX6_countKept 50 = .ok (.iload 7, 2) := by decide +kernel
theorem dX6_countKept_52 : decode cX6_countKept 52 = .ok (.iaload, 1) := by decide +kernel
theorem dX6_countKept_53 : decode cX6_countKept 53 = .ok (.istore 8, 2) := by decide +kernel
theorem dX6_countKept_55 : decode cX6_countKept 55 = .ok (.aload_n 0, 1) := by decide +kernel
theorem dX6_countKept_56 : decode cX6_countKept 56 = .ok (.getfield 9, 3) := by decide +kernel
theorem dX6_countKept_59 : decode cX6_countKept 59 = .ok (.iload 7, 2) := by decide +kernel
theorem dX6_countKept_61 : decode cX6_countKept 61 = .ok (.aload_n 1, 1) := by decide +kernel
theorem dX6_countKept_62 : decode cX6_countKept 62 = .ok (.iload 5, 2) := by decide +kernel
theorem dX6_countKept_64 : decode cX6_countKept 64 = .ok (.iaload, 1) := by decide +kernel
theorem dX6_countKept_65 : decode cX6_countKept 65 = .ok (.aload_n 3, 1) := by decide +kernel
theorem dX6_countKept_66 : decode cX6_countKept 66 = .ok (.iload 7, 2) := by decide +kernel
theorem dX6_countKept_68 : decode cX6_countKept 68 = .ok (.iconst 1, 1) := by decide +kernel
theorem dX6_countKept_69 : decode cX6_countKept 69 = .ok (.isub, 1) := by decide +kernel
theorem dX6_countKept_70 : decode cX6_countKept 70 = .ok (.iaload, 1) := by decide +kernel
theorem dX6_countKept_71 : decode cX6_countKept 71 = .ok (.if_icmp .ne 10, 3) := by decide +kernel
theorem dX6_countKept_74 : decode cX6_countKept 74 = .ok (.iload 6, 2) := by decide +kernel
theorem dX6_countKept_76 : decode cX6_countKept 76 = .ok (.iconst 1, 1) := by decide +kernel
theorem dX6_countKept_77 : decode cX6_countKept 77 = .ok (.iadd, 1) := by decide +kernel
theorem dX6_countKept_78 : decode cX6_countKept 78 = .ok (.goto 17, 3) := by decide +kernel
theorem dX6_countKept_81 : decode cX6_countKept 81 = .ok (.iload 8, 2) := by decide +kernel
theorem dX6_countKept_83 : decode cX6_countKept 83 = .ok (.aload_n 0, 1) := by decide +kernel
theorem dX6_countKept_84 : decode cX6_countKept 84 = .ok (.getfield 9, 3) := by decide +kernel
theorem dX6_countKept_87 : decode cX6_countKept 87 = .ok (.iload 7, 2) := by decide +kernel
theorem dX6_countKept_89 : decode cX6_countKept 89 = .ok (.iconst 1, 1) := by decide +kernel
theorem dX6_countKept_90 : decode cX6_countKept 90 = .ok (.isub, 1) := by decide +kernel
theorem dX6_countKept_91 : decode cX6_countKept 91 = .ok (.iaload, 1) := by decide +kernel
theorem dX6_countKept_92 : decode cX6_countKept 92 = .ok (.invokestatic 15, 3) := by decide +kernel
theorem dX6_countKept_95 : decode cX6_countKept 95 = .ok (.iastore, 1) := by decide +kernel
theorem dX6_countKept_96 : decode cX6_countKept 96 = .ok (.iload 8, 2) := by decide +kernel
theorem dX6_countKept_98 : decode cX6_countKept 98 = .ok (.istore 6, 2) := by decide +kernel
theorem dX6_countKept_100 : decode cX6_countKept 100 = .ok (.iinc 7 1, 3) := by decide +kernel
theorem dX6_countKept_103 : decode cX6_countKept 103 = .ok (.goto (-64), 3) := by decide +kernel
theorem dX6_countKept_106 : decode cX6_countKept 106 = .ok (.iinc 5 1, 3) := by decide +kernel
theorem dX6_countKept_109 : decode cX6_countKept 109 = .ok (.goto (-82), 3) := by decide +kernel
theorem dX6_countKept_112 : decode cX6_countKept 112 = .ok (.aload_n 0, 1) := by decide +kernel
theorem dX6_countKept_113 : decode cX6_countKept 113 = .ok (.getfield 9, 3) := by decide +kernel
theorem dX6_countKept_116 : decode cX6_countKept 116 = .ok (.iload 4, 2) := by decide +kernel
theorem dX6_countKept_118 : decode cX6_countKept 118 = .ok (.iaload, 1) := by decide +kernel
theorem dX6_countKept_119 : decode cX6_countKept 119 = .ok (.ireturn, 1) := by decide +kernel
theorem dX7_init_0 : decode cX7_init 0 = .ok (.aload_n 0, 1) := by decide +kernel
theorem dX7_init_1 : decode cX7_init 1 = .ok (.invokespecial 3, 3) := by decide +kernel
theorem dX7_init_4 : decode cX7_init 4 = .ok (.aload_n 0, 1) := by decide +kernel
theorem dX7_init_5 : decode cX7_init 5 = .ok (.bipush 7, 2) := by decide +kernel
theorem dX7_init_7 : decode cX7_init 7 = .ok (.newarray .int, 2) := by decide +kernel
theorem dX7_init_9 : decode cX7_init 9 = .ok (.putfield 9, 3) := by decide +kernel
theorem dX7_init_12 : decode cX7_init 12 = .ok (.aload_n 0, 1) := by decide +kernel
theorem dX7_init_13 : decode cX7_init 13 = .ok (.bipush 7, 2) := by decide +kernel
theorem dX7_init_15 : decode cX7_init 15 = .ok (.newarray .int, 2) := by decide +kernel
theorem dX7_init_17 : decode cX7_init 17 = .ok (.putfield 15, 3) := by decide +kernel
theorem dX7_init_20 : decode cX7_init 20 = .ok (.aload_n 0, 1) := by decide +kernel
theorem dX7_init_21 : decode cX7_init 21 = .ok (.bipush 7, 2) := by decide +kernel
theorem dX7_init_23 : decode cX7_init 23 = .ok (.newarray .int, 2) := by decide +kernel
theorem dX7_init_25 : decode cX7_init 25 = .ok (.putfield 18, 3) := by decide +kernel
theorem dX7_init_28 : decode cX7_init 28 = .ok (.aload_n 0, 1) := by decide +kernel
theorem dX7_init_29 : decode cX7_init 29 = .ok (.bipush 7, 2) := by decide +kernel
theorem dX7_init_31 : decode cX7_init 31 = .ok (.newarray .int, 2) := by decide +kernel
theorem dX7_init_33 : decode cX7_init 33 = .ok (.putfield 21, 3) := by decide +kernel
theorem dX7_init_36 : decode cX7_init 36 = .ok (.aload_n 0, 1) := by decide +kernel
theorem dX7_init_37 : decode cX7_init 37 = .ok (.iconst 4, 1) := by decide +kernel
theorem dX7_init_38 : decode cX7_init 38 = .ok (.newarray .int, 2) := by decide +kernel
theorem dX7_init_40 : decode cX7_init 40 = .ok (.putfield 24, 3) := by decide +kernel
theorem dX7_init_43 : decode cX7_init 43 = .ok (.aload_n 0, 1) := by decide +kernel
theorem dX7_init_44 : decode cX7_init 44 = .ok (.iconst 4, 1) := by decide +kernel
theorem dX7_init_45 : decode cX7_init 45 = .ok (.newarray .int, 2) := by decide +kernel
theorem dX7_init_47 : decode cX7_init 47 = .ok (.putfield 27, 3) := by decide +kernel
theorem dX7_init_50 : decode cX7_init 50 = .ok (.aload_n 0, 1) := by decide +kernel
theorem dX7_init_51 : decode cX7_init 51 = .ok (.bipush 7, 2) := by decide +kernel
theorem dX7_init_53 : decode cX7_init 53 = .ok (.newarray .int, 2) := by decide +kernel
theorem dX7_init_55 : decode cX7_init 55 = .ok (.putfield 30, 3) := by decide +kernel
theorem dX7_init_58 : decode cX7_init 58 = .ok (.aload_n 0, 1) := by decide +kernel
theorem dX7_init_59 : decode cX7_init 59 = .ok (.iconst 0, 1) := by decide +kernel
theorem dX7_init_60 : decode cX7_init 60 = .ok (.putfield 33, 3) := by decide +kernel
theorem dX7_init_63 : decode cX7_init 63 = .ok (.aload_n 0, 1) := by decide +kernel
theorem dX7_init_64 : decode cX7_init 64 = .ok (.iconst 0, 1) := by decide +kernel
theorem dX7_init_65 : decode cX7_init 65 = .ok (.putfield 37, 3) := by decide +kernel
theorem dX7_init_68 : decode cX7_init 68 = .ok (.aload_n 0, 1) := by decide +kernel
theorem dX7_init_69 : decode cX7_init 69 = .ok (.iconst 0, 1) := by decide +kernel
theorem dX7_init_70 : decode cX7_init 70 = .ok (.putfield 40, 3) := by decide +kernel
theorem dX7_init_73 : decode cX7_init 73 = .ok (.aload_n 0, 1) := by decide +kernel
theorem dX7_init_74 : decode cX7_init 74 = .ok (.iconst 0, 1) := by decide +kernel
theorem dX7_init_75 : decode cX7_init 75 = .ok (.putfield 44, 3) := by decide +kernel
theorem dX7_init_78 : decode cX7_init 78 = .ok (.return_, 1) := by decide +kernel
theorem dX7_seekPlans_0 : decode cX7_seekPlans 0 = .ok (.aload_n 0, 1) := by decide +kernel
theorem dX7_seekPlans_1 : decode cX7_seekPlans 1 = .ok (.getfield 40, 3) := by decide +kernel
theorem dX7_seekPlans_4 : decode cX7_seekPlans 4 = .ok (.ifCond .eq 4, 3) := by decide +kernel
theorem dX7_seekPlans_7 : decode cX7_seekPlans 7 = .ok (.return_, 1) := by decide +kernel
theorem dX7_seekPlans_8 : decode cX7_seekPlans 8 = .ok (.aload_n 0, 1) := by decide +kernel
theorem dX7_seekPlans_9 : decode cX7_seekPlans 9 = .ok (.aload_n 1, 1) := by decide +kernel
theorem dX7_seekPlans_10 : decode cX7_seekPlans 10 = .ok (.aload_n 2, 1) := by decide +kernel
theorem dX7_seekPlans_11 : decode cX7_seekPlans 11 = .ok (.invokevirtual 47, 3) := by decide +kernel
theorem dX7_seekPlans_14 : decode cX7_seekPlans 14 = .ok (.aload_n 0, 1) := by decide +kernel
theorem dX7_seekPlans_15 : decode cX7_seekPlans 15 = .ok (.iconst 0, 1) := by decide +kernel
theorem dX7_seekPlans_16 : decode cX7_seekPlans 16 = .ok (.iconst 0, 1) := by decide +kernel
theorem dX7_seekPlans_17 : decode cX7_seekPlans 17 = .ok (.invokevirtual 51, 3) := by decide +kernel
theorem dX7_seekPlans_20 : decode cX7_seekPlans 20 = .ok (.aload_n 0, 1) := by decide +kernel
theorem dX7_seekPlans_21 : decode cX7_seekPlans 21 = .ok (.iconst 1, 1) := by decide +kernel
theorem dX7_seekPlans_22 : decode cX7_seekPlans 22 = .ok (.putfield 40, 3) := by decide +kernel
theorem dX7_seekPlans_25 : decode cX7_seekPlans 25 = .ok (.return_, 1) := by decide +kernel
theorem dX7_prepare_0 : decode cX7_prepare 0 = .ok (.aload_n 0, 1) := by decide +kernel
theorem dX7_prepare_1 : decode cX7_prepare 1 = .ok (.aload_n 1, 1) := by decide +kernel
theorem dX7_prepare_2 : decode cX7_prepare 2 = .ok (.getfield 55, 3) := by decide +kernel
theorem dX7_prepare_5 : decode cX7_prepare 5 = .ok (.putfield 44, 3) := by decide +kernel
theorem dX7_prepare_8 : decode cX7_prepare 8 = .ok (.iconst 0, 1) := by decide +kernel
theorem dX7_prepare_9 : decode cX7_prepare 9 = .ok (.istore_n 3, 1) := by decide +kernel
theorem dX7_prepare_10 : decode cX7_prepare 10 = .ok (.iload_n 3, 1) := by decide +kernel
theorem dX7_prepare_11 : decode cX7_prepare 11 = .ok (.aload_n 0, 1) := by decide +kernel
theorem dX7_prepare_12 : decode cX7_prepare 12 = .ok (.getfield 44, 3) := by decide +kernel
theorem dX7_prepare_15 : decode cX7_prepare 15 = .ok (.if_icmp .ge 54, 3) := by decide +kernel
theorem dX7_prepare_18 : decode cX7_prepare 18 = .ok (.aload_n 0, 1) := by decide +kernel
theorem dX7_prepare_19 : decode cX7_prepare 19 = .ok (.getfield 9, 3) := by decide +kernel
theorem dX7_prepare_22 : decode cX7_prepare 22 = .ok (.iload_n 3, 1) := by decide +kernel
theorem dX7_prepare_23 : decode cX7_prepare 23 = .ok (.aload_n 1, 1) := by decide +kernel
theorem dX7_prepare_24 : decode cX7_prepare 24 = .ok (.iload_n 3, 1) := by decide +kernel
theorem dX7_prepare_25 : decode cX7_prepare 25 = .ok (.aload_n 2, 1) := by decide +kernel
theorem dX7_prepare_26 : decode cX7_prepare 26 = .ok (.invokevirtual 58, 3) := by decide +kernel
theorem dX7_prepare_29 : decode cX7_prepare 29 = .ok (.iastore, 1) := by decide +kernel
theorem dX7_prepare_30 : decode cX7_prepare 30 = .ok (.aload_n 0, 1) := by decide +kernel
theorem dX7_prepare_31 : decode cX7_prepare 31 = .ok (.getfield 15, 3) := by decide +kernel
theorem dX7_prepare_34 : decode cX7_prepare 34 = .ok (.iload_n 3, 1) := by decide +kernel
theorem dX7_prepare_35 : decode cX7_prepare 35 = .ok (.aload_n 1, 1) := by decide +kernel
theorem dX7_prepare_36 : decode cX7_prepare 36 = .ok (.aload_n 0, 1) := by decide +kernel
theorem dX7_prepare_37 : decode cX7_prepare 37 = .ok (.getfield 9, 3) := by decide +kernel
theorem dX7_prepare_40 : decode cX7_prepare 40 = .ok (.iload_n 3, 1) := by decide +kernel
theorem dX7_prepare_41 : decode cX7_prepare 41 = .ok (.iaload, 1) := by decide +kernel
theorem dX7_prepare_42 : decode cX7_prepare 42 = .ok (.invokevirtual 62, 3) := by decide +kernel
theorem dX7_prepare_45 : decode cX7_prepare 45 = .ok (.iastore, 1) := by decide +kernel
theorem dX7_prepare_46 : decode cX7_prepare 46 = .ok (.aload_n 0, 1) := by decide +kernel
theorem dX7_prepare_47 : decode cX7_prepare 47 = .ok (.getfield 18, 3) := by decide +kernel
theorem dX7_prepare_50 : decode cX7_prepare 50 = .ok (.iload_n 3, 1) := by decide +kernel
theorem dX7_prepare_51 : decode cX7_prepare 51 = .ok (.iconst 5, 1) := by decide +kernel
theorem dX7_prepare_52 : decode cX7_prepare 52 = .ok (.aload_n 1, 1) := by decide +kernel
theorem dX7_prepare_53 : decode cX7_prepare 53 = .ok (.getfield 66, 3) := by decide +kernel
theorem dX7_prepare_56 : decode cX7_prepare 56 = .ok (.iload_n 3, 1) := by decide +kernel
theorem dX7_prepare_57 : decode cX7_prepare 57 = .ok (.iaload, 1) := by decide +kernel
theorem dX7_prepare_58 : decode cX7_prepare 58 = .ok (.invokestatic 69, 3) := by decide +kernel
theorem dX7_prepare_61 : decode cX7_prepare 61 = .ok (.imul, 1) := by decide +kernel
theorem dX7_prepare_62 : decode cX7_prepare 62 = .ok (.iastore, 1) := by decide +kernel
theorem dX7_prepare_63 : decode cX7_prepare 63 = .ok (.iinc 3 1, 3) := by decide +kernel
theorem dX7_prepare_66 : decode cX7_prepare 66 = .ok (.goto (-56), 3) := by decide +kernel
theorem dX7_prepare_69 : decode cX7_prepare 69 = .ok (.iconst 0, 1) := by decide +kernel
theorem dX7_prepare_70 : decode cX7_prepare 70 = .ok (.istore_n 3, 1) := by decide +kernel
theorem dX7_prepare_71 : decode cX7_prepare 71 = .ok (.iload_n 3, 1) := by decide +kernel
theorem dX7_prepare_72 : decode cX7_prepare 72 = .ok (.iconst 4, 1) := by decide +kernel
theorem dX7_prepare_73 : decode cX7_prepare 73 = .ok (.if_icmp .ge 28, 3) := by decide +kernel
theorem dX7_prepare_76 : decode cX7_prepare 76 = .ok (.aload_n 0, 1) := by decide +kernel
theorem dX7_prepare_77 : decode cX7_prepare 77 = .ok (.getfield 24, 3) := by decide +kernel
theorem dX7_prepare_80 : decode cX7_prepare 80 = .ok (.iload_n 3, 1) := by decide +kernel
theorem dX7_prepare_81 : decode cX7_prepare 81 = .ok (.iconst 0, 1) := by decide +kernel
theorem dX7_prepare_82 : decode cX7_prepare 82 = .ok (.iastore, 1) := by decide +kernel
theorem dX7_prepare_83 : decode cX7_prepare 83 = .ok (.aload_n 0, 1) := by decide +kernel
theorem dX7_prepare_84 : decode cX7_prepare 84 = .ok (.getfield 27, 3) := by decide +kernel
theorem dX7_prepare_87 : decode cX7_prepare 87 = .ok (.iload_n 3, 1) := by decide +kernel
theorem dX7_prepare_88 : decode cX7_prepare 88 = .ok (.aload_n 1, 1) := by decide +kernel
theorem dX7_prepare_89 : decode cX7_prepare 89 = .ok (.getfield 74, 3) := by decide +kernel
theorem dX7_prepare_92 : decode cX7_prepare 92 = .ok (.iload_n 3, 1) := by decide +kernel
theorem dX7_prepare_93 : decode cX7_prepare 93 = .ok (.iaload, 1) := by decide +kernel
theorem dX7_prepare_94 : decode cX7_prepare 94 = .ok (.iastore, 1) := by decide +kernel
theorem dX7_prepare_95 : decode cX7_prepare 95 = .ok (.iinc 3 1, 3) := by decide +kernel
theorem dX7_prepare_98 : decode cX7_prepare 98 = .ok (.goto (-27), 3) := by decide +kernel
theorem dX7_prepare_101 : decode cX7_prepare 101 = .ok (.aload_n 0, 1) := by decide +kernel
theorem dX7_prepare_102 : decode cX7_prepare 102 = .ok (.ldc 77, 2) := by decide +kernel
theorem dX7_prepare_104 : decode cX7_prepare 104 = .ok (.putfield 33, 3) := by decide +kernel
theorem dX7_prepare_107 : decode cX7_prepare 107 = .ok (.aload_n 0, 1) := by decide +kernel
theorem dX7_prepare_108 : decode cX7_prepare 108 = .ok (.iconst 0, 1) := by decide +kernel
theorem dX7_prepare_109 : decode cX7_prepare 109 = .ok (.putfield 37, 3) := by decide +kernel
theorem dX7_prepare_112 : decode cX7_prepare 112 = .ok (.return_, 1) := by decide +kernel
theorem dX7_giveDays_0 : decode cX7_giveDays 0 = .ok (.iload_n 2, 1) := by decide +kernel
theorem dX7_giveDays_1 : decode cX7_giveDays 1 = .ok (.aload_n 0, 1) := by decide +kernel
theorem dX7_giveDays_2 : decode cX7_giveDays 2 = .ok (.getfield 33, 3) := by decide +kernel
theorem dX7_giveDays_5 : decode cX7_giveDays 5 = .ok (.if_icmp .le 4, 3) := by decide +kernel
theorem dX7_giveDays_8 : decode cX7_giveDays 8 = .ok (.return_, 1) := by decide +kernel
theorem dX7_giveDays_9 : decode cX7_giveDays 9 = .ok (.iload_n 1, 1) := by decide +kernel
theorem dX7_giveDays_10 : decode cX7_giveDays 10 = .ok (.aload_n 0, 1) := by decide +kernel
theorem dX7_giveDays_11 : decode cX7_giveDays 11 = .ok (.getfield 44, 3) := by decide +kernel
theorem dX7_giveDays_14 : decode cX7_giveDays 14 = .ok (.if_icmp .ge 9, 3) := by decide +kernel
theorem dX7_giveDays_17 : decode cX7_giveDays 17 = .ok (.iload_n 1, 1) := by decide +kernel
theorem dX7_giveDays_18 : decode cX7_giveDays 18 = .ok (.bipush 7, 2) := by decide +kernel
theorem dX7_giveDays_20 : decode cX7_giveDays 20 = .ok (.if_icmp .lt 9, 3) := by decide +kernel
theorem dX7_giveDays_23 : decode cX7_giveDays 23 = .ok (.aload_n 0, 1) := by decide +kernel
theorem dX7_giveDays_24 : decode cX7_giveDays 24 = .ok (.iload_n 2, 1) := by decide +kernel
theorem dX7_giveDays_25 : decode cX7_giveDays 25 = .ok (.invokevirtual 78, 3) := by decide +kernel
theorem dX7_giveDays_28 : decode cX7_giveDays 28 = .ok (.return_, 1) := by decide +kernel
theorem dX7_giveDays_29 : decode cX7_giveDays 29 = .ok (.iconst 0, 1) := by decide +kernel
theorem dX7_giveDays_30 : decode cX7_giveDays 30 = .ok (.istore_n 3, 1) := by decide +kernel
theorem dX7_giveDays_31 : decode cX7_giveDays 31 = .ok (.iload_n 3, 1) := by decide +kernel
theorem dX7_giveDays_32 : decode cX7_giveDays 32 = .ok (.iconst 4, 1) := by decide +kernel
theorem dX7_giveDays_33 : decode cX7_giveDays 33 = .ok (.if_icmp .ge 131, 3) := by decide +kernel
theorem dX7_giveDays_36 : decode cX7_giveDays 36 = .ok (.aload_n 0, 1) := by decide +kernel
theorem dX7_giveDays_37 : decode cX7_giveDays 37 = .ok (.getfield 15, 3) := by decide +kernel
theorem dX7_giveDays_40 : decode cX7_giveDays 40 = .ok (.iload_n 1, 1) := by decide +kernel
theorem dX7_giveDays_41 : decode cX7_giveDays 41 = .ok (.iaload, 1) := by decide +kernel
theorem dX7_giveDays_42 : decode cX7_giveDays 42 = .ok (.iload_n 3, 1) := by decide +kernel
theorem dX7_giveDays_43 : decode cX7_giveDays 43 = .ok (.ishr, 1) := by decide +kernel
theorem dX7_giveDays_44 : decode cX7_giveDays 44 = .ok (.iconst 1, 1) := by decide +kernel
theorem dX7_giveDays_45 : decode cX7_giveDays 45 = .ok (.iand, 1) := by decide +kernel
theorem dX7_giveDays_46 : decode cX7_giveDays 46 = .ok (.ifCond .eq 112, 3) := by decide +kernel
theorem dX7_giveDays_49 : decode cX7_giveDays 49 = .ok (.aload_n 0, 1) := by decide +kernel
theorem dX7_giveDays_50 : decode cX7_giveDays 50 = .ok (.getfield 18, 3) := by decide +kernel
theorem dX7_giveDays_53 : decode cX7_giveDays 53 = .ok (.iload_n 1, 1) := by decide +kernel
theorem dX7_giveDays_54 : decode cX7_giveDays 54 = .ok (.iaload, 1) := by decide +kernel
theorem dX7_giveDays_55 : decode cX7_giveDays 55 = .ok (.aload_n 0, 1) := by decide +kernel
theorem dX7_giveDays_56 : decode cX7_giveDays 56 = .ok (.getfield 27, 3) := by decide +kernel
theorem dX7_giveDays_59 : decode cX7_giveDays 59 = .ok (.iload_n 3, 1) := by decide +kernel
theorem dX7_giveDays_60 : decode cX7_giveDays 60 = .ok (.iaload, 1) := by decide +kernel
theorem dX7_giveDays_61 : decode cX7_giveDays 61 = .ok (.if_icmp .le 6, 3) := by decide +kernel
theorem dX7_giveDays_64 : decode cX7_giveDays 64 = .ok (.goto 94, 3) := by decide +kernel
theorem dX7_giveDays_67 : decode cX7_giveDays 67 = .ok (.aload_n 0, 1) := by decide +kernel
theorem dX7_giveDays_68 : decode cX7_giveDays 68 = .ok (.getfield 24, 3) := by decide +kernel
theorem dX7_giveDays_71 : decode cX7_giveDays 71 = .ok (.iload_n 3, 1) := by decide +kernel
theorem dX7_giveDays_72 : decode cX7_giveDays 72 = .ok (.iaload, 1) := by decide +kernel
theorem dX7_giveDays_73 : decode cX7_giveDays 73 = .ok (.istore 4, 2) := by decide +kernel
theorem dX7_giveDays_75 : decode cX7_giveDays 75 = .ok (.aload_n 0, 1) := by decide +kernel
theorem dX7_giveDays_76 : decode cX7_giveDays 76 = .ok (.getfield 24, 3) := by decide +kernel
theorem dX7_giveDays_79 : decode cX7_giveDays 79 = .ok (.iload_n 3, 1) := by decide +kernel
theorem dX7_giveDays_80 : decode cX7_giveDays 80 = .ok (.iload 4, 2) := by decide +kernel
theorem dX7_giveDays_82 : decode cX7_giveDays 82 = .ok (.aload_n 0, 1) := by decide +kernel
theorem dX7_giveDays_83 : decode cX7_giveDays 83 = .ok (.getfield 9, 3) := by decide +kernel
theorem dX7_giveDays_86 : decode cX7_giveDays 86 = .ok (.iload_n 1, 1) := by decide +kernel
theorem dX7_giveDays_87 : decode cX7_giveDays 87 = .ok (.iaload, 1) := by decide +kernel
theorem dX7_giveDays_88 : decode cX7_giveDays 88 = .ok (.ior, 1) := by decide +kernel
theorem dX7_giveDays_89 : decode cX7_giveDays 89 = .ok (.iastore, 1) := by decide +kernel
theorem dX7_giveDays_90 : decode cX7_giveDays 90 = .ok (.aload_n 0, 1) := by decide +kernel
theorem dX7_giveDays_91 : decode cX7_giveDays 91 = .ok (.getfield 27, 3) := by decide +kernel
theorem dX7_giveDays_94 : decode cX7_giveDays 94 = .ok (.iload_n 3, 1) := by decide +kernel
theorem dX7_giveDays_95 : decode cX7_giveDays 95 = .ok (.dup2, 1) := by decide +kernel
theorem dX7_giveDays_96 : decode cX7_giveDays 96 = .ok (.iaload, 1) := by decide +kernel
theorem dX7_giveDays_97 : decode cX7_giveDays 97 = .ok (.aload_n 0, 1) := by decide +kernel
theorem dX7_giveDays_98 : decode cX7_giveDays 98 = .ok (.getfield 18, 3) := by decide +kernel
theorem dX7_giveDays_101 : decode cX7_giveDays 101 = .ok (.iload_n 1, 1) := by decide +kernel
theorem dX7_giveDays_102 : decode cX7_giveDays 102 = .ok (.iaload, 1) := by decide +kernel
theorem dX7_giveDays_103 : decode cX7_giveDays 103 = .ok (.isub, 1) := by decide +kernel
theorem dX7_giveDays_104 : decode cX7_giveDays 104 = .ok (.iastore, 1) := by decide +kernel
theorem dX7_giveDays_105 : decode cX7_giveDays 105 = .ok (.aload_n 0, 1) := by decide +kernel
theorem dX7_giveDays_106 : decode cX7_giveDays 106 = .ok (.getfield 21, 3) := by decide +kernel
theorem dX7_giveDays_109 : decode cX7_giveDays 109 = .ok (.iload_n 1, 1) := by decide +kernel
theorem dX7_giveDays_110 : decode cX7_giveDays 110 = .ok (.iload_n 3, 1) := by decide +kernel
theorem dX7_giveDays_111 : decode cX7_giveDays 111 = .ok (.iastore, 1) := by decide +kernel
theorem dX7_giveDays_112 : decode cX7_giveDays 112 = .ok (.aload_n 0, 1) := by decide +kernel
theorem dX7_giveDays_113 : decode cX7_giveDays 113 = .ok (.iload_n 1, 1) := by decide +kernel
theorem dX7_giveDays_114 : decode cX7_giveDays 114 = .ok (.iconst 1, 1) := by decide +kernel
theorem dX7_giveDays_115 : decode cX7_giveDays 115 = .ok (.iadd, 1) := by decide +kernel
theorem dX7_giveDays_116 : decode cX7_giveDays 116 = .ok (.iload_n 2, 1) := by decide +kernel
theorem dX7_giveDays_117 : decode cX7_giveDays 117 = .ok (.aload_n 0, 1) := by decide +kernel
theorem dX7_giveDays_118 : decode cX7_giveDays 118 = .ok (.getfield 9, 3) := by decide +kernel
theorem dX7_giveDays_121 : decode cX7_giveDays 121 = .ok (.iload_n 1, 1) := by decide +kernel
theorem dX7_giveDays_122 : decode cX7_giveDays 122 = .ok (.iaload, 1) := by decide +kernel
theorem dX7_giveDays_123 : decode cX7_giveDays 123 = .ok (.iload 4, 2) := by decide +kernel
theorem dX7_giveDays_125 : decode cX7_giveDays 125 = .ok (.iconst (-1), 1) := by decide +kernel
theorem dX7_giveDays_126 : decode cX7_giveDays 126 = .ok (.ixor, 1) := by decide +kernel
theorem dX7_giveDays_127 : decode cX7_giveDays 127 = .ok (.iand, 1) := by decide +kernel
theorem dX7_giveDays_128 : decode cX7_giveDays 128 = .ok (.invokestatic 69, 3) := by decide +kernel
theorem dX7_giveDays_131 : decode cX7_giveDays 131 = .ok (.iadd, 1) := by decide +kernel
theorem dX7_giveDays_132 : decode cX7_giveDays 132 = .ok (.invokevirtual 51, 3) := by decide +kernel
theorem dX7_giveDays_135 : decode cX7_giveDays 135 = .ok (.aload_n 0, 1) := by decide +kernel
theorem dX7_giveDays_136 : decode cX7_giveDays 136 = .ok (.getfield 24, 3) := by decide +kernel
theorem dX7_giveDays_139 : decode cX7_giveDays 139 = .ok (.iload_n 3, 1) := by decide +kernel
theorem dX7_giveDays_140 : decode cX7_giveDays 140 = .ok (.iload 4, 2) := by decide +kernel
theorem dX7_giveDays_142 : decode cX7_giveDays 142 = .ok (.iastore, 1) := by decide +kernel
theorem dX7_giveDays_143 : decode cX7_giveDays 143 = .ok (.aload_n 0, 1) := by decide +kernel
theorem dX7_giveDays_144 : decode cX7_giveDays 144 = .ok (.getfield 27, 3) := by decide +kernel
theorem dX7_giveDays_147 : decode cX7_giveDays 147 = .ok (.iload_n 3, 1) := by decide +kernel
theorem dX7_giveDays_148 : decode cX7_giveDays 148 = .ok (.dup2, 1) := by decide +kernel
theorem dX7_giveDays_149 : decode cX7_giveDays 149 = .ok (.iaload, 1) := by decide +kernel
theorem dX7_giveDays_150 : decode cX7_giveDays 150 = .ok (.aload_n 0, 1) := by decide +kernel
theorem dX7_giveDays_151 : decode cX7_giveDays 151 = .ok (.getfield 18, 3) := by decide +kernel
theorem dX7_giveDays_154 : decode cX7_giveDays 154 = .ok (.iload_n 1, 1) := by decide +kernel
theorem dX7_giveDays_155 : decode cX7_giveDays 155 = .ok (.iaload, 1) := by decide +kernel
theorem dX7_giveDays_156 : decode cX7_giveDays 156 = .ok (.iadd, 1) := by decide +kernel
theorem dX7_giveDays_157 : decode cX7_giveDays 157 = .ok (.iastore, 1) := by decide +kernel
theorem dX7_giveDays_158 : decode cX7_giveDays 158 = .ok (.iinc 3 1, 3) := by decide +kernel
theorem dX7_giveDays_161 : decode cX7_giveDays 161 = .ok (.goto (-130), 3) := by decide +kernel
theorem dX7_giveDays_164 : decode cX7_giveDays 164 = .ok (.return_, 1) := by decide +kernel
theorem dX7_takePlan_0 : decode cX7_takePlan 0 = .ok (.iload_n 1, 1) := by decide +kernel
theorem dX7_takePlan_1 : decode cX7_takePlan 1 = .ok (.aload_n 0, 1) := by decide +kernel
theorem dX7_takePlan_2 : decode cX7_takePlan 2 = .ok (.getfield 33, 3) := by decide +kernel
theorem dX7_takePlan_5 : decode cX7_takePlan 5 = .ok (.if_icmp .ge 30, 3) := by decide +kernel
theorem dX7_takePlan_8 : decode cX7_takePlan 8 = .ok (.aload_n 0, 1) := by decide +kernel
theorem dX7_takePlan_9 : decode cX7_takePlan 9 = .ok (.iload_n 1, 1) := by decide +kernel
theorem dX7_takePlan_10 : decode cX7_takePlan 10 = .ok (.putfield 33, 3) := by decide +kernel
theorem dX7_takePlan_13 : decode cX7_takePlan 13 = .ok (.aload_n 0, 1) := by decide +kernel
theorem dX7_takePlan_14 : decode cX7_takePlan 14 = .ok (.iconst 0, 1) := by decide +kernel
theorem dX7_takePlan_15 : decode cX7_takePlan 15 = .ok (.putfield 37, 3) := by decide +kernel
theorem dX7_takePlan_18 : decode cX7_takePlan 18 = .ok (.aload_n 0, 1) := by decide +kernel
theorem dX7_takePlan_19 : decode cX7_takePlan 19 = .ok (.getfield 21, 3) := by decide +kernel
theorem dX7_takePlan_22 : decode cX7_takePlan 22 = .ok (.iconst 0, 1) := by decide +kernel
theorem dX7_takePlan_23 : decode cX7_takePlan 23 = .ok (.aload_n 0, 1) := by decide +kernel
theorem dX7_takePlan_24 : decode cX7_takePlan 24 = .ok (.getfield 30, 3) := by decide +kernel
theorem dX7_takePlan_27 : decode cX7_takePlan 27 = .ok (.iconst 0, 1) := by decide +kernel
theorem dX7_takePlan_28 : decode cX7_takePlan 28 = .ok (.aload_n 0, 1) := by decide +kernel
theorem dX7_takePlan_29 : decode cX7_takePlan 29 = .ok (.getfield 44, 3) := by decide +kernel
theorem dX7_takePlan_32 : decode cX7_takePlan 32 = .ok (.invokestatic 82, 3) := by decide +kernel
theorem dX7_takePlan_35 : decode cX7_takePlan 35 = .ok (.aload_n 0, 1) := by decide +kernel
theorem dX7_takePlan_36 : decode cX7_takePlan 36 = .ok (.dup, 1) := by decide +kernel
theorem dX7_takePlan_37 : decode cX7_takePlan 37 = .ok (.getfield 37, 3) := by decide +kernel
theorem dX7_takePlan_40 : decode cX7_takePlan 40 = .ok (.iconst 1, 1) := by decide +kernel
theorem dX7_takePlan_41 : decode cX7_takePlan 41 = .ok (.iadd, 1) := by decide +kernel
theorem dX7_takePlan_42 : decode cX7_takePlan 42 = .ok (.putfield 37, 3) := by decide +kernel
theorem dX7_takePlan_45 : decode cX7_takePlan 45 = .ok (.return_, 1) := by decide +kernel
theorem dX8_init_0 : decode cX8_init 0 = .ok (.aload_n 0, 1) := by decide +kernel
theorem dX8_init_1 : decode cX8_init 1 = .ok (.invokespecial 3, 3) := by decide +kernel
theorem dX8_init_4 : decode cX8_init 4 = .ok (.aload_n 0, 1) := by decide +kernel
theorem dX8_init_5 : decode cX8_init 5 = .ok (.bipush 30, 2) := by decide +kernel
theorem dX8_init_7 : decode cX8_init 7 = .ok (.newarray .int, 2) := by decide +kernel
theorem dX8_init_9 : decode cX8_init 9 = .ok (.putfield 9, 3) := by decide +kernel
theorem dX8_init_12 : decode cX8_init 12 = .ok (.aload_n 0, 1) := by decide +kernel
theorem dX8_init_13 : decode cX8_init 13 = .ok (.iconst 0, 1) := by decide +kernel
theorem dX8_init_14 : decode cX8_init 14 = .ok (.putfield 15, 3) := by decide +kernel
theorem dX8_init_17 : decode cX8_init 17 = .ok (.aload_n 0, 1) := by decide +kernel
theorem dX8_init_18 : decode cX8_init 18 = .ok (.iconst 0, 1) := by decide +kernel
theorem dX8_init_19 : decode cX8_init 19 = .ok (.putfield 19, 3) := by decide +kernel
theorem dX8_init_22 : decode cX8_init 22 = .ok (.return_, 1) := by decide +kernel
theorem dX8_isMissing_0 : decode cX8_isMissing 0 = .ok (.aload_n 0, 1) := by decide +kernel
theorem dX8_isMissing_1 : decode cX8_isMissing 1 = .ok (.getfield 15, 3) := by decide +kernel
theorem dX8_isMissing_4 : decode cX8_isMissing 4 = .ok (.ifCond .ne 7, 3) := by decide +kernel
theorem dX8_isMissing_7 : decode cX8_isMissing 7 = .ok (.iconst 1, 1) := by decide +kernel
theorem dX8_isMissing_8 : decode cX8_isMissing 8 = .ok (.goto 4, 3) := by decide +kernel
theorem dX8_isMissing_11 : decode cX8_isMissing 11 = .ok (.iconst 0, 1) := by decide +kernel
theorem dX8_isMissing_12 : decode cX8_isMissing 12 = .ok (.ireturn, 1) := by decide +kernel
theorem dX8_begin_0 : decode cX8_begin 0 = .ok (.aload_n 0, 1) := by decide +kernel
theorem dX8_begin_1 : decode cX8_begin 1 = .ok (.iload_n 1, 1) := by decide +kernel
theorem dX8_begin_2 : decode cX8_begin 2 = .ok (.putfield 15, 3) := by decide +kernel
theorem dX8_begin_5 : decode cX8_begin 5 = .ok (.aload_n 0, 1) := by decide +kernel
theorem dX8_begin_6 : decode cX8_begin 6 = .ok (.iload_n 1, 1) := by decide +kernel
theorem dX8_begin_7 : decode cX8_begin 7 = .ok (.ifCond .ne 7, 3) := by decide +kernel
theorem dX8_begin_10 : decode cX8_begin 10 = .ok (.iconst 0, 1) := by decide +kernel
theorem dX8_begin_11 : decode cX8_begin 11 = .ok (.goto 4, 3) := by decide +kernel
theorem dX8_begin_14 : decode cX8_begin 14 = .ok (.iload_n 2, 1) := by decide +kernel
theorem dX8_begin_15 : decode cX8_begin 15 = .ok (.putfield 19, 3) := by decide +kernel
theorem dX8_begin_18 : decode cX8_begin 18 = .ok (.iconst 0, 1) := by decide +kernel
theorem dX8_begin_19 : decode cX8_begin 19 = .ok (.istore_n 3, 1) := by decide +kernel
theorem dX8_begin_20 : decode cX8_begin 20 = .ok (.iload_n 3, 1) := by decide +kernel
theorem dX8_begin_21 : decode cX8_begin 21 = .ok (.bipush 30, 2) := by decide +kernel
theorem dX8_begin_23 : decode cX8_begin 23 = .ok (.if_icmp .ge 16, 3) := by decide +kernel
theorem dX8_begin_26 : decode cX8_begin 26 = .ok (.aload_n 0, 1) := by decide +kernel
theorem dX8_begin_27 : decode cX8_begin 27 = .ok (.getfield 9, 3) := by decide +kernel
theorem dX8_begin_30 : decode cX8_begin 30 = .ok (.iload_n 3, 1) := by decide +kernel
theorem dX8_begin_31 : decode cX8_begin 31 = .ok (.iconst 0, 1) := by decide +kernel
theorem dX8_begin_32 : decode cX8_begin 32 = .ok (.iastore, 1) := by decide +kernel
theorem dX8_begin_33 : decode cX8_begin 33 = .ok (.iinc 3 1, 3) := by decide +kernel
theorem dX8_begin_36 : decode cX8_begin 36 = .ok (.goto (-16), 3) := by decide +kernel
theorem dX8_begin_39 : decode cX8_begin 39 = .ok (.return_, 1) := by decide +kernel
theorem dX8_write_0 : decode cX8_write 0 = .ok (.aload_n 0, 1) := by decide +kernel
theorem dX8_write_1 : decode cX8_write 1 = .ok (.getfield 9, 3) := by decide +kernel
theorem dX8_write_4 : decode cX8_write 4 = .ok (.iload_n 1, 1) := by decide +kernel
theorem dX8_write_5 : decode cX8_write 5 = .ok (.aload_n 0, 1) := by decide +kernel
theorem dX8_write_6 : decode cX8_write 6 = .ok (.getfield 15, 3) := by decide +kernel
theorem dX8_write_9 : decode cX8_write 9 = .ok (.bipush 32, 2) := by decide +kernel
theorem dX8_write_11 : decode cX8_write 11 = .ok (.if_icmp .ne 7, 3) := by decide +kernel
theorem dX8_write_14 : decode cX8_write 14 = .ok (.iload_n 2, 1) := by decide +kernel
theorem dX8_write_15 : decode cX8_write 15 = .ok (.goto 13, 3) := by decide +kernel
theorem dX8_write_18 : decode cX8_write 18 = .ok (.iload_n 2, 1) := by decide +kernel
theorem dX8_write_19 : decode cX8_write 19 = .ok (.iconst 1, 1) := by decide +kernel
theorem dX8_write_20 : decode cX8_write 20 = .ok (.aload_n 0, 1) := by decide +kernel
theorem dX8_write_21 : decode cX8_write 21 = .ok (.getfield 15, 3) := by decide +kernel
theorem dX8_write_24 : decode cX8_write 24 = .ok (.ishl, 1) := by decide +kernel
theorem dX8_write_25 : decode cX8_write 25 = .ok (.iconst 1, 1) := by decide +kernel
theorem dX8_write_26 : decode cX8_write 26 = .ok (.isub, 1) := by decide +kernel
theorem dX8_write_27 : decode cX8_write 27 = .ok (.iand, 1) := by decide +kernel
theorem dX8_write_28 : decode cX8_write 28 = .ok (.iastore, 1) := by decide +kernel
theorem dX8_write_29 : decode cX8_write 29 = .ok (.return_, 1) := by decide +kernel
theorem dX8_hasStretch_0 : decode cX8_hasStretch 0 = .ok (.iload_n 1, 1) := by decide +kernel
theorem dX8_hasStretch_1 : decode cX8_hasStretch 1 = .ok (.ifCond .lt 29, 3) := by decide +kernel
theorem dX8_hasStretch_4 : decode cX8_hasStretch 4 = .ok (.iload_n 2, 1) := by decide +kernel
theorem dX8_hasStretch_5 : decode cX8_hasStretch 5 = .ok (.ifCond .lt 25, 3) := by decide +kernel
theorem dX8_hasStretch_8 : decode cX8_hasStretch 8 = .ok (.iload_n 2, 1) := by decide +kernel
theorem dX8_hasStretch_9 : decode cX8_hasStretch 9 = .ok (.aload_n 0, 1) := by decide +kernel
theorem dX8_hasStretch_10 : decode cX8_hasStretch 10 = .ok (.getfield 19, 3) := by decide +kernel
theorem dX8_hasStretch_13 : decode cX8_hasStretch 13 = .ok (.if_icmp .gt 17, 3) := by decide +kernel
theorem dX8_hasStretch_16 : decode cX8_hasStretch 16 = .ok (.iload_n 1, 1) := by decide +kernel
theorem dX8_hasStretch_17 : decode cX8_hasStretch 17 = .ok (.aload_n 0, 1) := by decide +kernel
theorem dX8_hasStretch_18 : decode cX8_hasStretch 18 = .ok (.getfield 19, 3) := by decide +kernel
theorem dX8_hasStretch_21 : decode cX8_hasStretch 21 = .ok (.iload_n 2, 1) := by decide +kernel
theorem dX8_hasStretch_22 : decode cX8_hasStretch 22 = .ok (.isub, 1) := by decide +kernel
theorem dX8_hasStretch_23 : decode cX8_hasStretch 23 = .ok (.if_icmp .gt 7, 3) := by decide +kernel
theorem dX8_hasStretch_26 : decode cX8_hasStretch 26 = .ok (.iconst 1, 1) := by decide +kernel
theorem dX8_hasStretch_27 : decode cX8_hasStretch 27 = .ok (.goto 4, 3) := by decide +kernel
theorem dX8_hasStretch_30 : decode cX8_hasStretch 30 = .ok (.iconst 0, 1) := by decide +kernel
theorem dX8_hasStretch_31 : decode cX8_hasStretch 31 = .ok (.ireturn, 1) := by decide +kernel
theorem dX9_init_0 : decode cX9_init 0 = .ok (.aload_n 0, 1) := by decide +kernel
theorem dX9_init_1 : decode cX9_init 1 = .ok (.invokespecial 3, 3) := by decide +kernel
theorem dX9_init_4 : decode cX9_init 4 = .ok (.aload_n 0, 1) := by decide +kernel
theorem dX9_init_5 : decode cX9_init 5 = .ok (.bipush 8, 2) := by decide +kernel
theorem dX9_init_7 : decode cX9_init 7 = .ok (.newarray .int, 2) := by decide +kernel
theorem dX9_init_9 : decode cX9_init 9 = .ok (.putfield 9, 3) := by decide +kernel
theorem dX9_init_12 : decode cX9_init 12 = .ok (.aload_n 0, 1) := by decide +kernel
theorem dX9_init_13 : decode cX9_init 13 = .ok (.bipush 8, 2) := by decide +kernel
theorem dX9_init_15 : decode cX9_init 15 = .ok (.newarray .int, 2) := by decide +kernel
theorem dX9_init_17 : decode cX9_init 17 = .ok (.putfield 15, 3) := by decide +kernel
theorem dX9_init_20 : decode cX9_init 20 = .ok (.aload_n 0, 1) := by decide +kernel
theorem dX9_init_21 : decode cX9_init 21 = .ok (.bipush 8, 2) := by decide +kernel
theorem dX9_init_23 : decode cX9_init 23 = .ok (.newarray .int, 2) := by decide +kernel
theorem dX9_init_25 : decode cX9_init 25 = .ok (.putfield 18, 3) := by decide +kernel
theorem dX9_init_28 : decode cX9_init 28 = .ok (.aload_n 0, 1) := by decide +kernel
theorem dX9_init_29 : decode cX9_init 29 = .ok (.bipush 8, 2) := by decide +kernel
theorem dX9_init_31 : decode cX9_init 31 = .ok (.newarray .int, 2) := by decide +kernel
theorem dX9_init_33 : decode cX9_init 33 = .ok (.putfield 21, 3) := by decide +kernel
theorem dX9_init_36 : decode cX9_init 36 = .ok (.aload_n 0, 1) := by decide +kernel
theorem dX9_init_37 : decode cX9_init 37 = .ok (.iconst 0, 1) := by decide +kernel
theorem dX9_init_38 : decode cX9_init 38 = .ok (.putfield 24, 3) := by decide +kernel
theorem dX9_init_41 : decode cX9_init 41 = .ok (.aload_n 0, 1) := by decide +kernel
theorem dX9_init_42 : decode cX9_init 42 = .ok (.iconst 0, 1) := by decide +kernel
theorem dX9_init_43 : decode cX9_init 43 = .ok (.putfield 28, 3) := by decide +kernel
theorem dX9_init_46 : decode cX9_init 46 = .ok (.aload_n 0, 1) := by decide +kernel
theorem dX9_init_47 : decode cX9_init 47 = .ok (.iconst 0, 1) := by decide +kernel
theorem dX9_init_48 : decode cX9_init 48 = .ok (.putfield 31, 3) := by decide +kernel
theorem dX9_init_51 : decode cX9_init 51 = .ok (.aload_n 0, 1) := by decide +kernel
theorem dX9_init_52 : decode cX9_init 52 = .ok (.iconst 0, 1) := by decide +kernel
theorem dX9_init_53 : decode cX9_init 53 = .ok (.putfield 34, 3) := by decide +kernel
theorem dX9_init_56 : decode cX9_init 56 = .ok (.return_, 1) := by decide +kernel
theorem dX9_begin_0 : decode cX9_begin 0 = .ok (.aload_n 0, 1) := by decide +kernel
theorem dX9_begin_1 : decode cX9_begin 1 = .ok (.iload_n 1, 1) := by decide +kernel
theorem dX9_begin_2 : decode cX9_begin 2 = .ok (.putfield 24, 3) := by decide +kernel
theorem dX9_begin_5 : decode cX9_begin 5 = .ok (.aload_n 0, 1) := by decide +kernel
theorem dX9_begin_6 : decode cX9_begin 6 = .ok (.iload_n 2, 1) := by decide +kernel
theorem dX9_begin_7 : decode cX9_begin 7 = .ok (.putfield 28, 3) := by decide +kernel
theorem dX9_begin_10 : decode cX9_begin 10 = .ok (.aload_n 0, 1) := by decide +kernel
theorem dX9_begin_11 : decode cX9_begin 11 = .ok (.iload_n 3, 1) := by decide +kernel
theorem dX9_begin_12 : decode cX9_begin 12 = .ok (.putfield 31, 3) := by decide +kernel
theorem dX9_begin_15 : decode cX9_begin 15 = .ok (.aload_n 0, 1) := by decide +kernel
theorem dX9_begin_16 : decode cX9_begin 16 = .ok (.iconst 0, 1) := by decide +kernel
theorem dX9_begin_17 : decode cX9_begin 17 = .ok (.putfield 34, 3) := by decide +kernel
theorem dX9_begin_20 : decode cX9_begin 20 = .ok (.return_, 1) := by decide +kernel
theorem dX9_append_0 : decode cX9_append 0 = .ok (.aload_n 0, 1) := by decide +kernel
theorem dX9_append_1 : decode cX9_append 1 = .ok (.getfield 9, 3) := by decide +kernel
theorem dX9_append_4 : decode cX9_append 4 = .ok (.aload_n 0, 1) := by decide +kernel
theorem dX9_append_5 : decode cX9_append 5 = .ok (.getfield 34, 3) := by decide +kernel
theorem dX9_append_8 : decode cX9_append 8 = .ok (.iload_n 1, 1) := by decide +kernel
theorem dX9_append_9 : decode cX9_append 9 = .ok (.iastore, 1) := by decide +kernel
theorem dX9_append_10 : decode cX9_append 10 = .ok (.aload_n 0, 1) := by decide +kernel
theorem dX9_append_11 : decode cX9_append 11 = .ok (.getfield 15, 3) := by decide +kernel
theorem dX9_append_14 : decode cX9_append 14 = .ok (.aload_n 0, 1) := by decide +kernel
theorem dX9_append_15 : decode cX9_append 15 = .ok (.getfield 34, 3) := by decide +kernel
theorem dX9_append_18 : decode cX9_append 18 = .ok (.iload_n 2, 1) := by decide +kernel
theorem dX9_append_19 : decode cX9_append 19 = .ok (.iastore, 1) := by decide +kernel
theorem dX9_append_20 : decode cX9_append 20 = .ok (.aload_n 0, 1) := by decide +kernel
theorem dX9_append_21 : decode cX9_append 21 = .ok (.getfield 18, 3) := by decide +kernel
theorem dX9_append_24 : decode cX9_append 24 = .ok (.aload_n 0, 1) := by decide +kernel
theorem dX9_append_25 : decode cX9_append 25 = .ok (.getfield 34, 3) := by decide +kernel
theorem dX9_append_28 : decode cX9_append 28 = .ok (.iload_n 3, 1) := by decide +kernel
theorem dX9_append_29 : decode cX9_append 29 = .ok (.iastore, 1) := by decide +kernel
theorem dX9_append_30 : decode cX9_append 30 = .ok (.aload_n 0, 1) := by decide +kernel
theorem dX9_append_31 : decode cX9_append 31 = .ok (.getfield 21, 3) := by decide +kernel
theorem dX9_append_34 : decode cX9_append 34 = .ok (.aload_n 0, 1) := by decide +kernel
theorem dX9_append_35 : decode cX9_append 35 = .ok (.getfield 34, 3) := by decide +kernel
theorem dX9_append_38 : decode cX9_append 38 = .ok (.iload 4, 2) := by decide +kernel
theorem dX9_append_40 : decode cX9_append 40 = .ok (.iastore, 1) := by decide +kernel
theorem dX9_append_41 : decode cX9_append 41 = .ok (.aload_n 0, 1) := by decide +kernel
theorem dX9_append_42 : decode cX9_append 42 = .ok (.dup, 1) := by decide +kernel
theorem dX9_append_43 : decode cX9_append 43 = .ok (.getfield 34, 3) := by decide +kernel
theorem dX9_append_46 : decode cX9_append 46 = .ok (.iconst 1, 1) := by decide +kernel
theorem dX9_append_47 : decode cX9_append 47 = .ok (.iadd, 1) := by decide +kernel
theorem dX9_append_48 : decode cX9_append 48 = .ok (.putfield 34, 3) := by decide +kernel
theorem dX9_append_51 : decode cX9_append 51 = .ok (.return_, 1) := by decide +kernel
theorem dX9_isOfKind_0 : decode cX9_isOfKind 0 = .ok (.aload_n 0, 1) := by decide +kernel
theorem dX9_isOfKind_1 : decode cX9_isOfKind 1 = .ok (.getfield 28, 3) := by decide +kernel
theorem dX9_isOfKind_4 : decode cX9_isOfKind 4 = .ok (.istore_n 2, 1) := by decide +kernel
theorem dX9_isOfKind_5 : decode cX9_isOfKind 5 = .ok (.iconst 0, 1) := by decide +kernel
theorem dX9_isOfKind_6 : decode cX9_isOfKind 6 = .ok (.istore_n 3, 1) := by decide +kernel
theorem dX9_isOfKind_7 : decode cX9_isOfKind 7 = .ok (.iload_n 3, 1) := by decide +kernel
theorem dX9_isOfKind_8 : decode cX9_isOfKind 8 = .ok (.iconst 4, 1) := by decide +kernel
theorem dX9_isOfKind_9 : decode cX9_isOfKind 9 = .ok (.if_icmp .ge 26, 3) := by decide +kernel
theorem dX9_isOfKind_12 : decode cX9_isOfKind 12 = .ok (.iload_n 2, 1) := by decide +kernel
theorem dX9_isOfKind_13 : decode cX9_isOfKind 13 = .ok (.ifCond .lt 22, 3) := by decide +kernel
theorem dX9_isOfKind_16 : decode cX9_isOfKind 16 = .ok (.iload_n 2, 1) := by decide +kernel
theorem dX9_isOfKind_17 : decode cX9_isOfKind 17 = .ok (.iload_n 1, 1) := by decide +kernel
theorem dX9_isOfKind_18 : decode cX9_isOfKind 18 = .ok (.if_icmp .ne 5, 3) := by decide +kernel
theorem dX9_isOfKind_21 : decode cX9_isOfKind 21 = .ok (.iconst 1, 1) := by decide +kernel
theorem dX9_isOfKind_22 : decode cX9_isOfKind 22 = .ok (.ireturn, 1) := by decide +kernel
theorem dX9_isOfKind_23 : decode cX9_isOfKind 23 = .ok (.getstatic 37, 3) := by decide +kernel
theorem dX9_isOfKind_26 : decode cX9_isOfKind 26 = .ok (.iload_n 2, 1) := by decide +kernel
theorem dX9_isOfKind_27 : decode cX9_isOfKind 27 = .ok (.iaload, 1) := by decide +kernel
theorem dX9_isOfKind_28 : decode cX9_isOfKind 28 = .ok (.istore_n 2, 1) := by decide +kernel
theorem dX9_isOfKind_29 : decode cX9_isOfKind 29 = .ok (.iinc 3 1, 3) := by decide +kernel
theorem dX9_isOfKind_32 : decode cX9_isOfKind 32 = .ok (.goto (-25), 3) := by decide +kernel
theorem dX9_isOfKind_35 : decode cX9_isOfKind 35 = .ok (.iconst 0, 1) := by decide +kernel
theorem dX9_isOfKind_36 : decode cX9_isOfKind 36 = .ok (.ireturn, 1) := by decide +kernel
theorem dX9_longest_0 : decode cX9_longest 0 = .ok (.aload_n 0, 1) := by decide +kernel
theorem dX9_longest_1 : decode cX9_longest 1 = .ok (.getfield 28, 3) := by decide +kernel
theorem dX9_longest_4 : decode cX9_longest 4 = .ok (.iconst 1, 1) := by decide +kernel
theorem dX9_longest_5 : decode cX9_longest 5 = .ok (.if_icmp .eq 11, 3) := by decide +kernel
theorem dX9_longest_8 : decode cX9_longest 8 = .ok (.aload_n 0, 1) := by decide +kernel
theorem dX9_longest_9 : decode cX9_longest 9 = .ok (.getfield 28, 3) := by decide +kernel
theorem dX9_longest_12 : decode cX9_longest 12 = .ok (.iconst 3, 1) := by decide +kernel
theorem dX9_longest_13 : decode cX9_longest 13 = .ok (.if_icmp .ne 12, 3) := by decide +kernel
theorem dX9_longest_16 : decode cX9_longest 16 = .ok (.aload_n 0, 1) := by decide +kernel
theorem dX9_longest_17 : decode cX9_longest 17 = .ok (.getfield 15, 3) := by decide +kernel
theorem dX9_longest_20 : decode cX9_longest 20 = .ok (.iload_n 1, 1) := by decide +kernel
theorem dX9_longest_21 : decode cX9_longest 21 = .ok (.iaload, 1) := by decide +kernel
theorem dX9_longest_22 : decode cX9_longest 22 = .ok (.goto 9, 3) := by decide +kernel
theorem dX9_longest_25 : decode cX9_longest 25 = .ok (.aload_n 0, 1) := by decide +kernel
theorem dX9_longest_26 : decode cX9_longest 26 = .ok (.getfield 18, 3) := by decide +kernel
theorem dX9_longest_29 : decode cX9_longest 29 = .ok (.iload_n 1, 1) := by decide +kernel
theorem dX9_longest_30 : decode cX9_longest 30 = .ok (.iaload, 1) := by decide +kernel
theorem dX9_longest_31 : decode cX9_longest 31 = .ok (.ireturn, 1) := by decide +kernel
theorem dX9_costOver_0 : decode cX9_costOver 0 = .ok (.aload_n 0, 1) := by decide +kernel
theorem dX9_costOver_1 : decode cX9_costOver 1 = .ok (.getfield 9, 3) := by decide +kernel
theorem dX9_costOver_4 : decode cX9_costOver 4 = .ok (.iload_n 1, 1) := by decide +kernel
theorem dX9_costOver_5 : decode cX9_costOver 5 = .ok (.iaload, 1) := by decide +kernel
theorem dX9_costOver_6 : decode cX9_costOver 6 = .ok (.istore_n 3, 1) := by decide +kernel
theorem dX9_costOver_7 : decode cX9_costOver 7 = .ok (.iload_n 3, 1) := by decide +kernel
theorem dX9_costOver_8 : decode cX9_costOver 8 = .ok (.iload_n 2, 1) := by decide +kernel
theorem dX9_costOver_9 : decode cX9_costOver 9 = .ok (.if_icmp .eq 11, 3) := by decide +kernel
theorem dX9_costOver_12 : decode cX9_costOver 12 = .ok (.aload_n 0, 1) := by decide +kernel
theorem dX9_costOver_13 : decode cX9_costOver 13 = .ok (.getfield 28, 3) := by decide +kernel
theorem dX9_costOver_16 : decode cX9_costOver 16 = .ok (.iconst 2, 1) := by decide +kernel
theorem dX9_costOver_17 : decode cX9_costOver 17 = .ok (.if_icmp .ne 5, 3) := by decide +kernel
theorem dX9_costOver_20 : decode cX9_costOver 20 = .ok (.iconst 0, 1) := by decide +kernel
theorem dX9_costOver_21 : decode cX9_costOver 21 = .ok (.ireturn, 1) := by decide +kernel
theorem dX9_costOver_22 : decode cX9_costOver 22 = .ok (.iload_n 3, 1) := by decide +kernel
theorem dX9_costOver_23 : decode cX9_costOver 23 = .ok (.ifCond .eq 7, 3) := by decide +kernel
theorem dX9_costOver_26 : decode cX9_costOver 26 = .ok (.iload_n 2, 1) := by decide +kernel
theorem dX9_costOver_27 : decode cX9_costOver 27 = .ok (.ifCond .ne 17, 3) := by decide +kernel
theorem dX9_costOver_30 : decode cX9_costOver 30 = .ok (.aload_n 0, 1) := by decide +kernel
theorem dX9_costOver_31 : decode cX9_costOver 31 = .ok (.getfield 28, 3) := by decide +kernel
theorem dX9_costOver_34 : decode cX9_costOver 34 = .ok (.iconst 3, 1) := by decide +kernel
theorem dX9_costOver_35 : decode cX9_costOver 35 = .ok (.if_icmp .ne 7, 3) := by decide +kernel
theorem dX9_costOver_38 : decode cX9_costOver 38 = .ok (.iconst 0, 1) := by decide +kernel
theorem dX9_costOver_39 : decode cX9_costOver 39 = .ok (.goto 4, 3) := by decide +kernel
theorem dX9_costOver_42 : decode cX9_costOver 42 = .ok (.iconst 3, 1) := by decide +kernel
theorem dX9_costOver_43 : decode cX9_costOver 43 = .ok (.ireturn, 1) := by decide +kernel
theorem dX9_costOver_44 : decode cX9_costOver 44 = .ok (.iconst 1, 1) := by decide +kernel
theorem dX9_costOver_45 : decode cX9_costOver 45 = .ok (.ireturn, 1) := by decide +kernel
theorem dJ6_bitCount_0f7a4_0 : decode cJ6_bitCount_0f7a4 0 = .ok (.iload_n 0, 1) := by decide +kernel
theorem dJ6_bitCount_0f7a4_1 : decode cJ6_bitCount_0f7a4 1 = .ok (.iload_n 0, 1) := by decide +kernel
theorem dJ6_bitCount_0f7a4_2 : decode cJ6_bitCount_0f7a4 2 = .ok (.iconst 1, 1) := by decide +kernel
theorem dJ6_bitCount_0f7a4_3 : decode cJ6_bitCount_0f7a4 3 = .ok (.iushr, 1) := by decide +kernel
theorem dJ6_bitCount_0f7a4_4 : decode cJ6_bitCount_0f7a4 4 = .ok (.ldc_w 265, 3) := by decide +kernel
theorem dJ6_bitCount_0f7a4_7 : decode cJ6_bitCount_0f7a4 7 = .ok (.iand, 1) := by decide +kernel
theorem dJ6_bitCount_0f7a4_8 : decode cJ6_bitCount_0f7a4 8 = .ok (.isub, 1) := by decide +kernel
theorem dJ6_bitCount_0f7a4_9 : decode cJ6_bitCount_0f7a4 9 = .ok (.istore_n 0, 1) := by decide +kernel
theorem dJ6_bitCount_0f7a4_10 : decode cJ6_bitCount_0f7a4 10 = .ok (.iload_n 0, 1) := by decide +kernel
theorem dJ6_bitCount_0f7a4_11 : decode cJ6_bitCount_0f7a4 11 = .ok (.ldc_w 266, 3) := by decide +kernel
theorem dJ6_bitCount_0f7a4_14 : decode cJ6_bitCount_0f7a4 14 = .ok (.iand, 1) := by decide +kernel
theorem dJ6_bitCount_0f7a4_15 : decode cJ6_bitCount_0f7a4 15 = .ok (.iload_n 0, 1) := by decide +kernel
theorem dJ6_bitCount_0f7a4_16 : decode cJ6_bitCount_0f7a4 16 = .ok (.iconst 2, 1) := by decide +kernel
theorem dJ6_bitCount_0f7a4_17 : decode cJ6_bitCount_0f7a4 17 = .ok (.iushr, 1) := by decide +kernel
theorem dJ6_bitCount_0f7a4_18 : decode cJ6_bitCount_0f7a4 18 = .ok (.ldc_w 266, 3) := by decide +kernel
theorem dJ6_bitCount_0f7a4_21 : decode cJ6_bitCount_0f7a4 21 = .ok (.iand, 1) := by decide +kernel
theorem dJ6_bitCount_0f7a4_22 : decode cJ6_bitCount_0f7a4 22 = .ok (.iadd, 1) := by decide +kernel
theorem dJ6_bitCount_0f7a4_23 : decode cJ6_bitCount_0f7a4 23 = .ok (.istore_n 0, 1) := by decide +kernel
theorem dJ6_bitCount_0f7a4_24 : decode cJ6_bitCount_0f7a4 24 = .ok (.iload_n 0, 1) := by decide +kernel
theorem dJ6_bitCount_0f7a4_25 : decode cJ6_bitCount_0f7a4 25 = .ok (.iload_n 0, 1) := by decide +kernel
theorem dJ6_bitCount_0f7a4_26 : decode cJ6_bitCount_0f7a4 26 = .ok (.iconst 4, 1) := by decide +kernel
theorem dJ6_bitCount_0f7a4_27 : decode cJ6_bitCount_0f7a4 27 = .ok (.iushr, 1) := by decide +kernel
theorem dJ6_bitCount_0f7a4_28 : decode cJ6_bitCount_0f7a4 28 = .ok (.iadd, 1) := by decide +kernel
theorem dJ6_bitCount_0f7a4_29 : decode cJ6_bitCount_0f7a4 29 = .ok (.ldc_w 267, 3) := by decide +kernel
theorem dJ6_bitCount_0f7a4_32 : decode cJ6_bitCount_0f7a4 32 = .ok (.iand, 1) := by decide +kernel
theorem dJ6_bitCount_0f7a4_33 : decode cJ6_bitCount_0f7a4 33 = .ok (.istore_n 0, 1) := by decide +kernel
theorem dJ6_bitCount_0f7a4_34 : decode cJ6_bitCount_0f7a4 34 = .ok (.iload_n 0, 1) := by decide +kernel
theorem dJ6_bitCount_0f7a4_35 : decode cJ6_bitCount_0f7a4 35 = .ok (.iload_n 0, 1) := by decide +kernel
theorem dJ6_bitCount_0f7a4_36 : decode cJ6_bitCount_0f7a4 36 = .ok (.bipush 8, 2) := by decide +kernel
theorem dJ6_bitCount_0f7a4_38 : decode cJ6_bitCount_0f7a4 38 = .ok (.iushr, 1) := by decide +kernel
theorem dJ6_bitCount_0f7a4_39 : decode cJ6_bitCount_0f7a4 39 = .ok (.iadd, 1) := by decide +kernel
theorem dJ6_bitCount_0f7a4_40 : decode cJ6_bitCount_0f7a4 40 = .ok (.istore_n 0, 1) := by decide +kernel
theorem dJ6_bitCount_0f7a4_41 : decode cJ6_bitCount_0f7a4 41 = .ok (.iload_n 0, 1) := by decide +kernel
theorem dJ6_bitCount_0f7a4_42 : decode cJ6_bitCount_0f7a4 42 = .ok (.iload_n 0, 1) := by decide +kernel
theorem dJ6_bitCount_0f7a4_43 : decode cJ6_bitCount_0f7a4 43 = .ok (.bipush 16, 2) := by decide +kernel
theorem dJ6_bitCount_0f7a4_45 : decode cJ6_bitCount_0f7a4 45 = .ok (.iushr, 1) := by decide +kernel
theorem dJ6_bitCount_0f7a4_46 : decode cJ6_bitCount_0f7a4 46 = .ok (.iadd, 1) := by decide +kernel
theorem dJ6_bitCount_0f7a4_47 : decode cJ6_bitCount_0f7a4 47 = .ok (.istore_n 0, 1) := by decide +kernel
theorem dJ6_bitCount_0f7a4_48 : decode cJ6_bitCount_0f7a4 48 = .ok (.iload_n 0, 1) := by decide +kernel
theorem dJ6_bitCount_0f7a4_49 : decode cJ6_bitCount_0f7a4 49 = .ok (.bipush 63, 2) := by decide +kernel
theorem dJ6_bitCount_0f7a4_51 : decode cJ6_bitCount_0f7a4 51 = .ok (.iand, 1) := by decide +kernel
theorem dJ6_bitCount_0f7a4_52 : decode cJ6_bitCount_0f7a4 52 = .ok (.ireturn, 1) := by decide +kernel
theorem dJ9_max_7cf53_0 : decode cJ9_max_7cf53 0 = .ok (.iload_n 0, 1) := by decide +kernel
theorem dJ9_max_7cf53_1 : decode cJ9_max_7cf53 1 = .ok (.iload_n 1, 1) := by decide +kernel
theorem dJ9_max_7cf53_2 : decode cJ9_max_7cf53 2 = .ok (.if_icmp .lt 7, 3) := by decide +kernel
theorem dJ9_max_7cf53_5 : decode cJ9_max_7cf53 5 = .ok (.iload_n 0, 1) := by decide +kernel
theorem dJ9_max_7cf53_6 : decode cJ9_max_7cf53 6 = .ok (.goto 4, 3) := by decide +kernel
theorem dJ9_max_7cf53_9 : decode cJ9_max_7cf53 9 = .ok (.iload_n 1, 1) := by decide +kernel
theorem dJ9_max_7cf53_10 : decode cJ9_max_7cf53 10 = .ok (.ireturn, 1) := by decide +kernel
theorem dJ9_min_7cf53_0 : decode cJ9_min_7cf53 0 = .ok (.iload_n 0, 1) := by decide +kernel
theorem dJ9_min_7cf53_1 : decode cJ9_min_7cf53 1 = .ok (.iload_n 1, 1) := by decide +kernel
theorem dJ9_min_7cf53_2 : decode cJ9_min_7cf53 2 = .ok (.if_icmp .gt 7, 3) := by decide +kernel
theorem dJ9_min_7cf53_5 : decode cJ9_min_7cf53 5 = .ok (.iload_n 0, 1) := by decide +kernel
theorem dJ9_min_7cf53_6 : decode cJ9_min_7cf53 6 = .ok (.goto 4, 3) := by decide +kernel
theorem dJ9_min_7cf53_9 : decode cJ9_min_7cf53 9 = .ok (.iload_n 1, 1) := by decide +kernel
theorem dJ9_min_7cf53_10 : decode cJ9_min_7cf53 10 = .ok (.ireturn, 1) := by decide +kernel
