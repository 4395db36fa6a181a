theorem dX0_init_0 : decode cX0_init 0 = .ok (.aload_n 0, 1) := by decide +kernel
theorem dX0_init_1 : decode cX0_init 1 = .ok (.invokespecial 1, 3) := by decide +kernel
theorem dX0_init_4 : decode cX0_init 4 = .ok (.aload_n 0, 1) := by decide +kernel
theorem dX0_init_5 : decode cX0_init 5 = .ok (.iload_n 1, 1) := by decide +kernel
theorem dX0_init_6 : decode cX0_init 6 = .ok (.putfield 7, 3) := by decide +kernel
theorem dX0_init_9 : decode cX0_init 9 = .ok (.aload_n 0, 1) := by decide +kernel
theorem dX0_init_10 : decode cX0_init 10 = .ok (.iload_n 2, 1) := by decide +kernel
theorem dX0_init_11 : decode cX0_init 11 = .ok (.putfield 13, 3) := by decide +kernel
theorem dX0_init_14 : decode cX0_init 14 = .ok (.aload_n 0, 1) := by decide +kernel
theorem dX0_init_15 : decode cX0_init 15 = .ok (.iload_n 3, 1) := by decide +kernel
theorem dX0_init_16 : decode cX0_init 16 = .ok (.putfield 16, 3) := by decide +kernel
theorem dX0_init_19 : decode cX0_init 19 = .ok (.return_, 1) := by decide +kernel
theorem dX0_takes_0 : decode cX0_takes 0 = .ok (.aload_n 0, 1) := by decide +kernel
theorem dX0_takes_1 : decode cX0_takes 1 = .ok (.getfield 13, 3) := by decide +kernel
theorem dX0_takes_4 : decode cX0_takes 4 = .ok (.iload_n 2, 1) := by decide +kernel
theorem dX0_takes_5 : decode cX0_takes 5 = .ok (.isub, 1) := by decide +kernel
theorem dX0_takes_6 : decode cX0_takes 6 = .ok (.istore 4, 2) := by decide +kernel
theorem dX0_takes_8 : decode cX0_takes 8 = .ok (.iconst 0, 1) := by decide +kernel
theorem dX0_takes_9 : decode cX0_takes 9 = .ok (.istore 5, 2) := by decide +kernel
theorem dX0_takes_11 : decode cX0_takes 11 = .ok (.iload 5, 2) := by decide +kernel
theorem dX0_takes_13 : decode cX0_takes 13 = .ok (.iload 4, 2) := by decide +kernel
theorem dX0_takes_15 : decode cX0_takes 15 = .ok (.if_icmp .gt 70, 3) := by decide +kernel
theorem dX0_takes_18 : decode cX0_takes 18 = .ok (.iload 5, 2) := by decide +kernel
theorem dX0_takes_20 : decode cX0_takes 20 = .ok (.ifCond .eq 9, 3) := by decide +kernel
theorem dX0_takes_23 : decode cX0_takes 23 = .ok (.iload_n 3, 1) := by decide +kernel
theorem dX0_takes_24 : decode cX0_takes 24 = .ok (.iconst 1, 1) := by decide +kernel
theorem dX0_takes_25 : decode cX0_takes 25 = .ok (.iand, 1) := by decide +kernel
theorem dX0_takes_26 : decode cX0_takes 26 = .ok (.ifCond .eq 7, 3) := by decide +kernel
theorem dX0_takes_29 : decode cX0_takes 29 = .ok (.iconst 1, 1) := by decide +kernel
theorem dX0_takes_30 : decode cX0_takes 30 = .ok (.goto 4, 3) := by decide +kernel
theorem dX0_takes_33 : decode cX0_takes 33 = .ok (.iconst 0, 1) := by decide +kernel
theorem dX0_takes_34 : decode cX0_takes 34 = .ok (.istore 6, 2) := by decide +kernel
theorem dX0_takes_36 : decode cX0_takes 36 = .ok (.iload 5, 2) := by decide +kernel
theorem dX0_takes_38 : decode cX0_takes 38 = .ok (.iload 4, 2) := by decide +kernel
theorem dX0_takes_40 : decode cX0_takes 40 = .ok (.if_icmp .eq 9, 3) := by decide +kernel
theorem dX0_takes_43 : decode cX0_takes 43 = .ok (.iload_n 3, 1) := by decide +kernel
theorem dX0_takes_44 : decode cX0_takes 44 = .ok (.iconst 2, 1) := by decide +kernel
theorem dX0_takes_45 : decode cX0_takes 45 = .ok (.iand, 1) := by decide +kernel
theorem dX0_takes_46 : decode cX0_takes 46 = .ok (.ifCond .eq 7, 3) := by decide +kernel
theorem dX0_takes_49 : decode cX0_takes 49 = .ok (.iconst 1, 1) := by decide +kernel
theorem dX0_takes_50 : decode cX0_takes 50 = .ok (.goto 4, 3) := by decide +kernel
theorem dX0_takes_53 : decode cX0_takes 53 = .ok (.iconst 0, 1) := by decide +kernel
theorem dX0_takes_54 : decode cX0_takes 54 = .ok (.istore 7, 2) := by decide +kernel
theorem dX0_takes_56 : decode cX0_takes 56 = .ok (.iload 6, 2) := by decide +kernel
theorem dX0_takes_58 : decode cX0_takes 58 = .ok (.ifCond .eq 21, 3) := by decide +kernel
theorem dX0_takes_61 : decode cX0_takes 61 = .ok (.iload 7, 2) := by decide +kernel
theorem dX0_takes_63 : decode cX0_takes 63 = .ok (.ifCond .eq 16, 3) := by decide +kernel
theorem dX0_takes_66 : decode cX0_takes 66 = .ok (.aload_n 0, 1) := by decide +kernel
theorem dX0_takes_67 : decode cX0_takes 67 = .ok (.iload_n 1, 1) := by decide +kernel
theorem dX0_takes_68 : decode cX0_takes 68 = .ok (.iload_n 2, 1) := by decide +kernel
theorem dX0_takes_69 : decode cX0_takes 69 = .ok (.iload 5, 2) := by decide +kernel
theorem dX0_takes_71 : decode cX0_takes 71 = .ok (.invokevirtual 19, 3) := by decide +kernel
theorem dX0_takes_74 : decode cX0_takes 74 = .ok (.ifCond .eq 5, 3) := by decide +kernel
theorem dX0_takes_77 : decode cX0_takes 77 = .ok (.iconst 1, 1) := by decide +kernel
theorem dX0_takes_78 : decode cX0_takes 78 = .ok (.ireturn, 1) := by decide +kernel
theorem dX0_takes_79 : decode cX0_takes 79 = .ok (.iinc 5 1, 3) := by decide +kernel
theorem dX0_takes_82 : decode cX0_takes 82 = .ok (.goto (-71), 3) := by decide +kernel
theorem dX0_takes_85 : decode cX0_takes 85 = .ok (.iconst 0, 1) := by decide +kernel
theorem dX0_takes_86 : decode cX0_takes 86 = .ok (.ireturn, 1) := by decide +kernel
theorem dX0_agrees_0 : decode cX0_agrees 0 = .ok (.iconst 0, 1) := by decide +kernel
theorem dX0_agrees_1 : decode cX0_agrees 1 = .ok (.istore 4, 2) := by decide +kernel
theorem dX0_agrees_3 : decode cX0_agrees 3 = .ok (.iload 4, 2) := by decide +kernel
theorem dX0_agrees_5 : decode cX0_agrees 5 = .ok (.iload_n 2, 1) := by decide +kernel
theorem dX0_agrees_6 : decode cX0_agrees 6 = .ok (.if_icmp .ge 61, 3) := by decide +kernel
theorem dX0_agrees_9 : decode cX0_agrees 9 = .ok (.iload 4, 2) := by decide +kernel
theorem dX0_agrees_11 : decode cX0_agrees 11 = .ok (.iload_n 3, 1) := by decide +kernel
theorem dX0_agrees_12 : decode cX0_agrees 12 = .ok (.iadd, 1) := by decide +kernel
theorem dX0_agrees_13 : decode cX0_agrees 13 = .ok (.aload_n 0, 1) := by decide +kernel
theorem dX0_agrees_14 : decode cX0_agrees 14 = .ok (.getfield 13, 3) := by decide +kernel
theorem dX0_agrees_17 : decode cX0_agrees 17 = .ok (.if_icmp .ge 50, 3) := by decide +kernel
theorem dX0_agrees_20 : decode cX0_agrees 20 = .ok (.iload_n 1, 1) := by decide +kernel
theorem dX0_agrees_21 : decode cX0_agrees 21 = .ok (.getstatic 23, 3) := by decide +kernel
theorem dX0_agrees_24 : decode cX0_agrees 24 = .ok (.iload 4, 2) := by decide +kernel
theorem dX0_agrees_26 : decode cX0_agrees 26 = .ok (.iaload, 1) := by decide +kernel
theorem dX0_agrees_27 : decode cX0_agrees 27 = .ok (.idiv, 1) := by decide +kernel
theorem dX0_agrees_28 : decode cX0_agrees 28 = .ok (.bipush 10, 2) := by decide +kernel
theorem dX0_agrees_30 : decode cX0_agrees 30 = .ok (.irem, 1) := by decide +kernel
theorem dX0_agrees_31 : decode cX0_agrees 31 = .ok (.istore 5, 2) := by decide +kernel
theorem dX0_agrees_33 : decode cX0_agrees 33 = .ok (.iload 5, 2) := by decide +kernel
theorem dX0_agrees_35 : decode cX0_agrees 35 = .ok (.ifCond .eq 26, 3) := by decide +kernel
theorem dX0_agrees_38 : decode cX0_agrees 38 = .ok (.iload 5, 2) := by decide +kernel
theorem dX0_agrees_40 : decode cX0_agrees 40 = .ok (.aload_n 0, 1) := by decide +kernel
theorem dX0_agrees_41 : decode cX0_agrees 41 = .ok (.getfield 7, 3) := by decide +kernel
theorem dX0_agrees_44 : decode cX0_agrees 44 = .ok (.getstatic 23, 3) := by decide +kernel
theorem dX0_agrees_47 : decode cX0_agrees 47 = .ok (.iload 4, 2) := by decide +kernel
theorem dX0_agrees_49 : decode cX0_agrees 49 = .ok (.iload_n 3, 1) := by decide +kernel
theorem dX0_agrees_50 : decode cX0_agrees 50 = .ok (.iadd, 1) := by decide +kernel
theorem dX0_agrees_51 : decode cX0_agrees 51 = .ok (.iaload, 1) := by decide +kernel
theorem dX0_agrees_52 : decode cX0_agrees 52 = .ok (.idiv, 1) := by decide +kernel
theorem dX0_agrees_53 : decode cX0_agrees 53 = .ok (.bipush 10, 2) := by decide +kernel
theorem dX0_agrees_55 : decode cX0_agrees 55 = .ok (.irem, 1) := by decide +kernel
theorem dX0_agrees_56 : decode cX0_agrees 56 = .ok (.if_icmp .eq 5, 3) := by decide +kernel
theorem dX0_agrees_59 : decode cX0_agrees 59 = .ok (.iconst 0, 1) := by decide +kernel
theorem dX0_agrees_60 : decode cX0_agrees 60 = .ok (.ireturn, 1) := by decide +kernel
theorem dX0_agrees_61 : decode cX0_agrees 61 = .ok (.iinc 4 1, 3) := by decide +kernel
theorem dX0_agrees_64 : decode cX0_agrees 64 = .ok (.goto (-61), 3) := by decide +kernel
theorem dX0_agrees_67 : decode cX0_agrees 67 = .ok (.iconst 1, 1) := by decide +kernel
theorem dX0_agrees_68 : decode cX0_agrees 68 = .ok (.ireturn, 1) := by decide +kernel
theorem dX1_init_0 : decode cX1_init 0 = .ok (.aload_n 0, 1) := by decide +kernel
theorem dX1_init_1 : decode cX1_init 1 = .ok (.invokespecial 1, 3) := by decide +kernel
theorem dX1_init_4 : decode cX1_init 4 = .ok (.aload_n 0, 1) := by decide +kernel
theorem dX1_init_5 : decode cX1_init 5 = .ok (.iload_n 1, 1) := by decide +kernel
theorem dX1_init_6 : decode cX1_init 6 = .ok (.putfield 7, 3) := by decide +kernel
theorem dX1_init_9 : decode cX1_init 9 = .ok (.aload_n 0, 1) := by decide +kernel
theorem dX1_init_10 : decode cX1_init 10 = .ok (.iload_n 2, 1) := by decide +kernel
theorem dX1_init_11 : decode cX1_init 11 = .ok (.putfield 13, 3) := by decide +kernel
theorem dX1_init_14 : decode cX1_init 14 = .ok (.aload_n 0, 1) := by decide +kernel
theorem dX1_init_15 : decode cX1_init 15 = .ok (.aload_n 3, 1) := by decide +kernel
theorem dX1_init_16 : decode cX1_init 16 = .ok (.putfield 16, 3) := by decide +kernel
theorem dX1_init_19 : decode cX1_init 19 = .ok (.return_, 1) := by decide +kernel
theorem dX2_init_0 : decode cX2_init 0 = .ok (.aload_n 0, 1) := by decide +kernel
theorem dX2_init_1 : decode cX2_init 1 = .ok (.invokespecial 3, 3) := by decide +kernel
theorem dX2_init_4 : decode cX2_init 4 = .ok (.aload_n 0, 1) := by decide +kernel
theorem dX2_init_5 : decode cX2_init 5 = .ok (.bipush 14, 2) := by decide +kernel
theorem dX2_init_7 : decode cX2_init 7 = .ok (.newarray .int, 2) := by decide +kernel
theorem dX2_init_9 : decode cX2_init 9 = .ok (.putfield 9, 3) := by decide +kernel
theorem dX2_init_12 : decode cX2_init 12 = .ok (.return_, 1) := by decide +kernel
theorem dX2_nearest_0 : decode cX2_nearest 0 = .ok (.aload_n 1, 1) := by decide +kernel
theorem dX2_nearest_1 : decode cX2_nearest 1 = .ok (.invokevirtual 15, 3) := by decide +kernel
theorem dX2_nearest_4 : decode cX2_nearest 4 = .ok (.bipush 14, 2) := by decide +kernel
theorem dX2_nearest_6 : decode cX2_nearest 6 = .ok (.invokestatic 21, 3) := by decide +kernel
theorem dX2_nearest_9 : decode cX2_nearest 9 = .ok (.istore 4, 2) := by decide +kernel
theorem dX2_nearest_11 : decode cX2_nearest 11 = .ok (.iconst 0, 1) := by decide +kernel
theorem dX2_nearest_12 : decode cX2_nearest 12 = .ok (.istore 5, 2) := by decide +kernel
theorem dX2_nearest_14 : decode cX2_nearest 14 = .ok (.iconst 0, 1) := by decide +kernel
theorem dX2_nearest_15 : decode cX2_nearest 15 = .ok (.istore 6, 2) := by decide +kernel
theorem dX2_nearest_17 : decode cX2_nearest 17 = .ok (.iload 6, 2) := by decide +kernel
theorem dX2_nearest_19 : decode cX2_nearest 19 = .ok (.iload 4, 2) := by decide +kernel
theorem dX2_nearest_21 : decode cX2_nearest 21 = .ok (.if_icmp .ge 35, 3) := by decide +kernel
theorem dX2_nearest_24 : decode cX2_nearest 24 = .ok (.aload_n 0, 1) := by decide +kernel
theorem dX2_nearest_25 : decode cX2_nearest 25 = .ok (.getfield 9, 3) := by decide +kernel
theorem dX2_nearest_28 : decode cX2_nearest 28 = .ok (.iload 6, 2) := by decide +kernel
theorem dX2_nearest_30 : decode cX2_nearest 30 = .ok (.iload 5, 2) := by decide +kernel
theorem dX2_nearest_32 : decode cX2_nearest 32 = .ok (.iastore, 1) := by decide +kernel
theorem dX2_nearest_33 : decode cX2_nearest 33 = .ok (.iload 5, 2) := by decide +kernel
theorem dX2_nearest_35 : decode cX2_nearest 35 = .ok (.aload_n 1, 1) := by decide +kernel
theorem dX2_nearest_36 : decode cX2_nearest 36 = .ok (.iload 6, 2) := by decide +kernel
theorem dX2_nearest_38 : decode cX2_nearest 38 = .ok (.invokevirtual 27, 3) := by decide +kernel
theorem dX2_nearest_41 : decode cX2_nearest 41 = .ok (.checkcast 31, 3) := by decide +kernel
theorem dX2_nearest_44 : decode cX2_nearest 44 = .ok (.getfield 33, 3) := by decide +kernel
theorem dX2_nearest_47 : decode cX2_nearest 47 = .ok (.iadd, 1) := by decide +kernel
theorem dX2_nearest_48 : decode cX2_nearest 48 = .ok (.istore 5, 2) := by decide +kernel
theorem dX2_nearest_50 : decode cX2_nearest 50 = .ok (.iinc 6 1, 3) := by decide +kernel
theorem dX2_nearest_53 : decode cX2_nearest 53 = .ok (.goto (-36), 3) := by decide +kernel
theorem dX2_nearest_56 : decode cX2_nearest 56 = .ok (.iconst 0, 1) := by decide +kernel
theorem dX2_nearest_57 : decode cX2_nearest 57 = .ok (.istore 6, 2) := by decide +kernel
theorem dX2_nearest_59 : decode cX2_nearest 59 = .ok (.iload_n 3, 1) := by decide +kernel
theorem dX2_nearest_60 : decode cX2_nearest 60 = .ok (.iconst 1, 1) := by decide +kernel
theorem dX2_nearest_61 : decode cX2_nearest 61 = .ok (.iadd, 1) := by decide +kernel
theorem dX2_nearest_62 : decode cX2_nearest 62 = .ok (.istore 7, 2) := by decide +kernel
theorem dX2_nearest_64 : decode cX2_nearest 64 = .ok (.iconst 0, 1) := by decide +kernel
theorem dX2_nearest_65 : decode cX2_nearest 65 = .ok (.istore 8, 2) := by decide +kernel
theorem dX2_nearest_67 : decode cX2_nearest 67 = .ok (.iconst 1, 1) := by decide +kernel
theorem dX2_nearest_68 : decode cX2_nearest 68 = .ok (.istore 9, 2) := by decide +kernel
theorem dX2_nearest_70 : decode cX2_nearest 70 = .ok (.iload 9, 2) := by decide +kernel
theorem dX2_nearest_72 : decode cX2_nearest 72 = .ok (.iconst 1, 1) := by decide +kernel
theorem dX2_nearest_73 : decode cX2_nearest 73 = .ok (.iload 4, 2) := by decide +kernel
theorem dX2_nearest_75 : decode cX2_nearest 75 = .ok (.ishl, 1) := by decide +kernel
theorem dX2_nearest_76 : decode cX2_nearest 76 = .ok (.if_icmp .ge 85, 3) := by decide +kernel
theorem dX2_nearest_79 : decode cX2_nearest 79 = .ok (.iload 9, 2) := by decide +kernel
theorem dX2_nearest_81 : decode cX2_nearest 81 = .ok (.invokestatic 37, 3) := by decide +kernel
theorem dX2_nearest_84 : decode cX2_nearest 84 = .ok (.istore 10, 2) := by decide +kernel
theorem dX2_nearest_86 : decode cX2_nearest 86 = .ok (.iload 8, 2) := by decide +kernel
theorem dX2_nearest_88 : decode cX2_nearest 88 = .ok (.aload_n 1, 1) := by decide +kernel
theorem dX2_nearest_89 : decode cX2_nearest 89 = .ok (.iload 10, 2) := by decide +kernel
theorem dX2_nearest_91 : decode cX2_nearest 91 = .ok (.invokevirtual 27, 3) := by decide +kernel
theorem dX2_nearest_94 : decode cX2_nearest 94 = .ok (.checkcast 31, 3) := by decide +kernel
theorem dX2_nearest_97 : decode cX2_nearest 97 = .ok (.getfield 33, 3) := by decide +kernel
theorem dX2_nearest_100 : decode cX2_nearest 100 = .ok (.aload_n 0, 1) := by decide +kernel
theorem dX2_nearest_101 : decode cX2_nearest 101 = .ok (.getfield 9, 3) := by decide +kernel
theorem dX2_nearest_104 : decode cX2_nearest 104 = .ok (.iload 10, 2) := by decide +kernel
theorem dX2_nearest_106 : decode cX2_nearest 106 = .ok (.iaload, 1) := by decide +kernel
theorem dX2_nearest_107 : decode cX2_nearest 107 = .ok (.isub, 1) := by decide +kernel
theorem dX2_nearest_108 : decode cX2_nearest 108 = .ok (.iadd, 1) := by decide +kernel
theorem dX2_nearest_109 : decode cX2_nearest 109 = .ok (.istore 8, 2) := by decide +kernel
theorem dX2_nearest_111 : decode cX2_nearest 111 = .ok (.iload 8, 2) := by decide +kernel
theorem dX2_nearest_113 : decode cX2_nearest 113 = .ok (.iload_n 2, 1) := by decide +kernel
theorem dX2_nearest_114 : decode cX2_nearest 114 = .ok (.isub, 1) := by decide +kernel
theorem dX2_nearest_115 : decode cX2_nearest 115 = .ok (.invokestatic 43, 3) := by decide +kernel
theorem dX2_nearest_118 : decode cX2_nearest 118 = .ok (.istore 11, 2) := by decide +kernel
theorem dX2_nearest_120 : decode cX2_nearest 120 = .ok (.iload 11, 2) := by decide +kernel
theorem dX2_nearest_122 : decode cX2_nearest 122 = .ok (.iload 7, 2) := by decide +kernel
theorem dX2_nearest_124 : decode cX2_nearest 124 = .ok (.if_icmp .lt 23, 3) := by decide +kernel
theorem dX2_nearest_127 : decode cX2_nearest 127 = .ok (.iload 11, 2) := by decide +kernel
theorem dX2_nearest_129 : decode cX2_nearest 129 = .ok (.iload 7, 2) := by decide +kernel
theorem dX2_nearest_131 : decode cX2_nearest 131 = .ok (.if_icmp .ne 24, 3) := by decide +kernel
theorem dX2_nearest_134 : decode cX2_nearest 134 = .ok (.iload 9, 2) := by decide +kernel
theorem dX2_nearest_136 : decode cX2_nearest 136 = .ok (.invokestatic 46, 3) := by decide +kernel
theorem dX2_nearest_139 : decode cX2_nearest 139 = .ok (.iload 6, 2) := by decide +kernel
theorem dX2_nearest_141 : decode cX2_nearest 141 = .ok (.invokestatic 46, 3) := by decide +kernel
theorem dX2_nearest_144 : decode cX2_nearest 144 = .ok (.if_icmp .ge 11, 3) := by decide +kernel
theorem dX2_nearest_147 : decode cX2_nearest 147 = .ok (.iload 9, 2) := by decide +kernel
theorem dX2_nearest_149 : decode cX2_nearest 149 = .ok (.istore 6, 2) := by decide +kernel
theorem dX2_nearest_151 : decode cX2_nearest 151 = .ok (.iload 11, 2) := by decide +kernel
theorem dX2_nearest_153 : decode cX2_nearest 153 = .ok (.istore 7, 2) := by decide +kernel
theorem dX2_nearest_155 : decode cX2_nearest 155 = .ok (.iinc 9 1, 3) := by decide +kernel
theorem dX2_nearest_158 : decode cX2_nearest 158 = .ok (.goto (-88), 3) := by decide +kernel
theorem dX2_nearest_161 : decode cX2_nearest 161 = .ok (.iload 6, 2) := by decide +kernel
theorem dX2_nearest_163 : decode cX2_nearest 163 = .ok (.ireturn, 1) := by decide +kernel
theorem dX3_init_0 : decode cX3_init 0 = .ok (.aload_n 0, 1) := by decide +kernel
theorem dX3_init_1 : decode cX3_init 1 = .ok (.invokespecial 3, 3) := by decide +kernel
theorem dX3_init_4 : decode cX3_init 4 = .ok (.aload_n 0, 1) := by decide +kernel
theorem dX3_init_5 : decode cX3_init 5 = .ok (.sipush 256, 3) := by decide +kernel
theorem dX3_init_8 : decode cX3_init 8 = .ok (.newarray .long, 2) := by decide +kernel
theorem dX3_init_10 : decode cX3_init 10 = .ok (.putfield 9, 3) := by decide +kernel
theorem dX3_init_13 : decode cX3_init 13 = .ok (.aload_n 0, 1) := by decide +kernel
theorem dX3_init_14 : decode cX3_init 14 = .ok (.bipush 8, 2) := by decide +kernel
theorem dX3_init_16 : decode cX3_init 16 = .ok (.newarray .long, 2) := by decide +kernel
theorem dX3_init_18 : decode cX3_init 18 = .ok (.putfield 15, 3) := by decide +kernel
theorem dX3_init_21 : decode cX3_init 21 = .ok (.aload_n 0, 1) := by decide +kernel
theorem dX3_init_22 : decode cX3_init 22 = .ok (.iconst 0, 1) := by decide +kernel
theorem dX3_init_23 : decode cX3_init 23 = .ok (.putfield 18, 3) := by decide +kernel
theorem dX3_init_26 : decode cX3_init 26 = .ok (.return_, 1) := by decide +kernel
theorem dX3_likenessesIn_0 : decode cX3_likenessesIn 0 = .ok (.lload_n 0, 1) := by decide +kernel
theorem dX3_likenessesIn_1 : decode cX3_likenessesIn 1 = .ok (.ldc2_w 22, 3) := by decide +kernel
theorem dX3_likenessesIn_4 : decode cX3_likenessesIn 4 = .ok (.ldiv, 1) := by decide +kernel
theorem dX3_likenessesIn_5 : decode cX3_likenessesIn 5 = .ok (.l2i, 1) := by decide +kernel
theorem dX3_likenessesIn_6 : decode cX3_likenessesIn 6 = .ok (.ireturn, 1) := by decide +kernel
theorem dX3_thingIn_0 : decode cX3_thingIn 0 = .ok (.lload_n 0, 1) := by decide +kernel
theorem dX3_thingIn_1 : decode cX3_thingIn 1 = .ok (.getstatic 24, 3) := by decide +kernel
theorem dX3_thingIn_4 : decode cX3_thingIn 4 = .ok (.iload_n 2, 1) := by decide +kernel
theorem dX3_thingIn_5 : decode cX3_thingIn 5 = .ok (.laload, 1) := by decide +kernel
theorem dX3_thingIn_6 : decode cX3_thingIn 6 = .ok (.ldiv, 1) := by decide +kernel
theorem dX3_thingIn_7 : decode cX3_thingIn 7 = .ok (.ldc2_w 27, 3) := by decide +kernel
theorem dX3_thingIn_10 : decode cX3_thingIn 10 = .ok (.lrem, 1) := by decide +kernel
theorem dX3_thingIn_11 : decode cX3_thingIn 11 = .ok (.l2i, 1) := by decide +kernel
theorem dX3_thingIn_12 : decode cX3_thingIn 12 = .ok (.istore_n 3, 1) := by decide +kernel
theorem dX3_thingIn_13 : decode cX3_thingIn 13 = .ok (.iload_n 3, 1) := by decide +kernel
theorem dX3_thingIn_14 : decode cX3_thingIn 14 = .ok (.ifCond .ne 7, 3) := by decide +kernel
theorem dX3_thingIn_17 : decode cX3_thingIn 17 = .ok (.iconst (-1), 1) := by decide +kernel
theorem dX3_thingIn_18 : decode cX3_thingIn 18 = .ok (.goto 7, 3) := by decide +kernel
theorem dX3_thingIn_21 : decode cX3_thingIn 21 = .ok (.bipush 20, 2) := by decide +kernel
theorem dX3_thingIn_23 : decode cX3_thingIn 23 = .ok (.iload_n 3, 1) := by decide +kernel
theorem dX3_thingIn_24 : decode cX3_thingIn 24 = .ok (.isub, 1) := by decide +kernel
theorem dX3_thingIn_25 : decode cX3_thingIn 25 = .ok (.ireturn, 1) := by decide +kernel
theorem dX3_begin_0 : decode cX3_begin 0 = .ok (.aload_n 0, 1) := by decide +kernel
theorem dX3_begin_1 : decode cX3_begin 1 = .ok (.iload_n 1, 1) := by decide +kernel
theorem dX3_begin_2 : decode cX3_begin 2 = .ok (.putfield 18, 3) := by decide +kernel
theorem dX3_begin_5 : decode cX3_begin 5 = .ok (.aload_n 0, 1) := by decide +kernel
theorem dX3_begin_6 : decode cX3_begin 6 = .ok (.getfield 9, 3) := by decide +kernel
theorem dX3_begin_9 : decode cX3_begin 9 = .ok (.lconst 0, 1) := by decide +kernel
theorem dX3_begin_10 : decode cX3_begin 10 = .ok (.invokestatic 29, 3) := by decide +kernel
theorem dX3_begin_13 : decode cX3_begin 13 = .ok (.return_, 1) := by decide +kernel
theorem dX3_weigh_0 : decode cX3_weigh 0 = .ok (.aload_n 0, 1) := by decide +kernel
theorem dX3_weigh_1 : decode cX3_weigh 1 = .ok (.getfield 15, 3) := by decide +kernel
theorem dX3_weigh_4 : decode cX3_weigh 4 = .ok (.iload_n 1, 1) := by decide +kernel
theorem dX3_weigh_5 : decode cX3_weigh 5 = .ok (.iload_n 3, 1) := by decide +kernel
theorem dX3_weigh_6 : decode cX3_weigh 6 = .ok (.ifCond .ne 7, 3) := by decide +kernel
theorem dX3_weigh_9 : decode cX3_weigh 9 = .ok (.lconst 0, 1) := by decide +kernel
theorem dX3_weigh_10 : decode cX3_weigh 10 = .ok (.goto 21, 3) := by decide +kernel
theorem dX3_weigh_13 : decode cX3_weigh 13 = .ok (.iload_n 3, 1) := by decide +kernel
theorem dX3_weigh_14 : decode cX3_weigh 14 = .ok (.i2l, 1) := by decide +kernel
theorem dX3_weigh_15 : decode cX3_weigh 15 = .ok (.ldc2_w 22, 3) := by decide +kernel
theorem dX3_weigh_18 : decode cX3_weigh 18 = .ok (.lmul, 1) := by decide +kernel
theorem dX3_weigh_19 : decode cX3_weigh 19 = .ok (.bipush 20, 2) := by decide +kernel
theorem dX3_weigh_21 : decode cX3_weigh 21 = .ok (.iload_n 2, 1) := by decide +kernel
theorem dX3_weigh_22 : decode cX3_weigh 22 = .ok (.isub, 1) := by decide +kernel
theorem dX3_weigh_23 : decode cX3_weigh 23 = .ok (.i2l, 1) := by decide +kernel
theorem dX3_weigh_24 : decode cX3_weigh 24 = .ok (.getstatic 24, 3) := by decide +kernel
theorem dX3_weigh_27 : decode cX3_weigh 27 = .ok (.iload_n 1, 1) := by decide +kernel
theorem dX3_weigh_28 : decode cX3_weigh 28 = .ok (.laload, 1) := by decide +kernel
theorem dX3_weigh_29 : decode cX3_weigh 29 = .ok (.lmul, 1) := by decide +kernel
theorem dX3_weigh_30 : decode cX3_weigh 30 = .ok (.ladd, 1) := by decide +kernel
theorem dX3_weigh_31 : decode cX3_weigh 31 = .ok (.lastore, 1) := by decide +kernel
theorem dX3_weigh_32 : decode cX3_weigh 32 = .ok (.return_, 1) := by decide +kernel
theorem dX3_offer_0 : decode cX3_offer 0 = .ok (.iconst 1, 1) := by decide +kernel
theorem dX3_offer_1 : decode cX3_offer 1 = .ok (.aload_n 0, 1) := by decide +kernel
theorem dX3_offer_2 : decode cX3_offer 2 = .ok (.getfield 18, 3) := by decide +kernel
theorem dX3_offer_5 : decode cX3_offer 5 = .ok (.ishl, 1) := by decide +kernel
theorem dX3_offer_6 : decode cX3_offer 6 = .ok (.iconst 1, 1) := by decide +kernel
theorem dX3_offer_7 : decode cX3_offer 7 = .ok (.isub, 1) := by decide +kernel
theorem dX3_offer_8 : decode cX3_offer 8 = .ok (.istore_n 1, 1) := by decide +kernel
theorem dX3_offer_9 : decode cX3_offer 9 = .ok (.iload_n 1, 1) := by decide +kernel
theorem dX3_offer_10 : decode cX3_offer 10 = .ok (.ifCond .le 76, 3) := by decide +kernel
theorem dX3_offer_13 : decode cX3_offer 13 = .ok (.iconst 0, 1) := by decide +kernel
theorem dX3_offer_14 : decode cX3_offer 14 = .ok (.istore_n 2, 1) := by decide +kernel
theorem dX3_offer_15 : decode cX3_offer 15 = .ok (.iload_n 2, 1) := by decide +kernel
theorem dX3_offer_16 : decode cX3_offer 16 = .ok (.aload_n 0, 1) := by decide +kernel
theorem dX3_offer_17 : decode cX3_offer 17 = .ok (.getfield 18, 3) := by decide +kernel
theorem dX3_offer_20 : decode cX3_offer 20 = .ok (.if_icmp .ge 60, 3) := by decide +kernel
theorem dX3_offer_23 : decode cX3_offer 23 = .ok (.iload_n 1, 1) := by decide +kernel
theorem dX3_offer_24 : decode cX3_offer 24 = .ok (.iload_n 2, 1) := by decide +kernel
theorem dX3_offer_25 : decode cX3_offer 25 = .ok (.invokestatic 35, 3) := by decide +kernel
theorem dX3_offer_28 : decode cX3_offer 28 = .ok (.ifCond .eq 46, 3) := by decide +kernel
theorem dX3_offer_31 : decode cX3_offer 31 = .ok (.aload_n 0, 1) := by decide +kernel
theorem dX3_offer_32 : decode cX3_offer 32 = .ok (.getfield 15, 3) := by decide +kernel
theorem dX3_offer_35 : decode cX3_offer 35 = .ok (.iload_n 2, 1) := by decide +kernel
theorem dX3_offer_36 : decode cX3_offer 36 = .ok (.laload, 1) := by decide +kernel
theorem dX3_offer_37 : decode cX3_offer 37 = .ok (.lconst 0, 1) := by decide +kernel
theorem dX3_offer_38 : decode cX3_offer 38 = .ok (.lcmp, 1) := by decide +kernel
theorem dX3_offer_39 : decode cX3_offer 39 = .ok (.ifCond .le 35, 3) := by decide +kernel
theorem dX3_offer_42 : decode cX3_offer 42 = .ok (.aload_n 0, 1) := by decide +kernel
theorem dX3_offer_43 : decode cX3_offer 43 = .ok (.getfield 9, 3) := by decide +kernel
theorem dX3_offer_46 : decode cX3_offer 46 = .ok (.iload_n 1, 1) := by decide +kernel
theorem dX3_offer_47 : decode cX3_offer 47 = .ok (.aload_n 0, 1) := by decide +kernel
theorem dX3_offer_48 : decode cX3_offer 48 = .ok (.getfield 9, 3) := by decide +kernel
theorem dX3_offer_51 : decode cX3_offer 51 = .ok (.iload_n 1, 1) := by decide +kernel
theorem dX3_offer_52 : decode cX3_offer 52 = .ok (.laload, 1) := by decide +kernel
theorem dX3_offer_53 : decode cX3_offer 53 = .ok (.aload_n 0, 1) := by decide +kernel
theorem dX3_offer_54 : decode cX3_offer 54 = .ok (.getfield 9, 3) := by decide +kernel
theorem dX3_offer_57 : decode cX3_offer 57 = .ok (.iload_n 1, 1) := by decide +kernel
theorem dX3_offer_58 : decode cX3_offer 58 = .ok (.iconst 1, 1) := by decide +kernel
theorem dX3_offer_59 : decode cX3_offer 59 = .ok (.iload_n 2, 1) := by decide +kernel
theorem dX3_offer_60 : decode cX3_offer 60 = .ok (.ishl, 1) := by decide +kernel
theorem dX3_offer_61 : decode cX3_offer 61 = .ok (.ixor, 1) := by decide +kernel
theorem dX3_offer_62 : decode cX3_offer 62 = .ok (.laload, 1) := by decide +kernel
theorem dX3_offer_63 : decode cX3_offer 63 = .ok (.aload_n 0, 1) := by decide +kernel
theorem dX3_offer_64 : decode cX3_offer 64 = .ok (.getfield 15, 3) := by decide +kernel
theorem dX3_offer_67 : decode cX3_offer 67 = .ok (.iload_n 2, 1) := by decide +kernel
theorem dX3_offer_68 : decode cX3_offer 68 = .ok (.laload, 1) := by decide +kernel
theorem dX3_offer_69 : decode cX3_offer 69 = .ok (.ladd, 1) := by decide +kernel
theorem dX3_offer_70 : decode cX3_offer 70 = .ok (.invokestatic 39, 3) := by decide +kernel
theorem dX3_offer_73 : decode cX3_offer 73 = .ok (.lastore, 1) := by decide +kernel
theorem dX3_offer_74 : decode cX3_offer 74 = .ok (.iinc 2 1, 3) := by decide +kernel
theorem dX3_offer_77 : decode cX3_offer 77 = .ok (.goto (-62), 3) := by decide +kernel
theorem dX3_offer_80 : decode cX3_offer 80 = .ok (.iinc 1 (-1), 3) := by decide +kernel
theorem dX3_offer_83 : decode cX3_offer 83 = .ok (.goto (-74), 3) := by decide +kernel
theorem dX3_offer_86 : decode cX3_offer 86 = .ok (.return_, 1) := by decide +kernel
theorem dX3_best_0 : decode cX3_best 0 = .ok (.aload_n 0, 1) := by decide +kernel
theorem dX3_best_1 : decode cX3_best 1 = .ok (.getfield 9, 3) := by decide +kernel
theorem dX3_best_4 : decode cX3_best 4 = .ok (.iconst 1, 1) := by decide +kernel
theorem dX3_best_5 : decode cX3_best 5 = .ok (.aload_n 0, 1) := by decide +kernel
theorem dX3_best_6 : decode cX3_best 6 = .ok (.getfield 18, 3) := by decide +kernel
theorem dX3_best_9 : decode cX3_best 9 = .ok (.ishl, 1) := by decide +kernel
theorem dX3_best_10 : decode cX3_best 10 = .ok (.iconst 1, 1) := by decide +kernel
theorem dX3_best_11 : decode cX3_best 11 = .ok (.isub, 1) := by decide +kernel
theorem dX3_best_12 : decode cX3_best 12 = .ok (.laload, 1) := by decide +kernel
theorem dX3_best_13 : decode cX3_best 13 = .ok (.lreturn, 1) := by decide +kernel
theorem dX4_init_0 : decode cX4_init 0 = .ok (.aload_n 0, 1) := by decide +kernel
theorem dX4_init_1 : decode cX4_init 1 = .ok (.invokespecial 3, 3) := by decide +kernel
theorem dX4_init_4 : decode cX4_init 4 = .ok (.aload_n 0, 1) := by decide +kernel
theorem dX4_init_5 : decode cX4_init 5 = .ok (.sipush 1024, 3) := by decide +kernel
theorem dX4_init_8 : decode cX4_init 8 = .ok (.newarray .int, 2) := by decide +kernel
theorem dX4_init_10 : decode cX4_init 10 = .ok (.putfield 9, 3) := by decide +kernel
theorem dX4_init_13 : decode cX4_init 13 = .ok (.aload_n 0, 1) := by decide +kernel
theorem dX4_init_14 : decode cX4_init 14 = .ok (.sipush 1024, 3) := by decide +kernel
theorem dX4_init_17 : decode cX4_init 17 = .ok (.newarray .int, 2) := by decide +kernel
theorem dX4_init_19 : decode cX4_init 19 = .ok (.putfield 15, 3) := by decide +kernel
theorem dX4_init_22 : decode cX4_init 22 = .ok (.aload_n 0, 1) := by decide +kernel
theorem dX4_init_23 : decode cX4_init 23 = .ok (.iconst 0, 1) := by decide +kernel
theorem dX4_init_24 : decode cX4_init 24 = .ok (.putfield 18, 3) := by decide +kernel
theorem dX4_init_27 : decode cX4_init 27 = .ok (.aload_n 0, 1) := by decide +kernel
theorem dX4_init_28 : decode cX4_init 28 = .ok (.iconst 0, 1) := by decide +kernel
theorem dX4_init_29 : decode cX4_init 29 = .ok (.putfield 22, 3) := by decide +kernel
theorem dX4_init_32 : decode cX4_init 32 = .ok (.aload_n 0, 1) := by decide +kernel
theorem dX4_init_33 : decode cX4_init 33 = .ok (.iconst 0, 1) := by decide +kernel
theorem dX4_init_34 : decode cX4_init 34 = .ok (.putfield 25, 3) := by decide +kernel
theorem dX4_init_37 : decode cX4_init 37 = .ok (.return_, 1) := by decide +kernel
theorem dX4_part_0 : decode cX4_part 0 = .ok (.aload_n 0, 1) := by decide +kernel
theorem dX4_part_1 : decode cX4_part 1 = .ok (.iload_n 2, 1) := by decide +kernel
theorem dX4_part_2 : decode cX4_part 2 = .ok (.putfield 18, 3) := by decide +kernel
theorem dX4_part_5 : decode cX4_part 5 = .ok (.aload_n 0, 1) := by decide +kernel
theorem dX4_part_6 : decode cX4_part 6 = .ok (.iload_n 3, 1) := by decide +kernel
theorem dX4_part_7 : decode cX4_part 7 = .ok (.putfield 22, 3) := by decide +kernel
theorem dX4_part_10 : decode cX4_part 10 = .ok (.aload_n 1, 1) := by decide +kernel
theorem dX4_part_11 : decode cX4_part 11 = .ok (.invokevirtual 28, 3) := by decide +kernel
theorem dX4_part_14 : decode cX4_part 14 = .ok (.bipush 10, 2) := by decide +kernel
theorem dX4_part_16 : decode cX4_part 16 = .ok (.invokestatic 34, 3) := by decide +kernel
theorem dX4_part_19 : decode cX4_part 19 = .ok (.istore 4, 2) := by decide +kernel
theorem dX4_part_21 : decode cX4_part 21 = .ok (.aload_n 0, 1) := by decide +kernel
theorem dX4_part_22 : decode cX4_part 22 = .ok (.iconst 1, 1) := by decide +kernel
theorem dX4_part_23 : decode cX4_part 23 = .ok (.iload 4, 2) := by decide +kernel
theorem dX4_part_25 : decode cX4_part 25 = .ok (.ishl, 1) := by decide +kernel
theorem dX4_part_26 : decode cX4_part 26 = .ok (.iconst 1, 1) := by decide +kernel
theorem dX4_part_27 : decode cX4_part 27 = .ok (.isub, 1) := by decide +kernel
theorem dX4_part_28 : decode cX4_part 28 = .ok (.putfield 25, 3) := by decide +kernel
theorem dX4_part_31 : decode cX4_part 31 = .ok (.iconst 0, 1) := by decide +kernel
theorem dX4_part_32 : decode cX4_part 32 = .ok (.istore 5, 2) := by decide +kernel
theorem dX4_part_34 : decode cX4_part 34 = .ok (.iload 5, 2) := by decide +kernel
theorem dX4_part_36 : decode cX4_part 36 = .ok (.iload 4, 2) := by decide +kernel
theorem dX4_part_38 : decode cX4_part 38 = .ok (.if_icmp .ge 59, 3) := by decide +kernel
theorem dX4_part_41 : decode cX4_part 41 = .ok (.iconst 0, 1) := by decide +kernel
theorem dX4_part_42 : decode cX4_part 42 = .ok (.istore 6, 2) := by decide +kernel
theorem dX4_part_44 : decode cX4_part 44 = .ok (.iload 6, 2) := by decide +kernel
theorem dX4_part_46 : decode cX4_part 46 = .ok (.iconst 1, 1) := by decide +kernel
theorem dX4_part_47 : decode cX4_part 47 = .ok (.iload 5, 2) := by decide +kernel
theorem dX4_part_49 : decode cX4_part 49 = .ok (.ishl, 1) := by decide +kernel
theorem dX4_part_50 : decode cX4_part 50 = .ok (.if_icmp .ge 41, 3) := by decide +kernel
theorem dX4_part_53 : decode cX4_part 53 = .ok (.aload_n 0, 1) := by decide +kernel
theorem dX4_part_54 : decode cX4_part 54 = .ok (.getfield 9, 3) := by decide +kernel
theorem dX4_part_57 : decode cX4_part 57 = .ok (.iload 6, 2) := by decide +kernel
theorem dX4_part_59 : decode cX4_part 59 = .ok (.iconst 1, 1) := by decide +kernel
theorem dX4_part_60 : decode cX4_part 60 = .ok (.iload 5, 2) := by decide +kernel
theorem dX4_part_62 : decode cX4_part 62 = .ok (.ishl, 1) := by decide +kernel
theorem dX4_part_63 : decode cX4_part 63 = .ok (.ior, 1) := by decide +kernel
theorem dX4_part_64 : decode cX4_part 64 = .ok (.aload_n 0, 1) := by decide +kernel
theorem dX4_part_65 : decode cX4_part 65 = .ok (.getfield 9, 3) := by decide +kernel
theorem dX4_part_68 : decode cX4_part 68 = .ok (.iload 6, 2) := by decide +kernel
theorem dX4_part_70 : decode cX4_part 70 = .ok (.iaload, 1) := by decide +kernel
theorem dX4_part_71 : decode cX4_part 71 = .ok (.aload_n 1, 1) := by decide +kernel
theorem dX4_part_72 : decode cX4_part 72 = .ok (.iload 5, 2) := by decide +kernel
theorem dX4_part_74 : decode cX4_part 74 = .ok (.invokevirtual 40, 3) := by decide +kernel
theorem dX4_part_77 : decode cX4_part 77 = .ok (.checkcast 44, 3) := by decide +kernel
theorem dX4_part_80 : decode cX4_part 80 = .ok (.getfield 46, 3) := by decide +kernel
theorem dX4_part_83 : decode cX4_part 83 = .ok (.iadd, 1) := by decide +kernel
theorem dX4_part_84 : decode cX4_part 84 = .ok (.iastore, 1) := by decide +kernel
theorem dX4_part_85 : decode cX4_part 85 = .ok (.iinc 6 1, 3) := by decide +kernel
theorem dX4_part_88 : decode cX4_part 88 = .ok (.goto (-44), 3) := by decide +kernel
theorem dX4_part_91 : decode cX4_part 91 = .ok (.iinc 5 1, 3) := by decide +kernel
theorem dX4_part_94 : decode cX4_part 94 = .ok (.goto (-60), 3) := by decide +kernel
theorem dX4_part_97 : decode cX4_part 97 = .ok (.iconst 1, 1) := by decide +kernel
theorem dX4_part_98 : decode cX4_part 98 = .ok (.istore 5, 2) := by decide +kernel
theorem dX4_part_100 : decode cX4_part 100 = .ok (.iload 5, 2) := by decide +kernel
theorem dX4_part_102 : decode cX4_part 102 = .ok (.aload_n 0, 1) := by decide +kernel
theorem dX4_part_103 : decode cX4_part 103 = .ok (.getfield 25, 3) := by decide +kernel
theorem dX4_part_106 : decode cX4_part 106 = .ok (.if_icmp .gt 46, 3) := by decide +kernel
theorem dX4_part_109 : decode cX4_part 109 = .ok (.aload_n 0, 1) := by decide +kernel
theorem dX4_part_110 : decode cX4_part 110 = .ok (.iload 5, 2) := by decide +kernel
theorem dX4_part_112 : decode cX4_part 112 = .ok (.invokevirtual 49, 3) := by decide +kernel
theorem dX4_part_115 : decode cX4_part 115 = .ok (.istore 6, 2) := by decide +kernel
theorem dX4_part_117 : decode cX4_part 117 = .ok (.aload_n 0, 1) := by decide +kernel
theorem dX4_part_118 : decode cX4_part 118 = .ok (.getfield 15, 3) := by decide +kernel
theorem dX4_part_121 : decode cX4_part 121 = .ok (.iload 5, 2) := by decide +kernel
theorem dX4_part_123 : decode cX4_part 123 = .ok (.iload 6, 2) := by decide +kernel
theorem dX4_part_125 : decode cX4_part 125 = .ok (.ifCond .ne 8, 3) := by decide +kernel
theorem dX4_part_128 : decode cX4_part 128 = .ok (.bipush 11, 2) := by decide +kernel
theorem dX4_part_130 : decode cX4_part 130 = .ok (.goto 15, 3) := by decide +kernel
theorem dX4_part_133 : decode cX4_part 133 = .ok (.iconst 1, 1) := by decide +kernel
theorem dX4_part_134 : decode cX4_part 134 = .ok (.aload_n 0, 1) := by decide +kernel
theorem dX4_part_135 : decode cX4_part 135 = .ok (.getfield 15, 3) := by decide +kernel
theorem dX4_part_138 : decode cX4_part 138 = .ok (.iload 5, 2) := by decide +kernel
theorem dX4_part_140 : decode cX4_part 140 = .ok (.iload 6, 2) := by decide +kernel
theorem dX4_part_142 : decode cX4_part 142 = .ok (.ixor, 1) := by decide +kernel
theorem dX4_part_143 : decode cX4_part 143 = .ok (.iaload, 1) := by decide +kernel
theorem dX4_part_144 : decode cX4_part 144 = .ok (.iadd, 1) := by decide +kernel
theorem dX4_part_145 : decode cX4_part 145 = .ok (.iastore, 1) := by decide +kernel
theorem dX4_part_146 : decode cX4_part 146 = .ok (.iinc 5 1, 3) := by decide +kernel
theorem dX4_part_149 : decode cX4_part 149 = .ok (.goto (-49), 3) := by decide +kernel
theorem dX4_part_152 : decode cX4_part 152 = .ok (.return_, 1) := by decide +kernel
theorem dX4_fewestLots_0 : decode cX4_fewestLots 0 = .ok (.aload_n 0, 1) := by decide +kernel
theorem dX4_fewestLots_1 : decode cX4_fewestLots 1 = .ok (.getfield 15, 3) := by decide +kernel
theorem dX4_fewestLots_4 : decode cX4_fewestLots 4 = .ok (.aload_n 0, 1) := by decide +kernel
theorem dX4_fewestLots_5 : decode cX4_fewestLots 5 = .ok (.getfield 25, 3) := by decide +kernel
theorem dX4_fewestLots_8 : decode cX4_fewestLots 8 = .ok (.iaload, 1) := by decide +kernel
theorem dX4_fewestLots_9 : decode cX4_fewestLots 9 = .ok (.bipush 11, 2) := by decide +kernel
theorem dX4_fewestLots_11 : decode cX4_fewestLots 11 = .ok (.if_icmp .ne 7, 3) := by decide +kernel
theorem dX4_fewestLots_14 : decode cX4_fewestLots 14 = .ok (.iconst 0, 1) := by decide +kernel
theorem dX4_fewestLots_15 : decode cX4_fewestLots 15 = .ok (.goto 12, 3) := by decide +kernel
theorem dX4_fewestLots_18 : decode cX4_fewestLots 18 = .ok (.aload_n 0, 1) := by decide +kernel
theorem dX4_fewestLots_19 : decode cX4_fewestLots 19 = .ok (.getfield 15, 3) := by decide +kernel
theorem dX4_fewestLots_22 : decode cX4_fewestLots 22 = .ok (.aload_n 0, 1) := by decide +kernel
theorem dX4_fewestLots_23 : decode cX4_fewestLots 23 = .ok (.getfield 25, 3) := by decide +kernel
theorem dX4_fewestLots_26 : decode cX4_fewestLots 26 = .ok (.iaload, 1) := by decide +kernel
theorem dX4_fewestLots_27 : decode cX4_fewestLots 27 = .ok (.ireturn, 1) := by decide +kernel
theorem dX4_lotAt_0 : decode cX4_lotAt 0 = .ok (.aload_n 0, 1) := by decide +kernel
theorem dX4_lotAt_1 : decode cX4_lotAt 1 = .ok (.getfield 25, 3) := by decide +kernel
theorem dX4_lotAt_4 : decode cX4_lotAt 4 = .ok (.istore_n 2, 1) := by decide +kernel
theorem dX4_lotAt_5 : decode cX4_lotAt 5 = .ok (.iconst 0, 1) := by decide +kernel
theorem dX4_lotAt_6 : decode cX4_lotAt 6 = .ok (.istore_n 3, 1) := by decide +kernel
theorem dX4_lotAt_7 : decode cX4_lotAt 7 = .ok (.iload_n 3, 1) := by decide +kernel
theorem dX4_lotAt_8 : decode cX4_lotAt 8 = .ok (.iload_n 1, 1) := by decide +kernel
theorem dX4_lotAt_9 : decode cX4_lotAt 9 = .ok (.if_icmp .ge 17, 3) := by decide +kernel
theorem dX4_lotAt_12 : decode cX4_lotAt 12 = .ok (.iload_n 2, 1) := by decide +kernel
theorem dX4_lotAt_13 : decode cX4_lotAt 13 = .ok (.aload_n 0, 1) := by decide +kernel
theorem dX4_lotAt_14 : decode cX4_lotAt 14 = .ok (.iload_n 2, 1) := by decide +kernel
theorem dX4_lotAt_15 : decode cX4_lotAt 15 = .ok (.invokevirtual 49, 3) := by decide +kernel
theorem dX4_lotAt_18 : decode cX4_lotAt 18 = .ok (.ixor, 1) := by decide +kernel
theorem dX4_lotAt_19 : decode cX4_lotAt 19 = .ok (.istore_n 2, 1) := by decide +kernel
theorem dX4_lotAt_20 : decode cX4_lotAt 20 = .ok (.iinc 3 1, 3) := by decide +kernel
theorem dX4_lotAt_23 : decode cX4_lotAt 23 = .ok (.goto (-16), 3) := by decide +kernel
theorem dX4_lotAt_26 : decode cX4_lotAt 26 = .ok (.aload_n 0, 1) := by decide +kernel
theorem dX4_lotAt_27 : decode cX4_lotAt 27 = .ok (.iload_n 2, 1) := by decide +kernel
theorem dX4_lotAt_28 : decode cX4_lotAt 28 = .ok (.invokevirtual 49, 3) := by decide +kernel
theorem dX4_lotAt_31 : decode cX4_lotAt 31 = .ok (.ireturn, 1) := by decide +kernel
theorem dX4_bestLot_0 : decode cX4_bestLot 0 = .ok (.iload_n 1, 1) := by decide +kernel
theorem dX4_bestLot_1 : decode cX4_bestLot 1 = .ok (.iload_n 1, 1) := by decide +kernel
theorem dX4_bestLot_2 : decode cX4_bestLot 2 = .ok (.ineg, 1) := by decide +kernel
theorem dX4_bestLot_3 : decode cX4_bestLot 3 = .ok (.iand, 1) := by decide +kernel
theorem dX4_bestLot_4 : decode cX4_bestLot 4 = .ok (.istore_n 2, 1) := by decide +kernel
theorem dX4_bestLot_5 : decode cX4_bestLot 5 = .ok (.iload_n 1, 1) := by decide +kernel
theorem dX4_bestLot_6 : decode cX4_bestLot 6 = .ok (.iload_n 2, 1) := by decide +kernel
theorem dX4_bestLot_7 : decode cX4_bestLot 7 = .ok (.ixor, 1) := by decide +kernel
theorem dX4_bestLot_8 : decode cX4_bestLot 8 = .ok (.istore_n 3, 1) := by decide +kernel
theorem dX4_bestLot_9 : decode cX4_bestLot 9 = .ok (.iconst 1, 1) := by decide +kernel
theorem dX4_bestLot_10 : decode cX4_bestLot 10 = .ok (.iload_n 3, 1) := by decide +kernel
theorem dX4_bestLot_11 : decode cX4_bestLot 11 = .ok (.invokestatic 53, 3) := by decide +kernel
theorem dX4_bestLot_14 : decode cX4_bestLot 14 = .ok (.ishl, 1) := by decide +kernel
theorem dX4_bestLot_15 : decode cX4_bestLot 15 = .ok (.istore 4, 2) := by decide +kernel
theorem dX4_bestLot_17 : decode cX4_bestLot 17 = .ok (.iconst 0, 1) := by decide +kernel
theorem dX4_bestLot_18 : decode cX4_bestLot 18 = .ok (.istore 5, 2) := by decide +kernel
theorem dX4_bestLot_20 : decode cX4_bestLot 20 = .ok (.bipush 11, 2) := by decide +kernel
theorem dX4_bestLot_22 : decode cX4_bestLot 22 = .ok (.istore 6, 2) := by decide +kernel
theorem dX4_bestLot_24 : decode cX4_bestLot 24 = .ok (.iconst 0, 1) := by decide +kernel
theorem dX4_bestLot_25 : decode cX4_bestLot 25 = .ok (.istore 7, 2) := by decide +kernel
theorem dX4_bestLot_27 : decode cX4_bestLot 27 = .ok (.iconst 0, 1) := by decide +kernel
theorem dX4_bestLot_28 : decode cX4_bestLot 28 = .ok (.istore 8, 2) := by decide +kernel
theorem dX4_bestLot_30 : decode cX4_bestLot 30 = .ok (.iload 8, 2) := by decide +kernel
theorem dX4_bestLot_32 : decode cX4_bestLot 32 = .ok (.iload 4, 2) := by decide +kernel
theorem dX4_bestLot_34 : decode cX4_bestLot 34 = .ok (.if_icmp .ge 73, 3) := by decide +kernel
theorem dX4_bestLot_37 : decode cX4_bestLot 37 = .ok (.iload_n 2, 1) := by decide +kernel
theorem dX4_bestLot_38 : decode cX4_bestLot 38 = .ok (.iload 7, 2) := by decide +kernel
theorem dX4_bestLot_40 : decode cX4_bestLot 40 = .ok (.ior, 1) := by decide +kernel
theorem dX4_bestLot_41 : decode cX4_bestLot 41 = .ok (.istore 9, 2) := by decide +kernel
theorem dX4_bestLot_43 : decode cX4_bestLot 43 = .ok (.aload_n 0, 1) := by decide +kernel
theorem dX4_bestLot_44 : decode cX4_bestLot 44 = .ok (.getfield 9, 3) := by decide +kernel
theorem dX4_bestLot_47 : decode cX4_bestLot 47 = .ok (.iload 9, 2) := by decide +kernel
theorem dX4_bestLot_49 : decode cX4_bestLot 49 = .ok (.iaload, 1) := by decide +kernel
theorem dX4_bestLot_50 : decode cX4_bestLot 50 = .ok (.aload_n 0, 1) := by decide +kernel
theorem dX4_bestLot_51 : decode cX4_bestLot 51 = .ok (.getfield 18, 3) := by decide +kernel
theorem dX4_bestLot_54 : decode cX4_bestLot 54 = .ok (.aload_n 0, 1) := by decide +kernel
theorem dX4_bestLot_55 : decode cX4_bestLot 55 = .ok (.getfield 22, 3) := by decide +kernel
theorem dX4_bestLot_58 : decode cX4_bestLot 58 = .ok (.invokestatic 58, 3) := by decide +kernel
theorem dX4_bestLot_61 : decode cX4_bestLot 61 = .ok (.ifCond .eq 32, 3) := by decide +kernel
theorem dX4_bestLot_64 : decode cX4_bestLot 64 = .ok (.aload_n 0, 1) := by decide +kernel
theorem dX4_bestLot_65 : decode cX4_bestLot 65 = .ok (.getfield 15, 3) := by decide +kernel
theorem dX4_bestLot_68 : decode cX4_bestLot 68 = .ok (.iload_n 1, 1) := by decide +kernel
theorem dX4_bestLot_69 : decode cX4_bestLot 69 = .ok (.iload 9, 2) := by decide +kernel
theorem dX4_bestLot_71 : decode cX4_bestLot 71 = .ok (.ixor, 1) := by decide +kernel
theorem dX4_bestLot_72 : decode cX4_bestLot 72 = .ok (.iaload, 1) := by decide +kernel
theorem dX4_bestLot_73 : decode cX4_bestLot 73 = .ok (.iload 6, 2) := by decide +kernel
theorem dX4_bestLot_75 : decode cX4_bestLot 75 = .ok (.if_icmp .ge 18, 3) := by decide +kernel
theorem dX4_bestLot_78 : decode cX4_bestLot 78 = .ok (.iload 9, 2) := by decide +kernel
theorem dX4_bestLot_80 : decode cX4_bestLot 80 = .ok (.istore 5, 2) := by decide +kernel
theorem dX4_bestLot_82 : decode cX4_bestLot 82 = .ok (.aload_n 0, 1) := by decide +kernel
theorem dX4_bestLot_83 : decode cX4_bestLot 83 = .ok (.getfield 15, 3) := by decide +kernel
theorem dX4_bestLot_86 : decode cX4_bestLot 86 = .ok (.iload_n 1, 1) := by decide +kernel
theorem dX4_bestLot_87 : decode cX4_bestLot 87 = .ok (.iload 9, 2) := by decide +kernel
theorem dX4_bestLot_89 : decode cX4_bestLot 89 = .ok (.ixor, 1) := by decide +kernel
theorem dX4_bestLot_90 : decode cX4_bestLot 90 = .ok (.iaload, 1) := by decide +kernel
theorem dX4_bestLot_91 : decode cX4_bestLot 91 = .ok (.istore 6, 2) := by decide +kernel
theorem dX4_bestLot_93 : decode cX4_bestLot 93 = .ok (.iload 7, 2) := by decide +kernel
theorem dX4_bestLot_95 : decode cX4_bestLot 95 = .ok (.iload_n 3, 1) := by decide +kernel
theorem dX4_bestLot_96 : decode cX4_bestLot 96 = .ok (.isub, 1) := by decide +kernel
theorem dX4_bestLot_97 : decode cX4_bestLot 97 = .ok (.iload_n 3, 1) := by decide +kernel
theorem dX4_bestLot_98 : decode cX4_bestLot 98 = .ok (.iand, 1) := by decide +kernel
theorem dX4_bestLot_99 : decode cX4_bestLot 99 = .ok (.istore 7, 2) := by decide +kernel
theorem dX4_bestLot_101 : decode cX4_bestLot 101 = .ok (.iinc 8 1, 3) := by decide +kernel
theorem dX4_bestLot_104 : decode cX4_bestLot 104 = .ok (.goto (-74), 3) := by decide +kernel
theorem dX4_bestLot_107 : decode cX4_bestLot 107 = .ok (.iload 5, 2) := by decide +kernel
theorem dX4_bestLot_109 : decode cX4_bestLot 109 = .ok (.ireturn, 1) := by decide +kernel
theorem dX5_init_0 : decode cX5_init 0 = .ok (.aload_n 0, 1) := by decide +kernel
theorem dX5_init_1 : decode cX5_init 1 = .ok (.iconst 3, 1) := by decide +kernel
theorem dX5_init_2 : decode cX5_init 2 = .ok (.iload_n 1, 1) := by decide +kernel
theorem dX5_init_3 : decode cX5_init 3 = .ok (.iload_n 2, 1) := by decide +kernel
theorem dX5_init_4 : decode cX5_init 4 = .ok (.iload_n 3, 1) := by decide +kernel
theorem dX5_init_5 : decode cX5_init 5 = .ok (.iload 4, 2) := by decide +kernel
theorem dX5_init_7 : decode cX5_init 7 = .ok (.invokespecial 3, 3) := by decide +kernel
theorem dX5_init_10 : decode cX5_init 10 = .ok (.aload_n 0, 1) := by decide +kernel
theorem dX5_init_11 : decode cX5_init 11 = .ok (.iconst 4, 1) := by decide +kernel
theorem dX5_init_12 : decode cX5_init 12 = .ok (.newarray .int, 2) := by decide +kernel
theorem dX5_init_14 : decode cX5_init 14 = .ok (.putfield 9, 3) := by decide +kernel
theorem dX5_init_17 : decode cX5_init 17 = .ok (.aload_n 0, 1) := by decide +kernel
theorem dX5_init_18 : decode cX5_init 18 = .ok (.getfield 9, 3) := by decide +kernel
theorem dX5_init_21 : decode cX5_init 21 = .ok (.iconst (-1), 1) := by decide +kernel
theorem dX5_init_22 : decode cX5_init 22 = .ok (.invokestatic 15, 3) := by decide +kernel
theorem dX5_init_25 : decode cX5_init 25 = .ok (.return_, 1) := by decide +kernel
theorem dX5_handsThatCounted_0 : decode cX5_handsThatCounted 0 = .ok (.iconst 4, 1) := by decide +kernel
theorem dX5_handsThatCounted_1 : decode cX5_handsThatCounted 1 = .ok (.aload_n 0, 1) := by decide +kernel
theorem dX5_handsThatCounted_2 : decode cX5_handsThatCounted 2 = .ok (.iconst (-1), 1) := by decide +kernel
theorem dX5_handsThatCounted_3 : decode cX5_handsThatCounted 3 = .ok (.invokevirtual 21, 3) := by decide +kernel
theorem dX5_handsThatCounted_6 : decode cX5_handsThatCounted 6 = .ok (.isub, 1) := by decide +kernel
theorem dX5_handsThatCounted_7 : decode cX5_handsThatCounted 7 = .ok (.ireturn, 1) := by decide +kernel
theorem dX5_agreedCount_0 : decode cX5_agreedCount 0 = .ok (.iconst (-1), 1) := by decide +kernel
theorem dX5_agreedCount_1 : decode cX5_agreedCount 1 = .ok (.istore_n 1, 1) := by decide +kernel
theorem dX5_agreedCount_2 : decode cX5_agreedCount 2 = .ok (.iconst 0, 1) := by decide +kernel
theorem dX5_agreedCount_3 : decode cX5_agreedCount 3 = .ok (.istore_n 2, 1) := by decide +kernel
theorem dX5_agreedCount_4 : decode cX5_agreedCount 4 = .ok (.iload_n 2, 1) := by decide +kernel
theorem dX5_agreedCount_5 : decode cX5_agreedCount 5 = .ok (.iconst 4, 1) := by decide +kernel
theorem dX5_agreedCount_6 : decode cX5_agreedCount 6 = .ok (.if_icmp .ge 60, 3) := by decide +kernel
theorem dX5_agreedCount_9 : decode cX5_agreedCount 9 = .ok (.aload_n 0, 1) := by decide +kernel
theorem dX5_agreedCount_10 : decode cX5_agreedCount 10 = .ok (.getfield 9, 3) := by decide +kernel
theorem dX5_agreedCount_13 : decode cX5_agreedCount 13 = .ok (.iload_n 2, 1) := by decide +kernel
theorem dX5_agreedCount_14 : decode cX5_agreedCount 14 = .ok (.iaload, 1) := by decide +kernel
theorem dX5_agreedCount_15 : decode cX5_agreedCount 15 = .ok (.iconst (-1), 1) := by decide +kernel
theorem dX5_agreedCount_16 : decode cX5_agreedCount 16 = .ok (.if_icmp .eq 44, 3) := by decide +kernel
theorem dX5_agreedCount_19 : decode cX5_agreedCount 19 = .ok (.aload_n 0, 1) := by decide +kernel
theorem dX5_agreedCount_20 : decode cX5_agreedCount 20 = .ok (.getfield 9, 3) := by decide +kernel
theorem dX5_agreedCount_23 : decode cX5_agreedCount 23 = .ok (.iload_n 2, 1) := by decide +kernel
theorem dX5_agreedCount_24 : decode cX5_agreedCount 24 = .ok (.iaload, 1) := by decide +kernel
theorem dX5_agreedCount_25 : decode cX5_agreedCount 25 = .ok (.iload_n 1, 1) := by decide +kernel
theorem dX5_agreedCount_26 : decode cX5_agreedCount 26 = .ok (.if_icmp .eq 34, 3) := by decide +kernel
theorem dX5_agreedCount_29 : decode cX5_agreedCount 29 = .ok (.aload_n 0, 1) := by decide +kernel
theorem dX5_agreedCount_30 : decode cX5_agreedCount 30 = .ok (.aload_n 0, 1) := by decide +kernel
theorem dX5_agreedCount_31 : decode cX5_agreedCount 31 = .ok (.getfield 9, 3) := by decide +kernel
theorem dX5_agreedCount_34 : decode cX5_agreedCount 34 = .ok (.iload_n 2, 1) := by decide +kernel
theorem dX5_agreedCount_35 : decode cX5_agreedCount 35 = .ok (.iaload, 1) := by decide +kernel
theorem dX5_agreedCount_36 : decode cX5_agreedCount 36 = .ok (.invokevirtual 21, 3) := by decide +kernel
theorem dX5_agreedCount_39 : decode cX5_agreedCount 39 = .ok (.iconst 2, 1) := by decide +kernel
theorem dX5_agreedCount_40 : decode cX5_agreedCount 40 = .ok (.if_icmp .ge 6, 3) := by decide +kernel
theorem dX5_agreedCount_43 : decode cX5_agreedCount 43 = .ok (.goto 17, 3) := by decide +kernel
theorem dX5_agreedCount_46 : decode cX5_agreedCount 46 = .ok (.iload_n 1, 1) := by decide +kernel
theorem dX5_agreedCount_47 : decode cX5_agreedCount 47 = .ok (.iconst (-1), 1) := by decide +kernel
theorem dX5_agreedCount_48 : decode cX5_agreedCount 48 = .ok (.if_icmp .eq 5, 3) := by decide +kernel
theorem dX5_agreedCount_51 : decode cX5_agreedCount 51 = .ok (.iconst (-1), 1) := by decide +kernel
theorem dX5_agreedCount_52 : decode cX5_agreedCount 52 = .ok (.ireturn, 1) := by decide +kernel
theorem dX5_agreedCount_53 : decode cX5_agreedCount 53 = .ok (.aload_n 0, 1) := by decide +kernel
theorem dX5_agreedCount_54 : decode cX5_agreedCount 54 = .ok (.getfield 9, 3) := by decide +kernel
theorem dX5_agreedCount_57 : decode cX5_agreedCount 57 = .ok (.iload_n 2, 1) := by decide +kernel
theorem dX5_agreedCount_58 : decode cX5_agreedCount 58 = .ok (.iaload, 1) := by decide +kernel
theorem dX5_agreedCount_59 : decode cX5_agreedCount 59 = .ok (.istore_n 1, 1) := by decide +kernel
theorem dX5_agreedCount_60 : decode cX5_agreedCount 60 = .ok (.iinc 2 1, 3) := by decide +kernel
theorem dX5_agreedCount_63 : decode cX5_agreedCount 63 = .ok (.goto (-59), 3) := by decide +kernel
theorem dX5_agreedCount_66 : decode cX5_agreedCount 66 = .ok (.iload_n 1, 1) := by decide +kernel
theorem dX5_agreedCount_67 : decode cX5_agreedCount 67 = .ok (.ireturn, 1) := by decide +kernel
theorem dX5_handsWith_0 : decode cX5_handsWith 0 = .ok (.iconst 0, 1) := by decide +kernel
theorem dX5_handsWith_1 : decode cX5_handsWith 1 = .ok (.istore_n 2, 1) := by decide +kernel
theorem dX5_handsWith_2 : decode cX5_handsWith 2 = .ok (.iconst 0, 1) := by decide +kernel
theorem dX5_handsWith_3 : decode cX5_handsWith 3 = .ok (.istore_n 3, 1) := by decide +kernel
theorem dX5_handsWith_4 : decode cX5_handsWith 4 = .ok (.iload_n 3, 1) := by decide +kernel
theorem dX5_handsWith_5 : decode cX5_handsWith 5 = .ok (.iconst 4, 1) := by decide +kernel
theorem dX5_handsWith_6 : decode cX5_handsWith 6 = .ok (.if_icmp .ge 22, 3) := by decide +kernel
theorem dX5_handsWith_9 : decode cX5_handsWith 9 = .ok (.aload_n 0, 1) := by decide +kernel
theorem dX5_handsWith_10 : decode cX5_handsWith 10 = .ok (.getfield 9, 3) := by decide +kernel
theorem dX5_handsWith_13 : decode cX5_handsWith 13 = .ok (.iload_n 3, 1) := by decide +kernel
theorem dX5_handsWith_14 : decode cX5_handsWith 14 = .ok (.iaload, 1) := by decide +kernel
theorem dX5_handsWith_15 : decode cX5_handsWith 15 = .ok (.iload_n 1, 1) := by decide +kernel
theorem dX5_handsWith_16 : decode cX5_handsWith 16 = .ok (.if_icmp .ne 6, 3) := by decide +kernel
theorem dX5_handsWith_19 : decode cX5_handsWith 19 = .ok (.iinc 2 1, 3) := by decide +kernel
theorem dX5_handsWith_22 : decode cX5_handsWith 22 = .ok (.iinc 3 1, 3) := by decide +kernel
theorem dX5_handsWith_25 : decode cX5_handsWith 25 = .ok (.goto (-21), 3) := by decide +kernel
theorem dX5_handsWith_28 : decode cX5_handsWith 28 = .ok (.iload_n 2, 1) := by decide +kernel
theorem dX5_handsWith_29 : decode cX5_handsWith 29 = .ok (.ireturn, 1) := by decide +kernel
theorem dX6_init_0 : decode cX6_init 0 = .ok (.aload_n 0, 1) := by decide +kernel
theorem dX6_init_1 : decode cX6_init 1 = .ok (.invokespecial 3, 3) := by decide +kernel
theorem dX6_init_4 : decode cX6_init 4 = .ok (.aload_n 0, 1) := by decide +kernel
theorem dX6_init_5 : decode cX6_init 5 = .ok (.bipush 6, 2) := by decide +kernel
theorem dX6_init_7 : decode cX6_init 7 = .ok (.newarray .int, 2) := by decide +kernel
theorem dX6_init_9 : decode cX6_init 9 = .ok (.putfield 9, 3) := by decide +kernel
theorem dX6_init_12 : decode cX6_init 12 = .ok (.aload_n 0, 1) := by decide +kernel
theorem dX6_init_13 : decode cX6_init 13 = .ok (.bipush 6, 2) := by decide +kernel
theorem dX6_init_15 : decode cX6_init 15 = .ok (.newarray .int, 2) := by decide +kernel
theorem dX6_init_17 : decode cX6_init 17 = .ok (.putfield 15, 3) := by decide +kernel
theorem dX6_init_20 : decode cX6_init 20 = .ok (.aload_n 0, 1) := by decide +kernel
theorem dX6_init_21 : decode cX6_init 21 = .ok (.iconst 0, 1) := by decide +kernel
theorem dX6_init_22 : decode cX6_init 22 = .ok (.putfield 18, 3) := by decide +kernel
theorem dX6_init_25 : decode cX6_init 25 = .ok (.aload_n 0, 1) := by decide +kernel
theorem dX6_init_26 : decode cX6_init 26 = .ok (.iconst 0, 1) := by decide +kernel
theorem dX6_init_27 : decode cX6_init 27 = .ok (.putfield 22, 3) := by decide +kernel
theorem dX6_init_30 : decode cX6_init 30 = .ok (.return_, 1) := by decide +kernel
theorem dX6_add_0 : decode cX6_add 0 = .ok (.aload_n 0, 1) := by decide +kernel
theorem dX6_add_1 : decode cX6_add 1 = .ok (.getfield 9, 3) := by decide +kernel
theorem dX6_add_4 : decode cX6_add 4 = .ok (.iload_n 1, 1) := by decide +kernel
theorem dX6_add_5 : decode cX6_add 5 = .ok (.dup2, 1) := by decide +kernel
theorem dX6_add_6 : decode cX6_add 6 = .ok (.iaload, 1) := by decide +kernel
theorem dX6_add_7 : decode cX6_add 7 = .ok (.iconst 1, 1) := by decide +kernel
theorem dX6_add_8 : decode cX6_add 8 = .ok (.iadd, 1) := by decide +kernel
theorem dX6_add_9 : decode cX6_add 9 = .ok (.iastore, 1) := by decide +kernel
theorem dX6_add_10 : decode cX6_add 10 = .ok (.aload_n 0, 1) := by decide +kernel
theorem dX6_add_11 : decode cX6_add 11 = .ok (.getfield 15, 3) := by decide +kernel
theorem dX6_add_14 : decode cX6_add 14 = .ok (.iload_n 1, 1) := by decide +kernel
theorem dX6_add_15 : decode cX6_add 15 = .ok (.dup2, 1) := by decide +kernel
theorem dX6_add_16 : decode cX6_add 16 = .ok (.iaload, 1) := by decide +kernel
theorem dX6_add_17 : decode cX6_add 17 = .ok (.iload_n 2, 1) := by decide +kernel
theorem dX6_add_18 : decode cX6_add 18 = .ok (.iadd, 1) := by decide +kernel
theorem dX6_add_19 : decode cX6_add 19 = .ok (.iastore, 1) := by decide +kernel
theorem dX6_add_20 : decode cX6_add 20 = .ok (.aload_n 0, 1) := by decide +kernel
theorem dX6_add_21 : decode cX6_add 21 = .ok (.dup, 1) := by decide +kernel
theorem dX6_add_22 : decode cX6_add 22 = .ok (.getfield 18, 3) := by decide +kernel
theorem dX6_add_25 : decode cX6_add 25 = .ok (.iconst 1, 1) := by decide +kernel
theorem dX6_add_26 : decode cX6_add 26 = .ok (.iadd, 1) := by decide +kernel
theorem dX6_add_27 : decode cX6_add 27 = .ok (.putfield 18, 3) := by decide +kernel
theorem dX6_add_30 : decode cX6_add 30 = .ok (.aload_n 0, 1) := by decide +kernel
theorem dX6_add_31 : decode cX6_add 31 = .ok (.dup, 1) := by decide +kernel
theorem dX6_add_32 : decode cX6_add 32 = .ok (.getfield 22, 3) := by decide +kernel
theorem dX6_add_35 : decode cX6_add 35 = .ok (.iload_n 2, 1) := by decide +kernel
theorem dX6_add_36 : decode cX6_add 36 = .ok (.iadd, 1) := by decide +kernel
theorem dX6_add_37 : decode cX6_add 37 = .ok (.putfield 22, 3) := by decide +kernel
theorem dX6_add_40 : decode cX6_add 40 = .ok (.return_, 1) := by decide +kernel
theorem dX6_isBeyondChance_0 : decode cX6_isBeyondChance 0 = .ok (.aload_n 0, 1) := by decide +kernel
theorem dX6_isBeyondChance_1 : decode cX6_isBeyondChance 1 = .ok (.getfield 9, 3) := by decide +kernel
theorem dX6_isBeyondChance_4 : decode cX6_isBeyondChance 4 = .ok (.iload_n 1, 1) := by decide +kernel
theorem dX6_isBeyondChance_5 : decode cX6_isBeyondChance 5 = .ok (.iaload, 1) := by decide +kernel
theorem dX6_isBeyondChance_6 : decode cX6_isBeyondChance 6 = .ok (.istore_n 2, 1) := by decide +kernel
theorem dX6_isBeyondChance_7 : decode cX6_isBeyondChance 7 = .ok (.aload_n 0, 1) := by decide +kernel
theorem dX6_isBeyondChance_8 : decode cX6_isBeyondChance 8 = .ok (.getfield 15, 3) := by decide +kernel
theorem dX6_isBeyondChance_11 : decode cX6_isBeyondChance 11 = .ok (.iload_n 1, 1) := by decide +kernel
theorem dX6_isBeyondChance_12 : decode cX6_isBeyondChance 12 = .ok (.iaload, 1) := by decide +kernel
theorem dX6_isBeyondChance_13 : decode cX6_isBeyondChance 13 = .ok (.istore_n 3, 1) := by decide +kernel
theorem dX6_isBeyondChance_14 : decode cX6_isBeyondChance 14 = .ok (.lconst 0, 1) := by decide +kernel
theorem dX6_isBeyondChance_15 : decode cX6_isBeyondChance 15 = .ok (.lstore 4, 2) := by decide +kernel
theorem dX6_isBeyondChance_17 : decode cX6_isBeyondChance 17 = .ok (.iload_n 3, 1) := by decide +kernel
theorem dX6_isBeyondChance_18 : decode cX6_isBeyondChance 18 = .ok (.istore 6, 2) := by decide +kernel
theorem dX6_isBeyondChance_20 : decode cX6_isBeyondChance 20 = .ok (.iload 6, 2) := by decide +kernel
theorem dX6_isBeyondChance_22 : decode cX6_isBeyondChance 22 = .ok (.iload_n 2, 1) := by decide +kernel
theorem dX6_isBeyondChance_23 : decode cX6_isBeyondChance 23 = .ok (.if_icmp .gt 40, 3) := by decide +kernel
theorem dX6_isBeyondChance_26 : decode cX6_isBeyondChance 26 = .ok (.lload 4, 2) := by decide +kernel
theorem dX6_isBeyondChance_28 : decode cX6_isBeyondChance 28 = .ok (.iload 6, 2) := by decide +kernel
theorem dX6_isBeyondChance_30 : decode cX6_isBeyondChance 30 = .ok (.aload_n 0, 1) := by decide +kernel
theorem dX6_isBeyondChance_31 : decode cX6_isBeyondChance 31 = .ok (.getfield 22, 3) := by decide +kernel
theorem dX6_isBeyondChance_34 : decode cX6_isBeyondChance 34 = .ok (.invokestatic 25, 3) := by decide +kernel
theorem dX6_isBeyondChance_37 : decode cX6_isBeyondChance 37 = .ok (.iload_n 2, 1) := by decide +kernel
theorem dX6_isBeyondChance_38 : decode cX6_isBeyondChance 38 = .ok (.iload 6, 2) := by decide +kernel
theorem dX6_isBeyondChance_40 : decode cX6_isBeyondChance 40 = .ok (.isub, 1) := by decide +kernel
theorem dX6_isBeyondChance_41 : decode cX6_isBeyondChance 41 = .ok (.aload_n 0, 1) := by decide +kernel
theorem dX6_isBeyondChance_42 : decode cX6_isBeyondChance 42 = .ok (.getfield 18, 3) := by decide +kernel
theorem dX6_isBeyondChance_45 : decode cX6_isBeyondChance 45 = .ok (.aload_n 0, 1) := by decide +kernel
theorem dX6_isBeyondChance_46 : decode cX6_isBeyondChance 46 = .ok (.getfield 22, 3) := by decide +kernel
theorem dX6_isBeyondChance_49 : decode cX6_isBeyondChance 49 = .ok (.isub, 1) := by decide +kernel
theorem dX6_isBeyondChance_50 : decode cX6_isBeyondChance 50 = .ok (.invokestatic 25, 3) := by decide +kernel
theorem dX6_isBeyondChance_53 : decode cX6_isBeyondChance 53 = .ok (.lmul, 1) := by decide +kernel
theorem dX6_isBeyondChance_54 : decode cX6_isBeyondChance 54 = .ok (.ladd, 1) := by decide +kernel
theorem dX6_isBeyondChance_55 : decode cX6_isBeyondChance 55 = .ok (.lstore 4, 2) := by decide +kernel
theorem dX6_isBeyondChance_57 : decode cX6_isBeyondChance 57 = .ok (.iinc 6 1, 3) := by decide +kernel
theorem dX6_isBeyondChance_60 : decode cX6_isBeyondChance 60 = .ok (.goto (-40), 3) := by decide +kernel
theorem dX6_isBeyondChance_63 : decode cX6_isBeyondChance 63 = .ok (.iload_n 3, 1) := by decide +kernel
theorem dX6_isBeyondChance_64 : decode cX6_isBeyondChance 64 = .ok (.ifCond .le 25, 3) := by decide +kernel
theorem dX6_isBeyondChance_67 : decode cX6_isBeyondChance 67 = .ok (.ldc2_w 29, 3) := by decide +kernel
theorem dX6_isBeyondChance_70 : decode cX6_isBeyondChance 70 = .ok (.lload 4, 2) := by decide +kernel
theorem dX6_isBeyondChance_72 : decode cX6_isBeyondChance 72 = .ok (.lmul, 1) := by decide +kernel
theorem dX6_isBeyondChance_73 : decode cX6_isBeyondChance 73 = .ok (.iload_n 2, 1) := by decide +kernel
theorem dX6_isBeyondChance_74 : decode cX6_isBeyondChance 74 = .ok (.aload_n 0, 1) := by decide +kernel
theorem dX6_isBeyondChance_75 : decode cX6_isBeyondChance 75 = .ok (.getfield 18, 3) := by decide +kernel
theorem dX6_isBeyondChance_78 : decode cX6_isBeyondChance 78 = .ok (.invokestatic 25, 3) := by decide +kernel
theorem dX6_isBeyondChance_81 : decode cX6_isBeyondChance 81 = .ok (.lcmp, 1) := by decide +kernel
theorem dX6_isBeyondChance_82 : decode cX6_isBeyondChance 82 = .ok (.ifCond .gt 7, 3) := by decide +kernel
theorem dX6_isBeyondChance_85 : decode cX6_isBeyondChance 85 = .ok (.iconst 1, 1) := by decide +kernel
theorem dX6_isBeyondChance_86 : decode cX6_isBeyondChance 86 = .ok (.goto 4, 3) := by decide +kernel
theorem dX6_isBeyondChance_89 : decode cX6_isBeyondChance 89 = .ok (.iconst 0, 1) := by decide +kernel
theorem dX6_isBeyondChance_90 : decode cX6_isBeyondChance 90 = .ok (.ireturn, 1) := by decide +kernel
theorem dX6_waysToChoose_0 : decode cX6_waysToChoose 0 = .ok (.iload_n 0, 1) := by decide +kernel
theorem dX6_waysToChoose_1 : decode cX6_waysToChoose 1 = .ok (.iload_n 1, 1) := by decide +kernel
theorem dX6_waysToChoose_2 : decode cX6_waysToChoose 2 = .ok (.if_icmp .le 5, 3) := by decide +kernel
theorem dX6_waysToChoose_5 : decode cX6_waysToChoose 5 = .ok (.lconst 0, 1) := by decide +kernel
theorem dX6_waysToChoose_6 : decode cX6_waysToChoose 6 = .ok (.lreturn, 1) := by decide +kernel
theorem dX6_waysToChoose_7 : decode cX6_waysToChoose 7 = .ok (.lconst 1, 1) := by decide +kernel
theorem dX6_waysToChoose_8 : decode cX6_waysToChoose 8 = .ok (.lstore_n 2, 1) := by decide +kernel
theorem dX6_waysToChoose_9 : decode cX6_waysToChoose 9 = .ok (.iconst 0, 1) := by decide +kernel
theorem dX6_waysToChoose_10 : decode cX6_waysToChoose 10 = .ok (.istore 4, 2) := by decide +kernel
theorem dX6_waysToChoose_12 : decode cX6_waysToChoose 12 = .ok (.iload 4, 2) := by decide +kernel
theorem dX6_waysToChoose_14 : decode cX6_waysToChoose 14 = .ok (.iload_n 0, 1) := by decide +kernel
theorem dX6_waysToChoose_15 : decode cX6_waysToChoose 15 = .ok (.if_icmp .ge 23, 3) := by decide +kernel
theorem dX6_waysToChoose_18 : decode cX6_waysToChoose 18 = .ok (.lload_n 2, 1) := by decide +kernel
theorem dX6_waysToChoose_19 : decode cX6_waysToChoose 19 = .ok (.iload_n 1, 1) := by decide +kernel
theorem dX6_waysToChoose_20 : decode cX6_waysToChoose 20 = .ok (.iload 4, 2) := by decide +kernel
theorem dX6_waysToChoose_22 : decode cX6_waysToChoose 22 = .ok (.isub, 1) := by decide +kernel
theorem dX6_waysToChoose_23 : decode cX6_waysToChoose 23 = .ok (.i2l, 1) := by decide +kernel
theorem dX6_waysToChoose_24 : decode cX6_waysToChoose 24 = .ok (.lmul, 1) := by decide +kernel
theorem dX6_waysToChoose_25 : decode cX6_waysToChoose 25 = .ok (.iload 4, 2) := by decide +kernel
theorem dX6_waysToChoose_27 : decode cX6_waysToChoose 27 = .ok (.iconst 1, 1) := by decide +kernel
theorem dX6_waysToChoose_28 : decode cX6_waysToChoose 28 = .ok (.iadd, 1) := by decide +kernel
theorem dX6_waysToChoose_29 : decode cX6_waysToChoose 29 = .ok (.i2l, 1) := by decide +kernel
theorem dX6_waysToChoose_30 : decode cX6_waysToChoose 30 = .ok (.ldiv, 1) := by decide +kernel
theorem dX6_waysToChoose_31 : decode cX6_waysToChoose 31 = .ok (.lstore_n 2, 1) := by decide +kernel
theorem dX6_waysToChoose_32 : decode cX6_waysToChoose 32 = .ok (.iinc 4 1, 3) := by decide +kernel
theorem dX6_waysToChoose_35 : decode cX6_waysToChoose 35 = .ok (.goto (-23), 3) := by decide +kernel
theorem dX6_waysToChoose_38 : decode cX6_waysToChoose 38 = .ok (.lload_n 2, 1) := by decide +kernel
theorem dX6_waysToChoose_39 : decode cX6_waysToChoose 39 = .ok (.lreturn, 1) := by decide +kernel
theorem dX7_init_0 : decode cX7_init 0 = .ok (.aload_n 0, 1) := by decide +kernel
theorem dX7_init_1 : decode cX7_init 1 = .ok (.invokespecial 3, 3) := by decide +kernel
theorem dX7_init_4 : decode cX7_init 4 = .ok (.aload_n 0, 1) := by decide +kernel
theorem dX7_init_5 : decode cX7_init 5 = .ok (.iconst 5, 1) := by decide +kernel
theorem dX7_init_6 : decode cX7_init 6 = .ok (.newarray .int, 2) := by decide +kernel
theorem dX7_init_8 : decode cX7_init 8 = .ok (.putfield 9, 3) := by decide +kernel
theorem dX7_init_11 : decode cX7_init 11 = .ok (.aload_n 0, 1) := by decide +kernel
theorem dX7_init_12 : decode cX7_init 12 = .ok (.iconst 1, 1) := by decide +kernel
theorem dX7_init_13 : decode cX7_init 13 = .ok (.putfield 15, 3) := by decide +kernel
theorem dX7_init_16 : decode cX7_init 16 = .ok (.aload_n 0, 1) := by decide +kernel
theorem dX7_init_17 : decode cX7_init 17 = .ok (.sipush 5000, 3) := by decide +kernel
theorem dX7_init_20 : decode cX7_init 20 = .ok (.putfield 19, 3) := by decide +kernel
theorem dX7_init_23 : decode cX7_init 23 = .ok (.aload_n 0, 1) := by decide +kernel
theorem dX7_init_24 : decode cX7_init 24 = .ok (.iconst 0, 1) := by decide +kernel
theorem dX7_init_25 : decode cX7_init 25 = .ok (.putfield 22, 3) := by decide +kernel
theorem dX7_init_28 : decode cX7_init 28 = .ok (.aload_n 0, 1) := by decide +kernel
theorem dX7_init_29 : decode cX7_init 29 = .ok (.iload_n 1, 1) := by decide +kernel
theorem dX7_init_30 : decode cX7_init 30 = .ok (.putfield 25, 3) := by decide +kernel
theorem dX7_init_33 : decode cX7_init 33 = .ok (.aload_n 0, 1) := by decide +kernel
theorem dX7_init_34 : decode cX7_init 34 = .ok (.getfield 9, 3) := by decide +kernel
theorem dX7_init_37 : decode cX7_init 37 = .ok (.iconst (-1), 1) := by decide +kernel
theorem dX7_init_38 : decode cX7_init 38 = .ok (.invokestatic 28, 3) := by decide +kernel
theorem dX7_init_41 : decode cX7_init 41 = .ok (.return_, 1) := by decide +kernel
theorem dX7_isBarred_0 : decode cX7_isBarred 0 = .ok (.aload_n 0, 1) := by decide +kernel
theorem dX7_isBarred_1 : decode cX7_isBarred 1 = .ok (.getfield 22, 3) := by decide +kernel
theorem dX7_isBarred_4 : decode cX7_isBarred 4 = .ok (.iconst 3, 1) := by decide +kernel
theorem dX7_isBarred_5 : decode cX7_isBarred 5 = .ok (.if_icmp .lt 7, 3) := by decide +kernel
theorem dX7_isBarred_8 : decode cX7_isBarred 8 = .ok (.iconst 1, 1) := by decide +kernel
theorem dX7_isBarred_9 : decode cX7_isBarred 9 = .ok (.goto 4, 3) := by decide +kernel
theorem dX7_isBarred_12 : decode cX7_isBarred 12 = .ok (.iconst 0, 1) := by decide +kernel
theorem dX7_isBarred_13 : decode cX7_isBarred 13 = .ok (.ireturn, 1) := by decide +kernel
theorem dX8_init_0 : decode cX8_init 0 = .ok (.aload_n 0, 1) := by decide +kernel
theorem dX8_init_1 : decode cX8_init 1 = .ok (.invokespecial 3, 3) := by decide +kernel
theorem dX8_init_4 : decode cX8_init 4 = .ok (.aload_n 0, 1) := by decide +kernel
theorem dX8_init_5 : decode cX8_init 5 = .ok (.iconst 5, 1) := by decide +kernel
theorem dX8_init_6 : decode cX8_init 6 = .ok (.newarray .int, 2) := by decide +kernel
theorem dX8_init_8 : decode cX8_init 8 = .ok (.putfield 9, 3) := by decide +kernel
theorem dX8_init_11 : decode cX8_init 11 = .ok (.aload_n 0, 1) := by decide +kernel
theorem dX8_init_12 : decode cX8_init 12 = .ok (.iconst 0, 1) := by decide +kernel
theorem dX8_init_13 : decode cX8_init 13 = .ok (.putfield 15, 3) := by decide +kernel
theorem dX8_init_16 : decode cX8_init 16 = .ok (.aload_n 0, 1) := by decide +kernel
theorem dX8_init_17 : decode cX8_init 17 = .ok (.iconst (-1), 1) := by decide +kernel
theorem dX8_init_18 : decode cX8_init 18 = .ok (.putfield 19, 3) := by decide +kernel
theorem dX8_init_21 : decode cX8_init 21 = .ok (.aload_n 0, 1) := by decide +kernel
theorem dX8_init_22 : decode cX8_init 22 = .ok (.iconst 0, 1) := by decide +kernel
theorem dX8_init_23 : decode cX8_init 23 = .ok (.putfield 22, 3) := by decide +kernel
theorem dX8_init_26 : decode cX8_init 26 = .ok (.aload_n 0, 1) := by decide +kernel
theorem dX8_init_27 : decode cX8_init 27 = .ok (.iconst 0, 1) := by decide +kernel
theorem dX8_init_28 : decode cX8_init 28 = .ok (.putfield 25, 3) := by decide +kernel
theorem dX8_init_31 : decode cX8_init 31 = .ok (.aload_n 0, 1) := by decide +kernel
theorem dX8_init_32 : decode cX8_init 32 = .ok (.iconst 0, 1) := by decide +kernel
theorem dX8_init_33 : decode cX8_init 33 = .ok (.putfield 28, 3) := by decide +kernel
theorem dX8_init_36 : decode cX8_init 36 = .ok (.aload_n 0, 1) := by decide +kernel
theorem dX8_init_37 : decode cX8_init 37 = .ok (.aconst_null, 1) := by decide +kernel
theorem dX8_init_38 : decode cX8_init 38 = .ok (.putfield 32, 3) := by decide +kernel
theorem dX8_init_41 : decode cX8_init 41 = .ok (.aload_n 0, 1) := by decide +kernel
theorem dX8_init_42 : decode cX8_init 42 = .ok (.iload_n 1, 1) := by decide +kernel
theorem dX8_init_43 : decode cX8_init 43 = .ok (.putfield 36, 3) := by decide +kernel
theorem dX8_init_46 : decode cX8_init 46 = .ok (.aload_n 0, 1) := by decide +kernel
theorem dX8_init_47 : decode cX8_init 47 = .ok (.iload_n 2, 1) := by decide +kernel
theorem dX8_init_48 : decode cX8_init 48 = .ok (.putfield 39, 3) := by decide +kernel
theorem dX8_init_51 : decode cX8_init 51 = .ok (.aload_n 0, 1) := by decide +kernel
theorem dX8_init_52 : decode cX8_init 52 = .ok (.iload_n 3, 1) := by decide +kernel
theorem dX8_init_53 : decode cX8_init 53 = .ok (.putfield 42, 3) := by decide +kernel
theorem dX8_init_56 : decode cX8_init 56 = .ok (.aload_n 0, 1) := by decide +kernel
theorem dX8_init_57 : decode cX8_init 57 = .ok (.iload 4, 2) := by decide +kernel
theorem dX8_init_59 : decode cX8_init 59 = .ok (.putfield 45, 3) := by decide +kernel
theorem dX8_init_62 : decode cX8_init 62 = .ok (.aload_n 0, 1) := by decide +kernel
theorem dX8_init_63 : decode cX8_init 63 = .ok (.iload 5, 2) := by decide +kernel
theorem dX8_init_65 : decode cX8_init 65 = .ok (.putfield 48, 3) := by decide +kernel
theorem dX8_init_68 : decode cX8_init 68 = .ok (.return_, 1) := by decide +kernel
theorem dX8_become_0 : decode cX8_become 0 = .ok (.aload_n 0, 1) := by decide +kernel
theorem dX8_become_1 : decode cX8_become 1 = .ok (.iload_n 1, 1) := by decide +kernel
theorem dX8_become_2 : decode cX8_become 2 = .ok (.putfield 15, 3) := by decide +kernel
theorem dX8_become_5 : decode cX8_become 5 = .ok (.aload_n 0, 1) := by decide +kernel
theorem dX8_become_6 : decode cX8_become 6 = .ok (.getfield 32, 3) := by decide +kernel
theorem dX8_become_9 : decode cX8_become 9 = .ok (.ifnull 25, 3) := by decide +kernel
theorem dX8_become_12 : decode cX8_become 12 = .ok (.aload_n 0, 1) := by decide +kernel
theorem dX8_become_13 : decode cX8_become 13 = .ok (.getfield 32, 3) := by decide +kernel
theorem dX8_become_16 : decode cX8_become 16 = .ok (.getfield 51, 3) := by decide +kernel
theorem dX8_become_19 : decode cX8_become 19 = .ok (.iload_n 2, 1) := by decide +kernel
theorem dX8_become_20 : decode cX8_become 20 = .ok (.if_icmp .ne 14, 3) := by decide +kernel
theorem dX8_become_23 : decode cX8_become 23 = .ok (.aload_n 0, 1) := by decide +kernel
theorem dX8_become_24 : decode cX8_become 24 = .ok (.getfield 32, 3) := by decide +kernel
theorem dX8_become_27 : decode cX8_become 27 = .ok (.iload_n 1, 1) := by decide +kernel
theorem dX8_become_28 : decode cX8_become 28 = .ok (.putfield 56, 3) := by decide +kernel
theorem dX8_become_31 : decode cX8_become 31 = .ok (.goto 20, 3) := by decide +kernel
theorem dX8_become_34 : decode cX8_become 34 = .ok (.aload_n 0, 1) := by decide +kernel
theorem dX8_become_35 : decode cX8_become 35 = .ok (.new 52, 3) := by decide +kernel
theorem dX8_become_38 : decode cX8_become 38 = .ok (.dup, 1) := by decide +kernel
theorem dX8_become_39 : decode cX8_become 39 = .ok (.iload_n 2, 1) := by decide +kernel
theorem dX8_become_40 : decode cX8_become 40 = .ok (.iload_n 1, 1) := by decide +kernel
theorem dX8_become_41 : decode cX8_become 41 = .ok (.aload_n 0, 1) := by decide +kernel
theorem dX8_become_42 : decode cX8_become 42 = .ok (.getfield 32, 3) := by decide +kernel
theorem dX8_become_45 : decode cX8_become 45 = .ok (.invokespecial 57, 3) := by decide +kernel
theorem dX8_become_48 : decode cX8_become 48 = .ok (.putfield 32, 3) := by decide +kernel
theorem dX8_become_51 : decode cX8_become 51 = .ok (.return_, 1) := by decide +kernel
theorem dX8_stateBy_0 : decode cX8_stateBy 0 = .ok (.aload_n 0, 1) := by decide +kernel
theorem dX8_stateBy_1 : decode cX8_stateBy 1 = .ok (.getfield 32, 3) := by decide +kernel
theorem dX8_stateBy_4 : decode cX8_stateBy 4 = .ok (.astore_n 2, 1) := by decide +kernel
theorem dX8_stateBy_5 : decode cX8_stateBy 5 = .ok (.aload_n 2, 1) := by decide +kernel
theorem dX8_stateBy_6 : decode cX8_stateBy 6 = .ok (.ifnull 24, 3) := by decide +kernel
theorem dX8_stateBy_9 : decode cX8_stateBy 9 = .ok (.aload_n 2, 1) := by decide +kernel
theorem dX8_stateBy_10 : decode cX8_stateBy 10 = .ok (.getfield 51, 3) := by decide +kernel
theorem dX8_stateBy_13 : decode cX8_stateBy 13 = .ok (.iload_n 1, 1) := by decide +kernel
theorem dX8_stateBy_14 : decode cX8_stateBy 14 = .ok (.if_icmp .gt 8, 3) := by decide +kernel
theorem dX8_stateBy_17 : decode cX8_stateBy 17 = .ok (.aload_n 2, 1) := by decide +kernel
theorem dX8_stateBy_18 : decode cX8_stateBy 18 = .ok (.getfield 56, 3) := by decide +kernel
theorem dX8_stateBy_21 : decode cX8_stateBy 21 = .ok (.ireturn, 1) := by decide +kernel
theorem dX8_stateBy_22 : decode cX8_stateBy 22 = .ok (.aload_n 2, 1) := by decide +kernel
theorem dX8_stateBy_23 : decode cX8_stateBy 23 = .ok (.getfield 60, 3) := by decide +kernel
theorem dX8_stateBy_26 : decode cX8_stateBy 26 = .ok (.astore_n 2, 1) := by decide +kernel
theorem dX8_stateBy_27 : decode cX8_stateBy 27 = .ok (.goto (-22), 3) := by decide +kernel
theorem dX8_stateBy_30 : decode cX8_stateBy 30 = .ok (.iconst (-1), 1) := by decide +kernel
theorem dX8_stateBy_31 : decode cX8_stateBy 31 = .ok (.ireturn, 1) := by decide +kernel
theorem dX9_init_0 : decode cX9_init 0 = .ok (.aload_n 0, 1) := by decide +kernel
theorem dX9_init_1 : decode cX9_init 1 = .ok (.invokespecial 1, 3) := by decide +kernel
theorem dX9_init_4 : decode cX9_init 4 = .ok (.aload_n 0, 1) := by decide +kernel
theorem dX9_init_5 : decode cX9_init 5 = .ok (.new 7, 3) := by decide +kernel
theorem dX9_init_8 : decode cX9_init 8 = .ok (.dup, 1) := by decide +kernel
theorem dX9_init_9 : decode cX9_init 9 = .ok (.invokespecial 9, 3) := by decide +kernel
theorem dX9_init_12 : decode cX9_init 12 = .ok (.putfield 10, 3) := by decide +kernel
theorem dX9_init_15 : decode cX9_init 15 = .ok (.aload_n 0, 1) := by decide +kernel
theorem dX9_init_16 : decode cX9_init 16 = .ok (.new 7, 3) := by decide +kernel
theorem dX9_init_19 : decode cX9_init 19 = .ok (.dup, 1) := by decide +kernel
theorem dX9_init_20 : decode cX9_init 20 = .ok (.invokespecial 9, 3) := by decide +kernel
theorem dX9_init_23 : decode cX9_init 23 = .ok (.putfield 16, 3) := by decide +kernel
theorem dX9_init_26 : decode cX9_init 26 = .ok (.aload_n 0, 1) := by decide +kernel
theorem dX9_init_27 : decode cX9_init 27 = .ok (.new 7, 3) := by decide +kernel
theorem dX9_init_30 : decode cX9_init 30 = .ok (.dup, 1) := by decide +kernel
theorem dX9_init_31 : decode cX9_init 31 = .ok (.invokespecial 9, 3) := by decide +kernel
theorem dX9_init_34 : decode cX9_init 34 = .ok (.putfield 19, 3) := by decide +kernel
theorem dX9_init_37 : decode cX9_init 37 = .ok (.aload_n 0, 1) := by decide +kernel
theorem dX9_init_38 : decode cX9_init 38 = .ok (.iconst 5, 1) := by decide +kernel
theorem dX9_init_39 : decode cX9_init 39 = .ok (.newarray .int, 2) := by decide +kernel
theorem dX9_init_41 : decode cX9_init 41 = .ok (.putfield 22, 3) := by decide +kernel
theorem dX9_init_44 : decode cX9_init 44 = .ok (.aload_n 0, 1) := by decide +kernel
theorem dX9_init_45 : decode cX9_init 45 = .ok (.iconst 4, 1) := by decide +kernel
theorem dX9_init_46 : decode cX9_init 46 = .ok (.newarray .int, 2) := by decide +kernel
theorem dX9_init_48 : decode cX9_init 48 = .ok (.putfield 26, 3) := by decide +kernel
theorem dX9_init_51 : decode cX9_init 51 = .ok (.aload_n 0, 1) := by decide +kernel
theorem dX9_init_52 : decode cX9_init 52 = .ok (.bipush 6, 2) := by decide +kernel
theorem dX9_init_54 : decode cX9_init 54 = .ok (.newarray .int, 2) := by decide +kernel
theorem dX9_init_56 : decode cX9_init 56 = .ok (.putfield 29, 3) := by decide +kernel
theorem dX9_init_59 : decode cX9_init 59 = .ok (.aload_n 0, 1) := by decide +kernel
theorem dX9_init_60 : decode cX9_init 60 = .ok (.bipush 20, 2) := by decide +kernel
theorem dX9_init_62 : decode cX9_init 62 = .ok (.newarray .int, 2) := by decide +kernel
theorem dX9_init_64 : decode cX9_init 64 = .ok (.putfield 32, 3) := by decide +kernel
theorem dX9_init_67 : decode cX9_init 67 = .ok (.aload_n 0, 1) := by decide +kernel
theorem dX9_init_68 : decode cX9_init 68 = .ok (.new 7, 3) := by decide +kernel
theorem dX9_init_71 : decode cX9_init 71 = .ok (.dup, 1) := by decide +kernel
theorem dX9_init_72 : decode cX9_init 72 = .ok (.invokespecial 9, 3) := by decide +kernel
theorem dX9_init_75 : decode cX9_init 75 = .ok (.putfield 35, 3) := by decide +kernel
theorem dX9_init_78 : decode cX9_init 78 = .ok (.aload_n 0, 1) := by decide +kernel
theorem dX9_init_79 : decode cX9_init 79 = .ok (.new 38, 3) := by decide +kernel
theorem dX9_init_82 : decode cX9_init 82 = .ok (.dup, 1) := by decide +kernel
theorem dX9_init_83 : decode cX9_init 83 = .ok (.invokespecial 40, 3) := by decide +kernel
theorem dX9_init_86 : decode cX9_init 86 = .ok (.putfield 41, 3) := by decide +kernel
theorem dX9_init_89 : decode cX9_init 89 = .ok (.aload_n 0, 1) := by decide +kernel
theorem dX9_init_90 : decode cX9_init 90 = .ok (.new 45, 3) := by decide +kernel
theorem dX9_init_93 : decode cX9_init 93 = .ok (.dup, 1) := by decide +kernel
theorem dX9_init_94 : decode cX9_init 94 = .ok (.invokespecial 47, 3) := by decide +kernel
theorem dX9_init_97 : decode cX9_init 97 = .ok (.putfield 48, 3) := by decide +kernel
theorem dX9_init_100 : decode cX9_init 100 = .ok (.aload_n 0, 1) := by decide +kernel
theorem dX9_init_101 : decode cX9_init 101 = .ok (.new 52, 3) := by decide +kernel
theorem dX9_init_104 : decode cX9_init 104 = .ok (.dup, 1) := by decide +kernel
theorem dX9_init_105 : decode cX9_init 105 = .ok (.invokespecial 54, 3) := by decide +kernel
theorem dX9_init_108 : decode cX9_init 108 = .ok (.putfield 55, 3) := by decide +kernel
theorem dX9_init_111 : decode cX9_init 111 = .ok (.aload_n 0, 1) := by decide +kernel
theorem dX9_init_112 : decode cX9_init 112 = .ok (.new 59, 3) := by decide +kernel
theorem dX9_init_115 : decode cX9_init 115 = .ok (.dup, 1) := by decide +kernel
theorem dX9_init_116 : decode cX9_init 116 = .ok (.invokespecial 61, 3) := by decide +kernel
theorem dX9_init_119 : decode cX9_init 119 = .ok (.putfield 62, 3) := by decide +kernel
theorem dX9_init_122 : decode cX9_init 122 = .ok (.aload_n 0, 1) := by decide +kernel
theorem dX9_init_123 : decode cX9_init 123 = .ok (.iconst 0, 1) := by decide +kernel
theorem dX9_init_124 : decode cX9_init 124 = .ok (.putfield 66, 3) := by decide +kernel
theorem dX9_init_127 : decode cX9_init 127 = .ok (.aload_n 0, 1) := by decide +kernel
theorem dX9_init_128 : decode cX9_init 128 = .ok (.iconst 0, 1) := by decide +kernel
theorem dX9_init_129 : decode cX9_init 129 = .ok (.putfield 70, 3) := by decide +kernel
theorem dX9_init_132 : decode cX9_init 132 = .ok (.aload_n 0, 1) := by decide +kernel
theorem dX9_init_133 : decode cX9_init 133 = .ok (.iconst 3, 1) := by decide +kernel
theorem dX9_init_134 : decode cX9_init 134 = .ok (.putfield 73, 3) := by decide +kernel
theorem dX9_init_137 : decode cX9_init 137 = .ok (.aload_n 0, 1) := by decide +kernel
theorem dX9_init_138 : decode cX9_init 138 = .ok (.iconst 0, 1) := by decide +kernel
theorem dX9_init_139 : decode cX9_init 139 = .ok (.putfield 76, 3) := by decide +kernel
theorem dX9_init_142 : decode cX9_init 142 = .ok (.aload_n 0, 1) := by decide +kernel
theorem dX9_init_143 : decode cX9_init 143 = .ok (.getfield 22, 3) := by decide +kernel
theorem dX9_init_146 : decode cX9_init 146 = .ok (.iconst 4, 1) := by decide +kernel
theorem dX9_init_147 : decode cX9_init 147 = .ok (.invokestatic 79, 3) := by decide +kernel
theorem dX9_init_150 : decode cX9_init 150 = .ok (.aload_n 0, 1) := by decide +kernel
theorem dX9_init_151 : decode cX9_init 151 = .ok (.getfield 26, 3) := by decide +kernel
theorem dX9_init_154 : decode cX9_init 154 = .ok (.bipush 12, 2) := by decide +kernel
theorem dX9_init_156 : decode cX9_init 156 = .ok (.invokestatic 79, 3) := by decide +kernel
theorem dX9_init_159 : decode cX9_init 159 = .ok (.return_, 1) := by decide +kernel
theorem dX9_thing_0 : decode cX9_thing 0 = .ok (.iload_n 1, 1) := by decide +kernel
theorem dX9_thing_1 : decode cX9_thing 1 = .ok (.iconst 0, 1) := by decide +kernel
theorem dX9_thing_2 : decode cX9_thing 2 = .ok (.iconst 3, 1) := by decide +kernel
theorem dX9_thing_3 : decode cX9_thing 3 = .ok (.invokestatic 85, 3) := by decide +kernel
theorem dX9_thing_6 : decode cX9_thing 6 = .ok (.ifCond .eq 50, 3) := by decide +kernel
theorem dX9_thing_9 : decode cX9_thing 9 = .ok (.iload_n 2, 1) := by decide +kernel
theorem dX9_thing_10 : decode cX9_thing 10 = .ok (.iconst 0, 1) := by decide +kernel
theorem dX9_thing_11 : decode cX9_thing 11 = .ok (.aload_n 0, 1) := by decide +kernel
theorem dX9_thing_12 : decode cX9_thing 12 = .ok (.getfield 70, 3) := by decide +kernel
theorem dX9_thing_15 : decode cX9_thing 15 = .ok (.invokestatic 85, 3) := by decide +kernel
theorem dX9_thing_18 : decode cX9_thing 18 = .ok (.ifCond .eq 38, 3) := by decide +kernel
theorem dX9_thing_21 : decode cX9_thing 21 = .ok (.iload_n 3, 1) := by decide +kernel
theorem dX9_thing_22 : decode cX9_thing 22 = .ok (.iconst 1, 1) := by decide +kernel
theorem dX9_thing_23 : decode cX9_thing 23 = .ok (.sipush 5000, 3) := by decide +kernel
theorem dX9_thing_26 : decode cX9_thing 26 = .ok (.invokestatic 85, 3) := by decide +kernel
theorem dX9_thing_29 : decode cX9_thing 29 = .ok (.ifCond .eq 27, 3) := by decide +kernel
theorem dX9_thing_32 : decode cX9_thing 32 = .ok (.iload 4, 2) := by decide +kernel
theorem dX9_thing_34 : decode cX9_thing 34 = .ok (.iconst 0, 1) := by decide +kernel
theorem dX9_thing_35 : decode cX9_thing 35 = .ok (.sipush 10000, 3) := by decide +kernel
theorem dX9_thing_38 : decode cX9_thing 38 = .ok (.invokestatic 85, 3) := by decide +kernel
theorem dX9_thing_41 : decode cX9_thing 41 = .ok (.ifCond .eq 15, 3) := by decide +kernel
theorem dX9_thing_44 : decode cX9_thing 44 = .ok (.iload 5, 2) := by decide +kernel
theorem dX9_thing_46 : decode cX9_thing 46 = .ok (.iconst 1, 1) := by decide +kernel
theorem dX9_thing_47 : decode cX9_thing 47 = .ok (.sipush 9999, 3) := by decide +kernel
theorem dX9_thing_50 : decode cX9_thing 50 = .ok (.invokestatic 85, 3) := by decide +kernel
theorem dX9_thing_53 : decode cX9_thing 53 = .ok (.ifCond .ne 9, 3) := by decide +kernel
theorem dX9_thing_56 : decode cX9_thing 56 = .ok (.aload_n 0, 1) := by decide +kernel
theorem dX9_thing_57 : decode cX9_thing 57 = .ok (.iconst 1, 1) := by decide +kernel
theorem dX9_thing_58 : decode cX9_thing 58 = .ok (.invokevirtual 89, 3) := by decide +kernel
theorem dX9_thing_61 : decode cX9_thing 61 = .ok (.ireturn, 1) := by decide +kernel
theorem dX9_thing_62 : decode cX9_thing 62 = .ok (.aload_n 0, 1) := by decide +kernel
theorem dX9_thing_63 : decode cX9_thing 63 = .ok (.getfield 10, 3) := by decide +kernel
theorem dX9_thing_66 : decode cX9_thing 66 = .ok (.invokevirtual 93, 3) := by decide +kernel
theorem dX9_thing_69 : decode cX9_thing 69 = .ok (.bipush 20, 2) := by decide +kernel
theorem dX9_thing_71 : decode cX9_thing 71 = .ok (.if_icmp .lt 9, 3) := by decide +kernel
theorem dX9_thing_74 : decode cX9_thing 74 = .ok (.aload_n 0, 1) := by decide +kernel
theorem dX9_thing_75 : decode cX9_thing 75 = .ok (.iconst 4, 1) := by decide +kernel
theorem dX9_thing_76 : decode cX9_thing 76 = .ok (.invokevirtual 89, 3) := by decide +kernel
theorem dX9_thing_79 : decode cX9_thing 79 = .ok (.ireturn, 1) := by decide +kernel
theorem dX9_thing_80 : decode cX9_thing 80 = .ok (.iload_n 1, 1) := by decide +kernel
theorem dX9_thing_81 : decode cX9_thing 81 = .ok (.iconst 3, 1) := by decide +kernel
theorem dX9_thing_82 : decode cX9_thing 82 = .ok (.if_icmp .ne 19, 3) := by decide +kernel
theorem dX9_thing_85 : decode cX9_thing 85 = .ok (.new 97, 3) := by decide +kernel
theorem dX9_thing_88 : decode cX9_thing 88 = .ok (.dup, 1) := by decide +kernel
theorem dX9_thing_89 : decode cX9_thing 89 = .ok (.iload_n 2, 1) := by decide +kernel
theorem dX9_thing_90 : decode cX9_thing 90 = .ok (.iload_n 3, 1) := by decide +kernel
theorem dX9_thing_91 : decode cX9_thing 91 = .ok (.iload 4, 2) := by decide +kernel
theorem dX9_thing_93 : decode cX9_thing 93 = .ok (.iload 5, 2) := by decide +kernel
theorem dX9_thing_95 : decode cX9_thing 95 = .ok (.invokespecial 99, 3) := by decide +kernel
theorem dX9_thing_98 : decode cX9_thing 98 = .ok (.goto 17, 3) := by decide +kernel
theorem dX9_thing_101 : decode cX9_thing 101 = .ok (.new 102, 3) := by decide +kernel
theorem dX9_thing_104 : decode cX9_thing 104 = .ok (.dup, 1) := by decide +kernel
theorem dX9_thing_105 : decode cX9_thing 105 = .ok (.iload_n 1, 1) := by decide +kernel
theorem dX9_thing_106 : decode cX9_thing 106 = .ok (.iload_n 2, 1) := by decide +kernel
theorem dX9_thing_107 : decode cX9_thing 107 = .ok (.iload_n 3, 1) := by decide +kernel
theorem dX9_thing_108 : decode cX9_thing 108 = .ok (.iload 4, 2) := by decide +kernel
theorem dX9_thing_110 : decode cX9_thing 110 = .ok (.iload 5, 2) := by decide +kernel
theorem dX9_thing_112 : decode cX9_thing 112 = .ok (.invokespecial 104, 3) := by decide +kernel
theorem dX9_thing_115 : decode cX9_thing 115 = .ok (.astore 6, 2) := by decide +kernel
theorem dX9_thing_117 : decode cX9_thing 117 = .ok (.aload 6, 2) := by decide +kernel
theorem dX9_thing_119 : decode cX9_thing 119 = .ok (.iconst 0, 1) := by decide +kernel
theorem dX9_thing_120 : decode cX9_thing 120 = .ok (.aload_n 0, 1) := by decide +kernel
theorem dX9_thing_121 : decode cX9_thing 121 = .ok (.getfield 70, 3) := by decide +kernel
theorem dX9_thing_124 : decode cX9_thing 124 = .ok (.invokevirtual 107, 3) := by decide +kernel
theorem dX9_thing_127 : decode cX9_thing 127 = .ok (.aload_n 0, 1) := by decide +kernel
theorem dX9_thing_128 : decode cX9_thing 128 = .ok (.aload 6, 2) := by decide +kernel
theorem dX9_thing_130 : decode cX9_thing 130 = .ok (.invokevirtual 111, 3) := by decide +kernel
theorem dX9_thing_133 : decode cX9_thing 133 = .ok (.pop, 1) := by decide +kernel
theorem dX9_thing_134 : decode cX9_thing 134 = .ok (.aload_n 0, 1) := by decide +kernel
theorem dX9_thing_135 : decode cX9_thing 135 = .ok (.getfield 10, 3) := by decide +kernel
theorem dX9_thing_138 : decode cX9_thing 138 = .ok (.aload 6, 2) := by decide +kernel
theorem dX9_thing_140 : decode cX9_thing 140 = .ok (.invokevirtual 115, 3) := by decide +kernel
theorem dX9_thing_143 : decode cX9_thing 143 = .ok (.pop, 1) := by decide +kernel
theorem dX9_thing_144 : decode cX9_thing 144 = .ok (.aload_n 0, 1) := by decide +kernel
theorem dX9_thing_145 : decode cX9_thing 145 = .ok (.getfield 10, 3) := by decide +kernel
theorem dX9_thing_148 : decode cX9_thing 148 = .ok (.invokevirtual 93, 3) := by decide +kernel
theorem dX9_thing_151 : decode cX9_thing 151 = .ok (.iconst 1, 1) := by decide +kernel
theorem dX9_thing_152 : decode cX9_thing 152 = .ok (.isub, 1) := by decide +kernel
theorem dX9_thing_153 : decode cX9_thing 153 = .ok (.ireturn, 1) := by decide +kernel
theorem dX9_as_0 : decode cX9_as 0 = .ok (.aload_n 0, 1) := by decide +kernel
theorem dX9_as_1 : decode cX9_as 1 = .ok (.iload_n 1, 1) := by decide +kernel
theorem dX9_as_2 : decode cX9_as 2 = .ok (.invokevirtual 119, 3) := by decide +kernel
theorem dX9_as_5 : decode cX9_as 5 = .ok (.astore_n 3, 1) := by decide +kernel
theorem dX9_as_6 : decode cX9_as 6 = .ok (.aload_n 3, 1) := by decide +kernel
theorem dX9_as_7 : decode cX9_as 7 = .ok (.ifnull 12, 3) := by decide +kernel
theorem dX9_as_10 : decode cX9_as 10 = .ok (.iload_n 2, 1) := by decide +kernel
theorem dX9_as_11 : decode cX9_as 11 = .ok (.iconst 0, 1) := by decide +kernel
theorem dX9_as_12 : decode cX9_as 12 = .ok (.iconst 3, 1) := by decide +kernel
theorem dX9_as_13 : decode cX9_as 13 = .ok (.invokestatic 85, 3) := by decide +kernel
theorem dX9_as_16 : decode cX9_as 16 = .ok (.ifCond .ne 9, 3) := by decide +kernel
theorem dX9_as_19 : decode cX9_as 19 = .ok (.aload_n 0, 1) := by decide +kernel
theorem dX9_as_20 : decode cX9_as 20 = .ok (.iconst 1, 1) := by decide +kernel
theorem dX9_as_21 : decode cX9_as 21 = .ok (.invokevirtual 89, 3) := by decide +kernel
theorem dX9_as_24 : decode cX9_as 24 = .ok (.ireturn, 1) := by decide +kernel
theorem dX9_as_25 : decode cX9_as 25 = .ok (.iload_n 2, 1) := by decide +kernel
theorem dX9_as_26 : decode cX9_as 26 = .ok (.ifCond .eq 17, 3) := by decide +kernel
theorem dX9_as_29 : decode cX9_as 29 = .ok (.iload_n 2, 1) := by decide +kernel
theorem dX9_as_30 : decode cX9_as 30 = .ok (.aload_n 3, 1) := by decide +kernel
theorem dX9_as_31 : decode cX9_as 31 = .ok (.getfield 123, 3) := by decide +kernel
theorem dX9_as_34 : decode cX9_as 34 = .ok (.if_icmp .eq 9, 3) := by decide +kernel
theorem dX9_as_37 : decode cX9_as 37 = .ok (.aload_n 0, 1) := by decide +kernel
theorem dX9_as_38 : decode cX9_as 38 = .ok (.iconst 5, 1) := by decide +kernel
theorem dX9_as_39 : decode cX9_as 39 = .ok (.invokevirtual 89, 3) := by decide +kernel
theorem dX9_as_42 : decode cX9_as 42 = .ok (.ireturn, 1) := by decide +kernel
theorem dX9_as_43 : decode cX9_as 43 = .ok (.aload_n 3, 1) := by decide +kernel
theorem dX9_as_44 : decode cX9_as 44 = .ok (.getfield 126, 3) := by decide +kernel
theorem dX9_as_47 : decode cX9_as 47 = .ok (.ireturn, 1) := by decide +kernel
theorem dX9_trait_0 : decode cX9_trait 0 = .ok (.aload_n 0, 1) := by decide +kernel
theorem dX9_trait_1 : decode cX9_trait 1 = .ok (.iload_n 1, 1) := by decide +kernel
theorem dX9_trait_2 : decode cX9_trait 2 = .ok (.invokevirtual 119, 3) := by decide +kernel
theorem dX9_trait_5 : decode cX9_trait 5 = .ok (.astore 4, 2) := by decide +kernel
theorem dX9_trait_7 : decode cX9_trait 7 = .ok (.aload 4, 2) := by decide +kernel
theorem dX9_trait_9 : decode cX9_trait 9 = .ok (.ifnull 22, 3) := by decide +kernel
theorem dX9_trait_12 : decode cX9_trait 12 = .ok (.iload_n 2, 1) := by decide +kernel
theorem dX9_trait_13 : decode cX9_trait 13 = .ok (.iconst 0, 1) := by decide +kernel
theorem dX9_trait_14 : decode cX9_trait 14 = .ok (.iconst 4, 1) := by decide +kernel
theorem dX9_trait_15 : decode cX9_trait 15 = .ok (.invokestatic 85, 3) := by decide +kernel
theorem dX9_trait_18 : decode cX9_trait 18 = .ok (.ifCond .eq 13, 3) := by decide +kernel
theorem dX9_trait_21 : decode cX9_trait 21 = .ok (.iload_n 3, 1) := by decide +kernel
theorem dX9_trait_22 : decode cX9_trait 22 = .ok (.iconst 0, 1) := by decide +kernel
theorem dX9_trait_23 : decode cX9_trait 23 = .ok (.bipush 15, 2) := by decide +kernel
theorem dX9_trait_25 : decode cX9_trait 25 = .ok (.invokestatic 85, 3) := by decide +kernel
theorem dX9_trait_28 : decode cX9_trait 28 = .ok (.ifCond .ne 9, 3) := by decide +kernel
theorem dX9_trait_31 : decode cX9_trait 31 = .ok (.aload_n 0, 1) := by decide +kernel
theorem dX9_trait_32 : decode cX9_trait 32 = .ok (.iconst 1, 1) := by decide +kernel
theorem dX9_trait_33 : decode cX9_trait 33 = .ok (.invokevirtual 89, 3) := by decide +kernel
theorem dX9_trait_36 : decode cX9_trait 36 = .ok (.ireturn, 1) := by decide +kernel
theorem dX9_trait_37 : decode cX9_trait 37 = .ok (.aload 4, 2) := by decide +kernel
theorem dX9_trait_39 : decode cX9_trait 39 = .ok (.getfield 129, 3) := by decide +kernel
theorem dX9_trait_42 : decode cX9_trait 42 = .ok (.iload_n 2, 1) := by decide +kernel
theorem dX9_trait_43 : decode cX9_trait 43 = .ok (.iaload, 1) := by decide +kernel
theorem dX9_trait_44 : decode cX9_trait 44 = .ok (.istore 5, 2) := by decide +kernel
theorem dX9_trait_46 : decode cX9_trait 46 = .ok (.aload 4, 2) := by decide +kernel
theorem dX9_trait_48 : decode cX9_trait 48 = .ok (.getfield 129, 3) := by decide +kernel
theorem dX9_trait_51 : decode cX9_trait 51 = .ok (.iload_n 2, 1) := by decide +kernel
theorem dX9_trait_52 : decode cX9_trait 52 = .ok (.iload_n 3, 1) := by decide +kernel
theorem dX9_trait_53 : decode cX9_trait 53 = .ok (.iastore, 1) := by decide +kernel
theorem dX9_trait_54 : decode cX9_trait 54 = .ok (.iload 5, 2) := by decide +kernel
theorem dX9_trait_56 : decode cX9_trait 56 = .ok (.ireturn, 1) := by decide +kernel
theorem dX9_about_0 : decode cX9_about 0 = .ok (.aload_n 0, 1) := by decide +kernel
theorem dX9_about_1 : decode cX9_about 1 = .ok (.iload_n 1, 1) := by decide +kernel
theorem dX9_about_2 : decode cX9_about 2 = .ok (.invokevirtual 119, 3) := by decide +kernel
theorem dX9_about_5 : decode cX9_about 5 = .ok (.astore_n 3, 1) := by decide +kernel
theorem dX9_about_6 : decode cX9_about 6 = .ok (.aload_n 3, 1) := by decide +kernel
theorem dX9_about_7 : decode cX9_about 7 = .ok (.ifnull 13, 3) := by decide +kernel
theorem dX9_about_10 : decode cX9_about 10 = .ok (.iload_n 2, 1) := by decide +kernel
theorem dX9_about_11 : decode cX9_about 11 = .ok (.iconst 0, 1) := by decide +kernel
theorem dX9_about_12 : decode cX9_about 12 = .ok (.bipush 10, 2) := by decide +kernel
theorem dX9_about_14 : decode cX9_about 14 = .ok (.invokestatic 85, 3) := by decide +kernel
theorem dX9_about_17 : decode cX9_about 17 = .ok (.ifCond .ne 9, 3) := by decide +kernel
theorem dX9_about_20 : decode cX9_about 20 = .ok (.aload_n 0, 1) := by decide +kernel
theorem dX9_about_21 : decode cX9_about 21 = .ok (.iconst 1, 1) := by decide +kernel
theorem dX9_about_22 : decode cX9_about 22 = .ok (.invokevirtual 89, 3) := by decide +kernel
theorem dX9_about_25 : decode cX9_about 25 = .ok (.ireturn, 1) := by decide +kernel
theorem dX9_about_26 : decode cX9_about 26 = .ok (.iload_n 2, 1) := by decide +kernel
theorem dX9_about_27 : decode cX9_about 27 = .ok (.tableswitch 67 0 5 #[37, 42, 47, 52, 57, 62], 37) := by decide +kernel
theorem dX9_about_64 : decode cX9_about 64 = .ok (.aload_n 3, 1) := by decide +kernel
theorem dX9_about_65 : decode cX9_about 65 = .ok (.getfield 123, 3) := by decide +kernel
theorem dX9_about_68 : decode cX9_about 68 = .ok (.ireturn, 1) := by decide +kernel
theorem dX9_about_69 : decode cX9_about 69 = .ok (.aload_n 3, 1) := by decide +kernel
theorem dX9_about_70 : decode cX9_about 70 = .ok (.getfield 132, 3) := by decide +kernel
theorem dX9_about_73 : decode cX9_about 73 = .ok (.ireturn, 1) := by decide +kernel
theorem dX9_about_74 : decode cX9_about 74 = .ok (.aload_n 3, 1) := by decide +kernel
theorem dX9_about_75 : decode cX9_about 75 = .ok (.getfield 126, 3) := by decide +kernel
theorem dX9_about_78 : decode cX9_about 78 = .ok (.ireturn, 1) := by decide +kernel
theorem dX9_about_79 : decode cX9_about 79 = .ok (.aload_n 3, 1) := by decide +kernel
theorem dX9_about_80 : decode cX9_about 80 = .ok (.getfield 135, 3) := by decide +kernel
theorem dX9_about_83 : decode cX9_about 83 = .ok (.ireturn, 1) := by decide +kernel
theorem dX9_about_84 : decode cX9_about 84 = .ok (.aload_n 3, 1) := by decide +kernel
theorem dX9_about_85 : decode cX9_about 85 = .ok (.getfield 138, 3) := by decide +kernel
theorem dX9_about_88 : decode cX9_about 88 = .ok (.ireturn, 1) := by decide +kernel
theorem dX9_about_89 : decode cX9_about 89 = .ok (.aload_n 3, 1) := by decide +kernel
theorem dX9_about_90 : decode cX9_about 90 = .ok (.getfield 141, 3) := by decide +kernel
theorem dX9_about_93 : decode cX9_about 93 = .ok (.ireturn, 1) := by decide +kernel
theorem dX9_about_94 : decode cX9_about 94 = .ok (.aload_n 3, 1) := by decide +kernel
theorem dX9_about_95 : decode cX9_about 95 = .ok (.getfield 129, 3) := by decide +kernel
theorem dX9_about_98 : decode cX9_about 98 = .ok (.iload_n 2, 1) := by decide +kernel
theorem dX9_about_99 : decode cX9_about 99 = .ok (.bipush 6, 2) := by decide +kernel
theorem dX9_about_101 : decode cX9_about 101 = .ok (.isub, 1) := by decide +kernel
theorem dX9_about_102 : decode cX9_about 102 = .ok (.iaload, 1) := by decide +kernel
theorem dX9_about_103 : decode cX9_about 103 = .ok (.ireturn, 1) := by decide +kernel
theorem dX9_day_0 : decode cX9_day 0 = .ok (.iload_n 1, 1) := by decide +kernel
theorem dX9_day_1 : decode cX9_day 1 = .ok (.aload_n 0, 1) := by decide +kernel
theorem dX9_day_2 : decode cX9_day 2 = .ok (.getfield 70, 3) := by decide +kernel
theorem dX9_day_5 : decode cX9_day 5 = .ok (.sipush 9999, 3) := by decide +kernel
theorem dX9_day_8 : decode cX9_day 8 = .ok (.invokestatic 85, 3) := by decide +kernel
theorem dX9_day_11 : decode cX9_day 11 = .ok (.ifCond .ne 9, 3) := by decide +kernel
theorem dX9_day_14 : decode cX9_day 14 = .ok (.aload_n 0, 1) := by decide +kernel
theorem dX9_day_15 : decode cX9_day 15 = .ok (.iconst 1, 1) := by decide +kernel
theorem dX9_day_16 : decode cX9_day 16 = .ok (.invokevirtual 89, 3) := by decide +kernel
theorem dX9_day_19 : decode cX9_day 19 = .ok (.ireturn, 1) := by decide +kernel
theorem dX9_day_20 : decode cX9_day 20 = .ok (.aload_n 0, 1) := by decide +kernel
theorem dX9_day_21 : decode cX9_day 21 = .ok (.iload_n 1, 1) := by decide +kernel
theorem dX9_day_22 : decode cX9_day 22 = .ok (.putfield 70, 3) := by decide +kernel
theorem dX9_day_25 : decode cX9_day 25 = .ok (.iconst 0, 1) := by decide +kernel
theorem dX9_day_26 : decode cX9_day 26 = .ok (.istore_n 2, 1) := by decide +kernel
theorem dX9_day_27 : decode cX9_day 27 = .ok (.iconst 0, 1) := by decide +kernel
theorem dX9_day_28 : decode cX9_day 28 = .ok (.istore_n 3, 1) := by decide +kernel
theorem dX9_day_29 : decode cX9_day 29 = .ok (.iload_n 3, 1) := by decide +kernel
theorem dX9_day_30 : decode cX9_day 30 = .ok (.aload_n 0, 1) := by decide +kernel
theorem dX9_day_31 : decode cX9_day 31 = .ok (.getfield 10, 3) := by decide +kernel
theorem dX9_day_34 : decode cX9_day 34 = .ok (.invokevirtual 93, 3) := by decide +kernel
theorem dX9_day_37 : decode cX9_day 37 = .ok (.if_icmp .ge 30, 3) := by decide +kernel
theorem dX9_day_40 : decode cX9_day 40 = .ok (.aload_n 0, 1) := by decide +kernel
theorem dX9_day_41 : decode cX9_day 41 = .ok (.aload_n 0, 1) := by decide +kernel
theorem dX9_day_42 : decode cX9_day 42 = .ok (.getfield 10, 3) := by decide +kernel
theorem dX9_day_45 : decode cX9_day 45 = .ok (.iload_n 3, 1) := by decide +kernel
theorem dX9_day_46 : decode cX9_day 46 = .ok (.invokevirtual 144, 3) := by decide +kernel
theorem dX9_day_49 : decode cX9_day 49 = .ok (.checkcast 102, 3) := by decide +kernel
theorem dX9_day_52 : decode cX9_day 52 = .ok (.invokevirtual 111, 3) := by decide +kernel
theorem dX9_day_55 : decode cX9_day 55 = .ok (.ifCond .eq 6, 3) := by decide +kernel
theorem dX9_day_58 : decode cX9_day 58 = .ok (.iinc 2 1, 3) := by decide +kernel
theorem dX9_day_61 : decode cX9_day 61 = .ok (.iinc 3 1, 3) := by decide +kernel
theorem dX9_day_64 : decode cX9_day 64 = .ok (.goto (-35), 3) := by decide +kernel
theorem dX9_day_67 : decode cX9_day 67 = .ok (.iload_n 2, 1) := by decide +kernel
theorem dX9_day_68 : decode cX9_day 68 = .ok (.ireturn, 1) := by decide +kernel
theorem dX9_spoil_0 : decode cX9_spoil 0 = .ok (.iload_n 1, 1) := by decide +kernel
theorem dX9_spoil_1 : decode cX9_spoil 1 = .ok (.iconst 0, 1) := by decide +kernel
theorem dX9_spoil_2 : decode cX9_spoil 2 = .ok (.bipush 30, 2) := by decide +kernel
theorem dX9_spoil_4 : decode cX9_spoil 4 = .ok (.invokestatic 85, 3) := by decide +kernel
theorem dX9_spoil_7 : decode cX9_spoil 7 = .ok (.ifCond .ne 9, 3) := by decide +kernel
theorem dX9_spoil_10 : decode cX9_spoil 10 = .ok (.aload_n 0, 1) := by decide +kernel
theorem dX9_spoil_11 : decode cX9_spoil 11 = .ok (.iconst 1, 1) := by decide +kernel
theorem dX9_spoil_12 : decode cX9_spoil 12 = .ok (.invokevirtual 89, 3) := by decide +kernel
theorem dX9_spoil_15 : decode cX9_spoil 15 = .ok (.ireturn, 1) := by decide +kernel
theorem dX9_spoil_16 : decode cX9_spoil 16 = .ok (.aload_n 0, 1) := by decide +kernel
theorem dX9_spoil_17 : decode cX9_spoil 17 = .ok (.getfield 73, 3) := by decide +kernel
theorem dX9_spoil_20 : decode cX9_spoil 20 = .ok (.istore_n 2, 1) := by decide +kernel
theorem dX9_spoil_21 : decode cX9_spoil 21 = .ok (.aload_n 0, 1) := by decide +kernel
theorem dX9_spoil_22 : decode cX9_spoil 22 = .ok (.iload_n 1, 1) := by decide +kernel
theorem dX9_spoil_23 : decode cX9_spoil 23 = .ok (.putfield 73, 3) := by decide +kernel
theorem dX9_spoil_26 : decode cX9_spoil 26 = .ok (.iload_n 2, 1) := by decide +kernel
theorem dX9_spoil_27 : decode cX9_spoil 27 = .ok (.ireturn, 1) := by decide +kernel
theorem dX9_known_0 : decode cX9_known 0 = .ok (.aload_n 0, 1) := by decide +kernel
theorem dX9_known_1 : decode cX9_known 1 = .ok (.iload_n 1, 1) := by decide +kernel
theorem dX9_known_2 : decode cX9_known 2 = .ok (.invokevirtual 119, 3) := by decide +kernel
theorem dX9_known_5 : decode cX9_known 5 = .ok (.astore_n 3, 1) := by decide +kernel
theorem dX9_known_6 : decode cX9_known 6 = .ok (.aload_n 3, 1) := by decide +kernel
theorem dX9_known_7 : decode cX9_known 7 = .ok (.ifnull 10, 3) := by decide +kernel
theorem dX9_known_10 : decode cX9_known 10 = .ok (.iload_n 2, 1) := by decide +kernel
theorem dX9_known_11 : decode cX9_known 11 = .ok (.invokestatic 148, 3) := by decide +kernel
theorem dX9_known_14 : decode cX9_known 14 = .ok (.ifCond .ne 9, 3) := by decide +kernel
theorem dX9_known_17 : decode cX9_known 17 = .ok (.aload_n 0, 1) := by decide +kernel
theorem dX9_known_18 : decode cX9_known 18 = .ok (.iconst 1, 1) := by decide +kernel
theorem dX9_known_19 : decode cX9_known 19 = .ok (.invokevirtual 89, 3) := by decide +kernel
theorem dX9_known_22 : decode cX9_known 22 = .ok (.ireturn, 1) := by decide +kernel
theorem dX9_known_23 : decode cX9_known 23 = .ok (.aload_n 3, 1) := by decide +kernel
theorem dX9_known_24 : decode cX9_known 24 = .ok (.iload_n 2, 1) := by decide +kernel
theorem dX9_known_25 : decode cX9_known 25 = .ok (.invokevirtual 152, 3) := by decide +kernel
theorem dX9_known_28 : decode cX9_known 28 = .ok (.ireturn, 1) := by decide +kernel
theorem dX9_seeker_0 : decode cX9_seeker 0 = .ok (.iload_n 1, 1) := by decide +kernel
theorem dX9_seeker_1 : decode cX9_seeker 1 = .ok (.invokestatic 148, 3) := by decide +kernel
theorem dX9_seeker_4 : decode cX9_seeker 4 = .ok (.ifCond .ne 9, 3) := by decide +kernel
theorem dX9_seeker_7 : decode cX9_seeker 7 = .ok (.aload_n 0, 1) := by decide +kernel
theorem dX9_seeker_8 : decode cX9_seeker 8 = .ok (.iconst 1, 1) := by decide +kernel
theorem dX9_seeker_9 : decode cX9_seeker 9 = .ok (.invokevirtual 89, 3) := by decide +kernel
theorem dX9_seeker_12 : decode cX9_seeker 12 = .ok (.ireturn, 1) := by decide +kernel
theorem dX9_seeker_13 : decode cX9_seeker 13 = .ok (.aload_n 0, 1) := by decide +kernel
theorem dX9_seeker_14 : decode cX9_seeker 14 = .ok (.getfield 16, 3) := by decide +kernel
theorem dX9_seeker_17 : decode cX9_seeker 17 = .ok (.invokevirtual 93, 3) := by decide +kernel
theorem dX9_seeker_20 : decode cX9_seeker 20 = .ok (.bipush 8, 2) := by decide +kernel
theorem dX9_seeker_22 : decode cX9_seeker 22 = .ok (.if_icmp .lt 9, 3) := by decide +kernel
theorem dX9_seeker_25 : decode cX9_seeker 25 = .ok (.aload_n 0, 1) := by decide +kernel
theorem dX9_seeker_26 : decode cX9_seeker 26 = .ok (.iconst 4, 1) := by decide +kernel
theorem dX9_seeker_27 : decode cX9_seeker 27 = .ok (.invokevirtual 89, 3) := by decide +kernel
theorem dX9_seeker_30 : decode cX9_seeker 30 = .ok (.ireturn, 1) := by decide +kernel
theorem dX9_seeker_31 : decode cX9_seeker 31 = .ok (.aload_n 0, 1) := by decide +kernel
theorem dX9_seeker_32 : decode cX9_seeker 32 = .ok (.getfield 16, 3) := by decide +kernel
theorem dX9_seeker_35 : decode cX9_seeker 35 = .ok (.new 155, 3) := by decide +kernel
theorem dX9_seeker_38 : decode cX9_seeker 38 = .ok (.dup, 1) := by decide +kernel
theorem dX9_seeker_39 : decode cX9_seeker 39 = .ok (.iload_n 1, 1) := by decide +kernel
theorem dX9_seeker_40 : decode cX9_seeker 40 = .ok (.invokespecial 157, 3) := by decide +kernel
theorem dX9_seeker_43 : decode cX9_seeker 43 = .ok (.invokevirtual 115, 3) := by decide +kernel
theorem dX9_seeker_46 : decode cX9_seeker 46 = .ok (.pop, 1) := by decide +kernel
theorem dX9_seeker_47 : decode cX9_seeker 47 = .ok (.aload_n 0, 1) := by decide +kernel
theorem dX9_seeker_48 : decode cX9_seeker 48 = .ok (.getfield 16, 3) := by decide +kernel
theorem dX9_seeker_51 : decode cX9_seeker 51 = .ok (.invokevirtual 93, 3) := by decide +kernel
theorem dX9_seeker_54 : decode cX9_seeker 54 = .ok (.iconst 1, 1) := by decide +kernel
theorem dX9_seeker_55 : decode cX9_seeker 55 = .ok (.isub, 1) := by decide +kernel
theorem dX9_seeker_56 : decode cX9_seeker 56 = .ok (.ireturn, 1) := by decide +kernel
theorem dX9_word_0 : decode cX9_word 0 = .ok (.aload_n 0, 1) := by decide +kernel
theorem dX9_word_1 : decode cX9_word 1 = .ok (.iload_n 1, 1) := by decide +kernel
theorem dX9_word_2 : decode cX9_word 2 = .ok (.invokevirtual 160, 3) := by decide +kernel
theorem dX9_word_5 : decode cX9_word 5 = .ok (.astore 4, 2) := by decide +kernel
theorem dX9_word_7 : decode cX9_word 7 = .ok (.aload 4, 2) := by decide +kernel
theorem dX9_word_9 : decode cX9_word 9 = .ok (.ifnull 22, 3) := by decide +kernel
theorem dX9_word_12 : decode cX9_word 12 = .ok (.iload_n 2, 1) := by decide +kernel
theorem dX9_word_13 : decode cX9_word 13 = .ok (.iconst 0, 1) := by decide +kernel
theorem dX9_word_14 : decode cX9_word 14 = .ok (.iconst 4, 1) := by decide +kernel
theorem dX9_word_15 : decode cX9_word 15 = .ok (.invokestatic 85, 3) := by decide +kernel
theorem dX9_word_18 : decode cX9_word 18 = .ok (.ifCond .eq 13, 3) := by decide +kernel
theorem dX9_word_21 : decode cX9_word 21 = .ok (.iload_n 3, 1) := by decide +kernel
theorem dX9_word_22 : decode cX9_word 22 = .ok (.iconst (-1), 1) := by decide +kernel
theorem dX9_word_23 : decode cX9_word 23 = .ok (.bipush 15, 2) := by decide +kernel
theorem dX9_word_25 : decode cX9_word 25 = .ok (.invokestatic 85, 3) := by decide +kernel
theorem dX9_word_28 : decode cX9_word 28 = .ok (.ifCond .ne 9, 3) := by decide +kernel
theorem dX9_word_31 : decode cX9_word 31 = .ok (.aload_n 0, 1) := by decide +kernel
theorem dX9_word_32 : decode cX9_word 32 = .ok (.iconst 1, 1) := by decide +kernel
theorem dX9_word_33 : decode cX9_word 33 = .ok (.invokevirtual 89, 3) := by decide +kernel
theorem dX9_word_36 : decode cX9_word 36 = .ok (.ireturn, 1) := by decide +kernel
theorem dX9_word_37 : decode cX9_word 37 = .ok (.aload 4, 2) := by decide +kernel
theorem dX9_word_39 : decode cX9_word 39 = .ok (.getfield 164, 3) := by decide +kernel
theorem dX9_word_42 : decode cX9_word 42 = .ok (.iload_n 2, 1) := by decide +kernel
theorem dX9_word_43 : decode cX9_word 43 = .ok (.iaload, 1) := by decide +kernel
theorem dX9_word_44 : decode cX9_word 44 = .ok (.istore 5, 2) := by decide +kernel
theorem dX9_word_46 : decode cX9_word 46 = .ok (.aload 4, 2) := by decide +kernel
theorem dX9_word_48 : decode cX9_word 48 = .ok (.getfield 164, 3) := by decide +kernel
theorem dX9_word_51 : decode cX9_word 51 = .ok (.iload_n 2, 1) := by decide +kernel
theorem dX9_word_52 : decode cX9_word 52 = .ok (.iload_n 3, 1) := by decide +kernel
theorem dX9_word_53 : decode cX9_word 53 = .ok (.iastore, 1) := by decide +kernel
theorem dX9_word_54 : decode cX9_word 54 = .ok (.iload 5, 2) := by decide +kernel
theorem dX9_word_56 : decode cX9_word 56 = .ok (.ireturn, 1) := by decide +kernel
theorem dX9_span_0 : decode cX9_span 0 = .ok (.aload_n 0, 1) := by decide +kernel
theorem dX9_span_1 : decode cX9_span 1 = .ok (.iload_n 1, 1) := by decide +kernel
theorem dX9_span_2 : decode cX9_span 2 = .ok (.invokevirtual 160, 3) := by decide +kernel
theorem dX9_span_5 : decode cX9_span 5 = .ok (.astore 4, 2) := by decide +kernel
theorem dX9_span_7 : decode cX9_span 7 = .ok (.aload 4, 2) := by decide +kernel
theorem dX9_span_9 : decode cX9_span 9 = .ok (.ifnull 25, 3) := by decide +kernel
theorem dX9_span_12 : decode cX9_span 12 = .ok (.iload_n 2, 1) := by decide +kernel
theorem dX9_span_13 : decode cX9_span 13 = .ok (.iconst 1, 1) := by decide +kernel
theorem dX9_span_14 : decode cX9_span 14 = .ok (.sipush 5000, 3) := by decide +kernel
theorem dX9_span_17 : decode cX9_span 17 = .ok (.invokestatic 85, 3) := by decide +kernel
theorem dX9_span_20 : decode cX9_span 20 = .ok (.ifCond .eq 14, 3) := by decide +kernel
theorem dX9_span_23 : decode cX9_span 23 = .ok (.iload_n 3, 1) := by decide +kernel
theorem dX9_span_24 : decode cX9_span 24 = .ok (.iload_n 2, 1) := by decide +kernel
theorem dX9_span_25 : decode cX9_span 25 = .ok (.sipush 5000, 3) := by decide +kernel
theorem dX9_span_28 : decode cX9_span 28 = .ok (.invokestatic 85, 3) := by decide +kernel
theorem dX9_span_31 : decode cX9_span 31 = .ok (.ifCond .ne 9, 3) := by decide +kernel
theorem dX9_span_34 : decode cX9_span 34 = .ok (.aload_n 0, 1) := by decide +kernel
theorem dX9_span_35 : decode cX9_span 35 = .ok (.iconst 1, 1) := by decide +kernel
theorem dX9_span_36 : decode cX9_span 36 = .ok (.invokevirtual 89, 3) := by decide +kernel
theorem dX9_span_39 : decode cX9_span 39 = .ok (.ireturn, 1) := by decide +kernel
theorem dX9_span_40 : decode cX9_span 40 = .ok (.aload 4, 2) := by decide +kernel
theorem dX9_span_42 : decode cX9_span 42 = .ok (.iload_n 2, 1) := by decide +kernel
theorem dX9_span_43 : decode cX9_span 43 = .ok (.putfield 167, 3) := by decide +kernel
theorem dX9_span_46 : decode cX9_span 46 = .ok (.aload 4, 2) := by decide +kernel
theorem dX9_span_48 : decode cX9_span 48 = .ok (.iload_n 3, 1) := by decide +kernel
theorem dX9_span_49 : decode cX9_span 49 = .ok (.putfield 170, 3) := by decide +kernel
theorem dX9_span_52 : decode cX9_span 52 = .ok (.iconst 1, 1) := by decide +kernel
theorem dX9_span_53 : decode cX9_span 53 = .ok (.ireturn, 1) := by decide +kernel
theorem dX9_points_0 : decode cX9_points 0 = .ok (.iload_n 1, 1) := by decide +kernel
theorem dX9_points_1 : decode cX9_points 1 = .ok (.iconst 0, 1) := by decide +kernel
theorem dX9_points_2 : decode cX9_points 2 = .ok (.iconst 4, 1) := by decide +kernel
theorem dX9_points_3 : decode cX9_points 3 = .ok (.invokestatic 85, 3) := by decide +kernel
theorem dX9_points_6 : decode cX9_points 6 = .ok (.ifCond .eq 13, 3) := by decide +kernel
theorem dX9_points_9 : decode cX9_points 9 = .ok (.iload_n 2, 1) := by decide +kernel
theorem dX9_points_10 : decode cX9_points 10 = .ok (.iconst 0, 1) := by decide +kernel
theorem dX9_points_11 : decode cX9_points 11 = .ok (.bipush 20, 2) := by decide +kernel
theorem dX9_points_13 : decode cX9_points 13 = .ok (.invokestatic 85, 3) := by decide +kernel
theorem dX9_points_16 : decode cX9_points 16 = .ok (.ifCond .ne 9, 3) := by decide +kernel
theorem dX9_points_19 : decode cX9_points 19 = .ok (.aload_n 0, 1) := by decide +kernel
theorem dX9_points_20 : decode cX9_points 20 = .ok (.iconst 1, 1) := by decide +kernel
theorem dX9_points_21 : decode cX9_points 21 = .ok (.invokevirtual 89, 3) := by decide +kernel
theorem dX9_points_24 : decode cX9_points 24 = .ok (.ireturn, 1) := by decide +kernel
theorem dX9_points_25 : decode cX9_points 25 = .ok (.aload_n 0, 1) := by decide +kernel
theorem dX9_points_26 : decode cX9_points 26 = .ok (.getfield 22, 3) := by decide +kernel
theorem dX9_points_29 : decode cX9_points 29 = .ok (.iload_n 1, 1) := by decide +kernel
theorem dX9_points_30 : decode cX9_points 30 = .ok (.iaload, 1) := by decide +kernel
theorem dX9_points_31 : decode cX9_points 31 = .ok (.istore_n 3, 1) := by decide +kernel
theorem dX9_points_32 : decode cX9_points 32 = .ok (.aload_n 0, 1) := by decide +kernel
theorem dX9_points_33 : decode cX9_points 33 = .ok (.getfield 22, 3) := by decide +kernel
theorem dX9_points_36 : decode cX9_points 36 = .ok (.iload_n 1, 1) := by decide +kernel
theorem dX9_points_37 : decode cX9_points 37 = .ok (.iload_n 2, 1) := by decide +kernel
theorem dX9_points_38 : decode cX9_points 38 = .ok (.iastore, 1) := by decide +kernel
theorem dX9_points_39 : decode cX9_points 39 = .ok (.iload_n 3, 1) := by decide +kernel
theorem dX9_points_40 : decode cX9_points 40 = .ok (.ireturn, 1) := by decide +kernel
theorem dX9_likeness_0 : decode cX9_likeness 0 = .ok (.aload_n 0, 1) := by decide +kernel
theorem dX9_likeness_1 : decode cX9_likeness 1 = .ok (.iload_n 1, 1) := by decide +kernel
theorem dX9_likeness_2 : decode cX9_likeness 2 = .ok (.invokevirtual 160, 3) := by decide +kernel
theorem dX9_likeness_5 : decode cX9_likeness 5 = .ok (.astore_n 3, 1) := by decide +kernel
theorem dX9_likeness_6 : decode cX9_likeness 6 = .ok (.aload_n 0, 1) := by decide +kernel
theorem dX9_likeness_7 : decode cX9_likeness 7 = .ok (.iload_n 2, 1) := by decide +kernel
theorem dX9_likeness_8 : decode cX9_likeness 8 = .ok (.invokevirtual 119, 3) := by decide +kernel
theorem dX9_likeness_11 : decode cX9_likeness 11 = .ok (.astore 4, 2) := by decide +kernel
theorem dX9_likeness_13 : decode cX9_likeness 13 = .ok (.aload_n 3, 1) := by decide +kernel
theorem dX9_likeness_14 : decode cX9_likeness 14 = .ok (.ifnull 8, 3) := by decide +kernel
theorem dX9_likeness_17 : decode cX9_likeness 17 = .ok (.aload 4, 2) := by decide +kernel
theorem dX9_likeness_19 : decode cX9_likeness 19 = .ok (.ifnonnull 9, 3) := by decide +kernel
theorem dX9_likeness_22 : decode cX9_likeness 22 = .ok (.aload_n 0, 1) := by decide +kernel
theorem dX9_likeness_23 : decode cX9_likeness 23 = .ok (.iconst 1, 1) := by decide +kernel
theorem dX9_likeness_24 : decode cX9_likeness 24 = .ok (.invokevirtual 89, 3) := by decide +kernel
theorem dX9_likeness_27 : decode cX9_likeness 27 = .ok (.ireturn, 1) := by decide +kernel
theorem dX9_likeness_28 : decode cX9_likeness 28 = .ok (.aload_n 0, 1) := by decide +kernel
theorem dX9_likeness_29 : decode cX9_likeness 29 = .ok (.aload_n 3, 1) := by decide +kernel
theorem dX9_likeness_30 : decode cX9_likeness 30 = .ok (.aload 4, 2) := by decide +kernel
theorem dX9_likeness_32 : decode cX9_likeness 32 = .ok (.invokevirtual 173, 3) := by decide +kernel
theorem dX9_likeness_35 : decode cX9_likeness 35 = .ok (.ireturn, 1) := by decide +kernel
theorem dX9_chance_0 : decode cX9_chance 0 = .ok (.aload_n 0, 1) := by decide +kernel
theorem dX9_chance_1 : decode cX9_chance 1 = .ok (.iload_n 1, 1) := by decide +kernel
theorem dX9_chance_2 : decode cX9_chance 2 = .ok (.invokevirtual 160, 3) := by decide +kernel
theorem dX9_chance_5 : decode cX9_chance 5 = .ok (.astore_n 3, 1) := by decide +kernel
theorem dX9_chance_6 : decode cX9_chance 6 = .ok (.aload_n 0, 1) := by decide +kernel
theorem dX9_chance_7 : decode cX9_chance 7 = .ok (.iload_n 2, 1) := by decide +kernel
theorem dX9_chance_8 : decode cX9_chance 8 = .ok (.invokevirtual 119, 3) := by decide +kernel
theorem dX9_chance_11 : decode cX9_chance 11 = .ok (.astore 4, 2) := by decide +kernel
theorem dX9_chance_13 : decode cX9_chance 13 = .ok (.aload_n 3, 1) := by decide +kernel
theorem dX9_chance_14 : decode cX9_chance 14 = .ok (.ifnull 8, 3) := by decide +kernel
theorem dX9_chance_17 : decode cX9_chance 17 = .ok (.aload 4, 2) := by decide +kernel
theorem dX9_chance_19 : decode cX9_chance 19 = .ok (.ifnonnull 9, 3) := by decide +kernel
theorem dX9_chance_22 : decode cX9_chance 22 = .ok (.aload_n 0, 1) := by decide +kernel
theorem dX9_chance_23 : decode cX9_chance 23 = .ok (.iconst 1, 1) := by decide +kernel
theorem dX9_chance_24 : decode cX9_chance 24 = .ok (.invokevirtual 89, 3) := by decide +kernel
theorem dX9_chance_27 : decode cX9_chance 27 = .ok (.ireturn, 1) := by decide +kernel
theorem dX9_chance_28 : decode cX9_chance 28 = .ok (.iconst 0, 1) := by decide +kernel
theorem dX9_chance_29 : decode cX9_chance 29 = .ok (.istore 5, 2) := by decide +kernel
theorem dX9_chance_31 : decode cX9_chance 31 = .ok (.iconst 0, 1) := by decide +kernel
theorem dX9_chance_32 : decode cX9_chance 32 = .ok (.istore 6, 2) := by decide +kernel
theorem dX9_chance_34 : decode cX9_chance 34 = .ok (.iload 6, 2) := by decide +kernel
theorem dX9_chance_36 : decode cX9_chance 36 = .ok (.aload_n 0, 1) := by decide +kernel
theorem dX9_chance_37 : decode cX9_chance 37 = .ok (.getfield 16, 3) := by decide +kernel
theorem dX9_chance_40 : decode cX9_chance 40 = .ok (.invokevirtual 93, 3) := by decide +kernel
theorem dX9_chance_43 : decode cX9_chance 43 = .ok (.if_icmp .ge 39, 3) := by decide +kernel
theorem dX9_chance_46 : decode cX9_chance 46 = .ok (.aload_n 0, 1) := by decide +kernel
theorem dX9_chance_47 : decode cX9_chance 47 = .ok (.aload_n 0, 1) := by decide +kernel
theorem dX9_chance_48 : decode cX9_chance 48 = .ok (.getfield 16, 3) := by decide +kernel
theorem dX9_chance_51 : decode cX9_chance 51 = .ok (.iload 6, 2) := by decide +kernel
theorem dX9_chance_53 : decode cX9_chance 53 = .ok (.invokevirtual 144, 3) := by decide +kernel
theorem dX9_chance_56 : decode cX9_chance 56 = .ok (.checkcast 155, 3) := by decide +kernel
theorem dX9_chance_59 : decode cX9_chance 59 = .ok (.aload 4, 2) := by decide +kernel
theorem dX9_chance_61 : decode cX9_chance 61 = .ok (.invokevirtual 173, 3) := by decide +kernel
theorem dX9_chance_64 : decode cX9_chance 64 = .ok (.istore 7, 2) := by decide +kernel
theorem dX9_chance_66 : decode cX9_chance 66 = .ok (.iload 5, 2) := by decide +kernel
theorem dX9_chance_68 : decode cX9_chance 68 = .ok (.iload 7, 2) := by decide +kernel
theorem dX9_chance_70 : decode cX9_chance 70 = .ok (.iload 7, 2) := by decide +kernel
theorem dX9_chance_72 : decode cX9_chance 72 = .ok (.imul, 1) := by decide +kernel
theorem dX9_chance_73 : decode cX9_chance 73 = .ok (.iadd, 1) := by decide +kernel
theorem dX9_chance_74 : decode cX9_chance 74 = .ok (.istore 5, 2) := by decide +kernel
theorem dX9_chance_76 : decode cX9_chance 76 = .ok (.iinc 6 1, 3) := by decide +kernel
theorem dX9_chance_79 : decode cX9_chance 79 = .ok (.goto (-45), 3) := by decide +kernel
theorem dX9_chance_82 : decode cX9_chance 82 = .ok (.aload_n 0, 1) := by decide +kernel
theorem dX9_chance_83 : decode cX9_chance 83 = .ok (.aload_n 3, 1) := by decide +kernel
theorem dX9_chance_84 : decode cX9_chance 84 = .ok (.aload 4, 2) := by decide +kernel
theorem dX9_chance_86 : decode cX9_chance 86 = .ok (.invokevirtual 173, 3) := by decide +kernel
theorem dX9_chance_89 : decode cX9_chance 89 = .ok (.istore 6, 2) := by decide +kernel
theorem dX9_chance_91 : decode cX9_chance 91 = .ok (.iload 5, 2) := by decide +kernel
theorem dX9_chance_93 : decode cX9_chance 93 = .ok (.ifCond .ne 7, 3) := by decide +kernel
theorem dX9_chance_96 : decode cX9_chance 96 = .ok (.iconst 0, 1) := by decide +kernel
theorem dX9_chance_97 : decode cX9_chance 97 = .ok (.goto 15, 3) := by decide +kernel
theorem dX9_chance_100 : decode cX9_chance 100 = .ok (.sipush 1000, 3) := by decide +kernel
theorem dX9_chance_103 : decode cX9_chance 103 = .ok (.iload 6, 2) := by decide +kernel
theorem dX9_chance_105 : decode cX9_chance 105 = .ok (.imul, 1) := by decide +kernel
theorem dX9_chance_106 : decode cX9_chance 106 = .ok (.iload 6, 2) := by decide +kernel
theorem dX9_chance_108 : decode cX9_chance 108 = .ok (.imul, 1) := by decide +kernel
theorem dX9_chance_109 : decode cX9_chance 109 = .ok (.iload 5, 2) := by decide +kernel
theorem dX9_chance_111 : decode cX9_chance 111 = .ok (.idiv, 1) := by decide +kernel
theorem dX9_chance_112 : decode cX9_chance 112 = .ok (.ireturn, 1) := by decide +kernel
theorem dX9_match_0 : decode cX9_match 0 = .ok (.iload_n 1, 1) := by decide +kernel
theorem dX9_match_1 : decode cX9_match 1 = .ok (.iconst (-1), 1) := by decide +kernel
theorem dX9_match_2 : decode cX9_match 2 = .ok (.aload_n 0, 1) := by decide +kernel
theorem dX9_match_3 : decode cX9_match 3 = .ok (.getfield 16, 3) := by decide +kernel
theorem dX9_match_6 : decode cX9_match 6 = .ok (.invokevirtual 93, 3) := by decide +kernel
theorem dX9_match_9 : decode cX9_match 9 = .ok (.iconst 1, 1) := by decide +kernel
theorem dX9_match_10 : decode cX9_match 10 = .ok (.isub, 1) := by decide +kernel
theorem dX9_match_11 : decode cX9_match 11 = .ok (.invokestatic 85, 3) := by decide +kernel
theorem dX9_match_14 : decode cX9_match 14 = .ok (.ifCond .ne 9, 3) := by decide +kernel
theorem dX9_match_17 : decode cX9_match 17 = .ok (.aload_n 0, 1) := by decide +kernel
theorem dX9_match_18 : decode cX9_match 18 = .ok (.iconst 1, 1) := by decide +kernel
theorem dX9_match_19 : decode cX9_match 19 = .ok (.invokevirtual 89, 3) := by decide +kernel
theorem dX9_match_22 : decode cX9_match 22 = .ok (.ireturn, 1) := by decide +kernel
theorem dX9_match_23 : decode cX9_match 23 = .ok (.aload_n 0, 1) := by decide +kernel
theorem dX9_match_24 : decode cX9_match 24 = .ok (.invokevirtual 177, 3) := by decide +kernel
theorem dX9_match_27 : decode cX9_match 27 = .ok (.lstore_n 2, 1) := by decide +kernel
theorem dX9_match_28 : decode cX9_match 28 = .ok (.iload_n 1, 1) := by decide +kernel
theorem dX9_match_29 : decode cX9_match 29 = .ok (.iconst (-1), 1) := by decide +kernel
theorem dX9_match_30 : decode cX9_match 30 = .ok (.if_icmp .ne 8, 3) := by decide +kernel
theorem dX9_match_33 : decode cX9_match 33 = .ok (.lload_n 2, 1) := by decide +kernel
theorem dX9_match_34 : decode cX9_match 34 = .ok (.invokestatic 181, 3) := by decide +kernel
theorem dX9_match_37 : decode cX9_match 37 = .ok (.ireturn, 1) := by decide +kernel
theorem dX9_match_38 : decode cX9_match 38 = .ok (.lload_n 2, 1) := by decide +kernel
theorem dX9_match_39 : decode cX9_match 39 = .ok (.iload_n 1, 1) := by decide +kernel
theorem dX9_match_40 : decode cX9_match 40 = .ok (.invokestatic 185, 3) := by decide +kernel
theorem dX9_match_43 : decode cX9_match 43 = .ok (.istore 4, 2) := by decide +kernel
theorem dX9_match_45 : decode cX9_match 45 = .ok (.iload 4, 2) := by decide +kernel
theorem dX9_match_47 : decode cX9_match 47 = .ok (.iconst (-1), 1) := by decide +kernel
theorem dX9_match_48 : decode cX9_match 48 = .ok (.if_icmp .ne 11, 3) := by decide +kernel
theorem dX9_match_51 : decode cX9_match 51 = .ok (.aload_n 0, 1) := by decide +kernel
theorem dX9_match_52 : decode cX9_match 52 = .ok (.iconst 2, 1) := by decide +kernel
theorem dX9_match_53 : decode cX9_match 53 = .ok (.invokevirtual 89, 3) := by decide +kernel
theorem dX9_match_56 : decode cX9_match 56 = .ok (.goto 5, 3) := by decide +kernel
theorem dX9_match_59 : decode cX9_match 59 = .ok (.iload 4, 2) := by decide +kernel
theorem dX9_match_61 : decode cX9_match 61 = .ok (.ireturn, 1) := by decide +kernel
theorem dX9_seen_0 : decode cX9_seen 0 = .ok (.aload_n 0, 1) := by decide +kernel
theorem dX9_seen_1 : decode cX9_seen 1 = .ok (.iload_n 1, 1) := by decide +kernel
theorem dX9_seen_2 : decode cX9_seen 2 = .ok (.invokevirtual 160, 3) := by decide +kernel
theorem dX9_seen_5 : decode cX9_seen 5 = .ok (.astore_n 3, 1) := by decide +kernel
theorem dX9_seen_6 : decode cX9_seen 6 = .ok (.aload_n 3, 1) := by decide +kernel
theorem dX9_seen_7 : decode cX9_seen 7 = .ok (.ifnull 12, 3) := by decide +kernel
theorem dX9_seen_10 : decode cX9_seen 10 = .ok (.iload_n 2, 1) := by decide +kernel
theorem dX9_seen_11 : decode cX9_seen 11 = .ok (.iconst 0, 1) := by decide +kernel
theorem dX9_seen_12 : decode cX9_seen 12 = .ok (.iconst 3, 1) := by decide +kernel
theorem dX9_seen_13 : decode cX9_seen 13 = .ok (.invokestatic 85, 3) := by decide +kernel
theorem dX9_seen_16 : decode cX9_seen 16 = .ok (.ifCond .ne 9, 3) := by decide +kernel
theorem dX9_seen_19 : decode cX9_seen 19 = .ok (.aload_n 0, 1) := by decide +kernel
theorem dX9_seen_20 : decode cX9_seen 20 = .ok (.iconst 1, 1) := by decide +kernel
theorem dX9_seen_21 : decode cX9_seen 21 = .ok (.invokevirtual 89, 3) := by decide +kernel
theorem dX9_seen_24 : decode cX9_seen 24 = .ok (.ireturn, 1) := by decide +kernel
theorem dX9_seen_25 : decode cX9_seen 25 = .ok (.iload_n 2, 1) := by decide +kernel
theorem dX9_seen_26 : decode cX9_seen 26 = .ok (.tableswitch 49 0 2 #[26, 31, 36], 26) := by decide +kernel
theorem dX9_seen_52 : decode cX9_seen 52 = .ok (.aload_n 3, 1) := by decide +kernel
theorem dX9_seen_53 : decode cX9_seen 53 = .ok (.getfield 189, 3) := by decide +kernel
theorem dX9_seen_56 : decode cX9_seen 56 = .ok (.ireturn, 1) := by decide +kernel
theorem dX9_seen_57 : decode cX9_seen 57 = .ok (.aload_n 3, 1) := by decide +kernel
theorem dX9_seen_58 : decode cX9_seen 58 = .ok (.getfield 192, 3) := by decide +kernel
theorem dX9_seen_61 : decode cX9_seen 61 = .ok (.ireturn, 1) := by decide +kernel
theorem dX9_seen_62 : decode cX9_seen 62 = .ok (.aload_n 3, 1) := by decide +kernel
theorem dX9_seen_63 : decode cX9_seen 63 = .ok (.invokevirtual 195, 3) := by decide +kernel
theorem dX9_seen_66 : decode cX9_seen 66 = .ok (.ifCond .eq 7, 3) := by decide +kernel
theorem dX9_seen_69 : decode cX9_seen 69 = .ok (.iconst 1, 1) := by decide +kernel
theorem dX9_seen_70 : decode cX9_seen 70 = .ok (.goto 4, 3) := by decide +kernel
theorem dX9_seen_73 : decode cX9_seen 73 = .ok (.iconst 0, 1) := by decide +kernel
theorem dX9_seen_74 : decode cX9_seen 74 = .ok (.ireturn, 1) := by decide +kernel
theorem dX9_seen_75 : decode cX9_seen 75 = .ok (.aload_n 0, 1) := by decide +kernel
theorem dX9_seen_76 : decode cX9_seen 76 = .ok (.iload_n 1, 1) := by decide +kernel
theorem dX9_seen_77 : decode cX9_seen 77 = .ok (.invokevirtual 199, 3) := by decide +kernel
theorem dX9_seen_80 : decode cX9_seen 80 = .ok (.ireturn, 1) := by decide +kernel
theorem dX9_answer_0 : decode cX9_answer 0 = .ok (.aload_n 0, 1) := by decide +kernel
theorem dX9_answer_1 : decode cX9_answer 1 = .ok (.iload_n 1, 1) := by decide +kernel
theorem dX9_answer_2 : decode cX9_answer 2 = .ok (.invokevirtual 160, 3) := by decide +kernel
theorem dX9_answer_5 : decode cX9_answer 5 = .ok (.astore 4, 2) := by decide +kernel
theorem dX9_answer_7 : decode cX9_answer 7 = .ok (.aload_n 0, 1) := by decide +kernel
theorem dX9_answer_8 : decode cX9_answer 8 = .ok (.iload_n 2, 1) := by decide +kernel
theorem dX9_answer_9 : decode cX9_answer 9 = .ok (.invokevirtual 119, 3) := by decide +kernel
theorem dX9_answer_12 : decode cX9_answer 12 = .ok (.astore 5, 2) := by decide +kernel
theorem dX9_answer_14 : decode cX9_answer 14 = .ok (.aload 4, 2) := by decide +kernel
theorem dX9_answer_16 : decode cX9_answer 16 = .ok (.ifnull 19, 3) := by decide +kernel
theorem dX9_answer_19 : decode cX9_answer 19 = .ok (.aload 5, 2) := by decide +kernel
theorem dX9_answer_21 : decode cX9_answer 21 = .ok (.ifnull 14, 3) := by decide +kernel
theorem dX9_answer_24 : decode cX9_answer 24 = .ok (.iload_n 3, 1) := by decide +kernel
theorem dX9_answer_25 : decode cX9_answer 25 = .ok (.iconst 1, 1) := by decide +kernel
theorem dX9_answer_26 : decode cX9_answer 26 = .ok (.sipush 9999, 3) := by decide +kernel
theorem dX9_answer_29 : decode cX9_answer 29 = .ok (.invokestatic 85, 3) := by decide +kernel
theorem dX9_answer_32 : decode cX9_answer 32 = .ok (.ifCond .ne 9, 3) := by decide +kernel
theorem dX9_answer_35 : decode cX9_answer 35 = .ok (.aload_n 0, 1) := by decide +kernel
theorem dX9_answer_36 : decode cX9_answer 36 = .ok (.iconst 1, 1) := by decide +kernel
theorem dX9_answer_37 : decode cX9_answer 37 = .ok (.invokevirtual 89, 3) := by decide +kernel
theorem dX9_answer_40 : decode cX9_answer 40 = .ok (.ireturn, 1) := by decide +kernel
theorem dX9_answer_41 : decode cX9_answer 41 = .ok (.aload_n 0, 1) := by decide +kernel
theorem dX9_answer_42 : decode cX9_answer 42 = .ok (.aload 4, 2) := by decide +kernel
theorem dX9_answer_44 : decode cX9_answer 44 = .ok (.aload 5, 2) := by decide +kernel
theorem dX9_answer_46 : decode cX9_answer 46 = .ok (.invokevirtual 173, 3) := by decide +kernel
theorem dX9_answer_49 : decode cX9_answer 49 = .ok (.ifCond .ne 9, 3) := by decide +kernel
theorem dX9_answer_52 : decode cX9_answer 52 = .ok (.aload_n 0, 1) := by decide +kernel
theorem dX9_answer_53 : decode cX9_answer 53 = .ok (.iconst 3, 1) := by decide +kernel
theorem dX9_answer_54 : decode cX9_answer 54 = .ok (.invokevirtual 89, 3) := by decide +kernel
theorem dX9_answer_57 : decode cX9_answer 57 = .ok (.ireturn, 1) := by decide +kernel
theorem dX9_answer_58 : decode cX9_answer 58 = .ok (.iload_n 3, 1) := by decide +kernel
theorem dX9_answer_59 : decode cX9_answer 59 = .ok (.aload 5, 2) := by decide +kernel
theorem dX9_answer_61 : decode cX9_answer 61 = .ok (.getfield 202, 3) := by decide +kernel
theorem dX9_answer_64 : decode cX9_answer 64 = .ok (.if_icmp .eq 16, 3) := by decide +kernel
theorem dX9_answer_67 : decode cX9_answer 67 = .ok (.aload 4, 2) := by decide +kernel
theorem dX9_answer_69 : decode cX9_answer 69 = .ok (.dup, 1) := by decide +kernel
theorem dX9_answer_70 : decode cX9_answer 70 = .ok (.getfield 192, 3) := by decide +kernel
theorem dX9_answer_73 : decode cX9_answer 73 = .ok (.iconst 1, 1) := by decide +kernel
theorem dX9_answer_74 : decode cX9_answer 74 = .ok (.iadd, 1) := by decide +kernel
theorem dX9_answer_75 : decode cX9_answer 75 = .ok (.putfield 192, 3) := by decide +kernel
theorem dX9_answer_78 : decode cX9_answer 78 = .ok (.iconst 0, 1) := by decide +kernel
theorem dX9_answer_79 : decode cX9_answer 79 = .ok (.ireturn, 1) := by decide +kernel
theorem dX9_answer_80 : decode cX9_answer 80 = .ok (.aload 5, 2) := by decide +kernel
theorem dX9_answer_82 : decode cX9_answer 82 = .ok (.iconst 1, 1) := by decide +kernel
theorem dX9_answer_83 : decode cX9_answer 83 = .ok (.aload_n 0, 1) := by decide +kernel
theorem dX9_answer_84 : decode cX9_answer 84 = .ok (.getfield 70, 3) := by decide +kernel
theorem dX9_answer_87 : decode cX9_answer 87 = .ok (.invokevirtual 107, 3) := by decide +kernel
theorem dX9_answer_90 : decode cX9_answer 90 = .ok (.aload 5, 2) := by decide +kernel
theorem dX9_answer_92 : decode cX9_answer 92 = .ok (.iload_n 1, 1) := by decide +kernel
theorem dX9_answer_93 : decode cX9_answer 93 = .ok (.putfield 141, 3) := by decide +kernel
theorem dX9_answer_96 : decode cX9_answer 96 = .ok (.aload 5, 2) := by decide +kernel
theorem dX9_answer_98 : decode cX9_answer 98 = .ok (.aload_n 0, 1) := by decide +kernel
theorem dX9_answer_99 : decode cX9_answer 99 = .ok (.getfield 70, 3) := by decide +kernel
theorem dX9_answer_102 : decode cX9_answer 102 = .ok (.putfield 205, 3) := by decide +kernel
theorem dX9_answer_105 : decode cX9_answer 105 = .ok (.iconst 1, 1) := by decide +kernel
theorem dX9_answer_106 : decode cX9_answer 106 = .ok (.ireturn, 1) := by decide +kernel
theorem dX9_back_0 : decode cX9_back 0 = .ok (.aload_n 0, 1) := by decide +kernel
theorem dX9_back_1 : decode cX9_back 1 = .ok (.iload_n 1, 1) := by decide +kernel
theorem dX9_back_2 : decode cX9_back 2 = .ok (.invokevirtual 119, 3) := by decide +kernel
theorem dX9_back_5 : decode cX9_back 5 = .ok (.astore_n 2, 1) := by decide +kernel
theorem dX9_back_6 : decode cX9_back 6 = .ok (.aload_n 2, 1) := by decide +kernel
theorem dX9_back_7 : decode cX9_back 7 = .ok (.ifnonnull 9, 3) := by decide +kernel
theorem dX9_back_10 : decode cX9_back 10 = .ok (.aload_n 0, 1) := by decide +kernel
theorem dX9_back_11 : decode cX9_back 11 = .ok (.iconst 1, 1) := by decide +kernel
theorem dX9_back_12 : decode cX9_back 12 = .ok (.invokevirtual 89, 3) := by decide +kernel
theorem dX9_back_15 : decode cX9_back 15 = .ok (.ireturn, 1) := by decide +kernel
theorem dX9_back_16 : decode cX9_back 16 = .ok (.aload_n 2, 1) := by decide +kernel
theorem dX9_back_17 : decode cX9_back 17 = .ok (.getfield 138, 3) := by decide +kernel
theorem dX9_back_20 : decode cX9_back 20 = .ok (.iconst 1, 1) := by decide +kernel
theorem dX9_back_21 : decode cX9_back 21 = .ok (.if_icmp .ne 17, 3) := by decide +kernel
theorem dX9_back_24 : decode cX9_back 24 = .ok (.aload_n 0, 1) := by decide +kernel
theorem dX9_back_25 : decode cX9_back 25 = .ok (.getfield 70, 3) := by decide +kernel
theorem dX9_back_28 : decode cX9_back 28 = .ok (.aload_n 2, 1) := by decide +kernel
theorem dX9_back_29 : decode cX9_back 29 = .ok (.getfield 205, 3) := by decide +kernel
theorem dX9_back_32 : decode cX9_back 32 = .ok (.isub, 1) := by decide +kernel
theorem dX9_back_33 : decode cX9_back 33 = .ok (.bipush 10, 2) := by decide +kernel
theorem dX9_back_35 : decode cX9_back 35 = .ok (.if_icmp .le 9, 3) := by decide +kernel
theorem dX9_back_38 : decode cX9_back 38 = .ok (.aload_n 0, 1) := by decide +kernel
theorem dX9_back_39 : decode cX9_back 39 = .ok (.iconst 3, 1) := by decide +kernel
theorem dX9_back_40 : decode cX9_back 40 = .ok (.invokevirtual 89, 3) := by decide +kernel
theorem dX9_back_43 : decode cX9_back 43 = .ok (.ireturn, 1) := by decide +kernel
theorem dX9_back_44 : decode cX9_back 44 = .ok (.aload_n 2, 1) := by decide +kernel
theorem dX9_back_45 : decode cX9_back 45 = .ok (.getfield 141, 3) := by decide +kernel
theorem dX9_back_48 : decode cX9_back 48 = .ok (.istore_n 3, 1) := by decide +kernel
theorem dX9_back_49 : decode cX9_back 49 = .ok (.aload_n 2, 1) := by decide +kernel
theorem dX9_back_50 : decode cX9_back 50 = .ok (.iconst 0, 1) := by decide +kernel
theorem dX9_back_51 : decode cX9_back 51 = .ok (.aload_n 0, 1) := by decide +kernel
theorem dX9_back_52 : decode cX9_back 52 = .ok (.getfield 70, 3) := by decide +kernel
theorem dX9_back_55 : decode cX9_back 55 = .ok (.invokevirtual 107, 3) := by decide +kernel
theorem dX9_back_58 : decode cX9_back 58 = .ok (.aload_n 2, 1) := by decide +kernel
theorem dX9_back_59 : decode cX9_back 59 = .ok (.iconst (-1), 1) := by decide +kernel
theorem dX9_back_60 : decode cX9_back 60 = .ok (.putfield 141, 3) := by decide +kernel
theorem dX9_back_63 : decode cX9_back 63 = .ok (.iload_n 3, 1) := by decide +kernel
theorem dX9_back_64 : decode cX9_back 64 = .ok (.ireturn, 1) := by decide +kernel
theorem dX9_address_0 : decode cX9_address 0 = .ok (.iload_n 1, 1) := by decide +kernel
theorem dX9_address_1 : decode cX9_address 1 = .ok (.invokestatic 208, 3) := by decide +kernel
theorem dX9_address_4 : decode cX9_address 4 = .ok (.ifCond .eq 14, 3) := by decide +kernel
theorem dX9_address_7 : decode cX9_address 7 = .ok (.iload_n 2, 1) := by decide +kernel
theorem dX9_address_8 : decode cX9_address 8 = .ok (.iconst 0, 1) := by decide +kernel
theorem dX9_address_9 : decode cX9_address 9 = .ok (.sipush 1000, 3) := by decide +kernel
theorem dX9_address_12 : decode cX9_address 12 = .ok (.invokestatic 85, 3) := by decide +kernel
theorem dX9_address_15 : decode cX9_address 15 = .ok (.ifCond .ne 9, 3) := by decide +kernel
theorem dX9_address_18 : decode cX9_address 18 = .ok (.aload_n 0, 1) := by decide +kernel
theorem dX9_address_19 : decode cX9_address 19 = .ok (.iconst 1, 1) := by decide +kernel
theorem dX9_address_20 : decode cX9_address 20 = .ok (.invokevirtual 89, 3) := by decide +kernel
theorem dX9_address_23 : decode cX9_address 23 = .ok (.ireturn, 1) := by decide +kernel
theorem dX9_address_24 : decode cX9_address 24 = .ok (.aload_n 0, 1) := by decide +kernel
theorem dX9_address_25 : decode cX9_address 25 = .ok (.getfield 19, 3) := by decide +kernel
theorem dX9_address_28 : decode cX9_address 28 = .ok (.invokevirtual 93, 3) := by decide +kernel
theorem dX9_address_31 : decode cX9_address 31 = .ok (.bipush 16, 2) := by decide +kernel
theorem dX9_address_33 : decode cX9_address 33 = .ok (.if_icmp .lt 9, 3) := by decide +kernel
theorem dX9_address_36 : decode cX9_address 36 = .ok (.aload_n 0, 1) := by decide +kernel
theorem dX9_address_37 : decode cX9_address 37 = .ok (.iconst 4, 1) := by decide +kernel
theorem dX9_address_38 : decode cX9_address 38 = .ok (.invokevirtual 89, 3) := by decide +kernel
theorem dX9_address_41 : decode cX9_address 41 = .ok (.ireturn, 1) := by decide +kernel
theorem dX9_address_42 : decode cX9_address 42 = .ok (.aload_n 0, 1) := by decide +kernel
theorem dX9_address_43 : decode cX9_address 43 = .ok (.getfield 19, 3) := by decide +kernel
theorem dX9_address_46 : decode cX9_address 46 = .ok (.new 211, 3) := by decide +kernel
theorem dX9_address_49 : decode cX9_address 49 = .ok (.dup, 1) := by decide +kernel
theorem dX9_address_50 : decode cX9_address 50 = .ok (.iload_n 1, 1) := by decide +kernel
theorem dX9_address_51 : decode cX9_address 51 = .ok (.iload_n 1, 1) := by decide +kernel
theorem dX9_address_52 : decode cX9_address 52 = .ok (.invokestatic 213, 3) := by decide +kernel
theorem dX9_address_55 : decode cX9_address 55 = .ok (.iload_n 2, 1) := by decide +kernel
theorem dX9_address_56 : decode cX9_address 56 = .ok (.invokespecial 216, 3) := by decide +kernel
theorem dX9_address_59 : decode cX9_address 59 = .ok (.invokevirtual 115, 3) := by decide +kernel
theorem dX9_address_62 : decode cX9_address 62 = .ok (.pop, 1) := by decide +kernel
theorem dX9_address_63 : decode cX9_address 63 = .ok (.aload_n 0, 1) := by decide +kernel
theorem dX9_address_64 : decode cX9_address 64 = .ok (.getfield 19, 3) := by decide +kernel
theorem dX9_address_67 : decode cX9_address 67 = .ok (.invokevirtual 93, 3) := by decide +kernel
theorem dX9_address_70 : decode cX9_address 70 = .ok (.iconst 1, 1) := by decide +kernel
theorem dX9_address_71 : decode cX9_address 71 = .ok (.isub, 1) := by decide +kernel
theorem dX9_address_72 : decode cX9_address 72 = .ok (.ireturn, 1) := by decide +kernel
theorem dX9_post_0 : decode cX9_post 0 = .ok (.aload_n 0, 1) := by decide +kernel
theorem dX9_post_1 : decode cX9_post 1 = .ok (.iload_n 1, 1) := by decide +kernel
theorem dX9_post_2 : decode cX9_post 2 = .ok (.invokevirtual 219, 3) := by decide +kernel
theorem dX9_post_5 : decode cX9_post 5 = .ok (.astore_n 3, 1) := by decide +kernel
theorem dX9_post_6 : decode cX9_post 6 = .ok (.aload_n 3, 1) := by decide +kernel
theorem dX9_post_7 : decode cX9_post 7 = .ok (.ifnull 14, 3) := by decide +kernel
theorem dX9_post_10 : decode cX9_post 10 = .ok (.iload_n 2, 1) := by decide +kernel
theorem dX9_post_11 : decode cX9_post 11 = .ok (.iconst 0, 1) := by decide +kernel
theorem dX9_post_12 : decode cX9_post 12 = .ok (.sipush 1000, 3) := by decide +kernel
theorem dX9_post_15 : decode cX9_post 15 = .ok (.invokestatic 85, 3) := by decide +kernel
theorem dX9_post_18 : decode cX9_post 18 = .ok (.ifCond .ne 9, 3) := by decide +kernel
theorem dX9_post_21 : decode cX9_post 21 = .ok (.aload_n 0, 1) := by decide +kernel
theorem dX9_post_22 : decode cX9_post 22 = .ok (.iconst 1, 1) := by decide +kernel
theorem dX9_post_23 : decode cX9_post 23 = .ok (.invokevirtual 89, 3) := by decide +kernel
theorem dX9_post_26 : decode cX9_post 26 = .ok (.ireturn, 1) := by decide +kernel
theorem dX9_post_27 : decode cX9_post 27 = .ok (.aload_n 3, 1) := by decide +kernel
theorem dX9_post_28 : decode cX9_post 28 = .ok (.getfield 223, 3) := by decide +kernel
theorem dX9_post_31 : decode cX9_post 31 = .ok (.istore 4, 2) := by decide +kernel
theorem dX9_post_33 : decode cX9_post 33 = .ok (.aload_n 3, 1) := by decide +kernel
theorem dX9_post_34 : decode cX9_post 34 = .ok (.iload_n 2, 1) := by decide +kernel
theorem dX9_post_35 : decode cX9_post 35 = .ok (.putfield 223, 3) := by decide +kernel
theorem dX9_post_38 : decode cX9_post 38 = .ok (.iload 4, 2) := by decide +kernel
theorem dX9_post_40 : decode cX9_post 40 = .ok (.ireturn, 1) := by decide +kernel
theorem dX9_fits_0 : decode cX9_fits 0 = .ok (.aload_n 0, 1) := by decide +kernel
theorem dX9_fits_1 : decode cX9_fits 1 = .ok (.iload_n 1, 1) := by decide +kernel
theorem dX9_fits_2 : decode cX9_fits 2 = .ok (.invokevirtual 219, 3) := by decide +kernel
theorem dX9_fits_5 : decode cX9_fits 5 = .ok (.astore 4, 2) := by decide +kernel
theorem dX9_fits_7 : decode cX9_fits 7 = .ok (.aload 4, 2) := by decide +kernel
theorem dX9_fits_9 : decode cX9_fits 9 = .ok (.ifnull 11, 3) := by decide +kernel
theorem dX9_fits_12 : decode cX9_fits 12 = .ok (.iload_n 2, 1) := by decide +kernel
theorem dX9_fits_13 : decode cX9_fits 13 = .ok (.iload_n 3, 1) := by decide +kernel
theorem dX9_fits_14 : decode cX9_fits 14 = .ok (.invokestatic 226, 3) := by decide +kernel
theorem dX9_fits_17 : decode cX9_fits 17 = .ok (.ifCond .ne 9, 3) := by decide +kernel
theorem dX9_fits_20 : decode cX9_fits 20 = .ok (.aload_n 0, 1) := by decide +kernel
theorem dX9_fits_21 : decode cX9_fits 21 = .ok (.iconst 1, 1) := by decide +kernel
theorem dX9_fits_22 : decode cX9_fits 22 = .ok (.invokevirtual 89, 3) := by decide +kernel
theorem dX9_fits_25 : decode cX9_fits 25 = .ok (.ireturn, 1) := by decide +kernel
theorem dX9_fits_26 : decode cX9_fits 26 = .ok (.aload 4, 2) := by decide +kernel
theorem dX9_fits_28 : decode cX9_fits 28 = .ok (.iload_n 2, 1) := by decide +kernel
theorem dX9_fits_29 : decode cX9_fits 29 = .ok (.iload_n 3, 1) := by decide +kernel
theorem dX9_fits_30 : decode cX9_fits 30 = .ok (.bipush 10, 2) := by decide +kernel
theorem dX9_fits_32 : decode cX9_fits 32 = .ok (.idiv, 1) := by decide +kernel
theorem dX9_fits_33 : decode cX9_fits 33 = .ok (.iload_n 3, 1) := by decide +kernel
theorem dX9_fits_34 : decode cX9_fits 34 = .ok (.bipush 10, 2) := by decide +kernel
theorem dX9_fits_36 : decode cX9_fits 36 = .ok (.irem, 1) := by decide +kernel
theorem dX9_fits_37 : decode cX9_fits 37 = .ok (.invokevirtual 230, 3) := by decide +kernel
theorem dX9_fits_40 : decode cX9_fits 40 = .ok (.ifCond .eq 7, 3) := by decide +kernel
theorem dX9_fits_43 : decode cX9_fits 43 = .ok (.iconst 1, 1) := by decide +kernel
theorem dX9_fits_44 : decode cX9_fits 44 = .ok (.goto 4, 3) := by decide +kernel
theorem dX9_fits_47 : decode cX9_fits 47 = .ok (.iconst 0, 1) := by decide +kernel
theorem dX9_fits_48 : decode cX9_fits 48 = .ok (.ireturn, 1) := by decide +kernel
theorem dX9_likely_0 : decode cX9_likely 0 = .ok (.iload_n 1, 1) := by decide +kernel
theorem dX9_likely_1 : decode cX9_likely 1 = .ok (.iload_n 2, 1) := by decide +kernel
theorem dX9_likely_2 : decode cX9_likely 2 = .ok (.invokestatic 226, 3) := by decide +kernel
theorem dX9_likely_5 : decode cX9_likely 5 = .ok (.ifCond .eq 7, 3) := by decide +kernel
theorem dX9_likely_8 : decode cX9_likely 8 = .ok (.iload_n 3, 1) := by decide +kernel
theorem dX9_likely_9 : decode cX9_likely 9 = .ok (.ifCond .ge 9, 3) := by decide +kernel
theorem dX9_likely_12 : decode cX9_likely 12 = .ok (.aload_n 0, 1) := by decide +kernel
theorem dX9_likely_13 : decode cX9_likely 13 = .ok (.iconst 1, 1) := by decide +kernel
theorem dX9_likely_14 : decode cX9_likely 14 = .ok (.invokevirtual 89, 3) := by decide +kernel
theorem dX9_likely_17 : decode cX9_likely 17 = .ok (.ireturn, 1) := by decide +kernel
theorem dX9_likely_18 : decode cX9_likely 18 = .ok (.aload_n 0, 1) := by decide +kernel
theorem dX9_likely_19 : decode cX9_likely 19 = .ok (.iload_n 1, 1) := by decide +kernel
theorem dX9_likely_20 : decode cX9_likely 20 = .ok (.iload_n 2, 1) := by decide +kernel
theorem dX9_likely_21 : decode cX9_likely 21 = .ok (.invokevirtual 233, 3) := by decide +kernel
theorem dX9_likely_24 : decode cX9_likely 24 = .ok (.istore 4, 2) := by decide +kernel
theorem dX9_likely_26 : decode cX9_likely 26 = .ok (.iconst 0, 1) := by decide +kernel
theorem dX9_likely_27 : decode cX9_likely 27 = .ok (.istore 5, 2) := by decide +kernel
theorem dX9_likely_29 : decode cX9_likely 29 = .ok (.iload 5, 2) := by decide +kernel
theorem dX9_likely_31 : decode cX9_likely 31 = .ok (.aload_n 0, 1) := by decide +kernel
theorem dX9_likely_32 : decode cX9_likely 32 = .ok (.getfield 19, 3) := by decide +kernel
theorem dX9_likely_35 : decode cX9_likely 35 = .ok (.invokevirtual 93, 3) := by decide +kernel
theorem dX9_likely_38 : decode cX9_likely 38 = .ok (.if_icmp .ge 34, 3) := by decide +kernel
theorem dX9_likely_41 : decode cX9_likely 41 = .ok (.iload 4, 2) := by decide +kernel
theorem dX9_likely_43 : decode cX9_likely 43 = .ok (.iload 5, 2) := by decide +kernel
theorem dX9_likely_45 : decode cX9_likely 45 = .ok (.invokestatic 237, 3) := by decide +kernel
theorem dX9_likely_48 : decode cX9_likely 48 = .ok (.ifCond .eq 18, 3) := by decide +kernel
theorem dX9_likely_51 : decode cX9_likely 51 = .ok (.aload_n 0, 1) := by decide +kernel
theorem dX9_likely_52 : decode cX9_likely 52 = .ok (.iload 4, 2) := by decide +kernel
theorem dX9_likely_54 : decode cX9_likely 54 = .ok (.iload 5, 2) := by decide +kernel
theorem dX9_likely_56 : decode cX9_likely 56 = .ok (.invokevirtual 240, 3) := by decide +kernel
theorem dX9_likely_59 : decode cX9_likely 59 = .ok (.iload_n 3, 1) := by decide +kernel
theorem dX9_likely_60 : decode cX9_likely 60 = .ok (.if_icmp .ne 6, 3) := by decide +kernel
theorem dX9_likely_63 : decode cX9_likely 63 = .ok (.iload 5, 2) := by decide +kernel
theorem dX9_likely_65 : decode cX9_likely 65 = .ok (.ireturn, 1) := by decide +kernel
theorem dX9_likely_66 : decode cX9_likely 66 = .ok (.iinc 5 1, 3) := by decide +kernel
theorem dX9_likely_69 : decode cX9_likely 69 = .ok (.goto (-40), 3) := by decide +kernel
theorem dX9_likely_72 : decode cX9_likely 72 = .ok (.aload_n 0, 1) := by decide +kernel
theorem dX9_likely_73 : decode cX9_likely 73 = .ok (.iconst 2, 1) := by decide +kernel
theorem dX9_likely_74 : decode cX9_likely 74 = .ok (.invokevirtual 89, 3) := by decide +kernel
theorem dX9_likely_77 : decode cX9_likely 77 = .ok (.ireturn, 1) := by decide +kernel
theorem dX9_share_0 : decode cX9_share 0 = .ok (.aload_n 0, 1) := by decide +kernel
theorem dX9_share_1 : decode cX9_share 1 = .ok (.iload_n 1, 1) := by decide +kernel
theorem dX9_share_2 : decode cX9_share 2 = .ok (.invokevirtual 219, 3) := by decide +kernel
theorem dX9_share_5 : decode cX9_share 5 = .ok (.astore 4, 2) := by decide +kernel
theorem dX9_share_7 : decode cX9_share 7 = .ok (.aload 4, 2) := by decide +kernel
theorem dX9_share_9 : decode cX9_share 9 = .ok (.ifnull 11, 3) := by decide +kernel
theorem dX9_share_12 : decode cX9_share 12 = .ok (.iload_n 2, 1) := by decide +kernel
theorem dX9_share_13 : decode cX9_share 13 = .ok (.iload_n 3, 1) := by decide +kernel
theorem dX9_share_14 : decode cX9_share 14 = .ok (.invokestatic 226, 3) := by decide +kernel
theorem dX9_share_17 : decode cX9_share 17 = .ok (.ifCond .ne 9, 3) := by decide +kernel
theorem dX9_share_20 : decode cX9_share 20 = .ok (.aload_n 0, 1) := by decide +kernel
theorem dX9_share_21 : decode cX9_share 21 = .ok (.iconst 1, 1) := by decide +kernel
theorem dX9_share_22 : decode cX9_share 22 = .ok (.invokevirtual 89, 3) := by decide +kernel
theorem dX9_share_25 : decode cX9_share 25 = .ok (.ireturn, 1) := by decide +kernel
theorem dX9_share_26 : decode cX9_share 26 = .ok (.aload_n 0, 1) := by decide +kernel
theorem dX9_share_27 : decode cX9_share 27 = .ok (.iload_n 2, 1) := by decide +kernel
theorem dX9_share_28 : decode cX9_share 28 = .ok (.iload_n 3, 1) := by decide +kernel
theorem dX9_share_29 : decode cX9_share 29 = .ok (.invokevirtual 233, 3) := by decide +kernel
theorem dX9_share_32 : decode cX9_share 32 = .ok (.istore 5, 2) := by decide +kernel
theorem dX9_share_34 : decode cX9_share 34 = .ok (.iconst 0, 1) := by decide +kernel
theorem dX9_share_35 : decode cX9_share 35 = .ok (.istore 6, 2) := by decide +kernel
theorem dX9_share_37 : decode cX9_share 37 = .ok (.iconst 0, 1) := by decide +kernel
theorem dX9_share_38 : decode cX9_share 38 = .ok (.istore 7, 2) := by decide +kernel
theorem dX9_share_40 : decode cX9_share 40 = .ok (.iload 7, 2) := by decide +kernel
theorem dX9_share_42 : decode cX9_share 42 = .ok (.aload_n 0, 1) := by decide +kernel
theorem dX9_share_43 : decode cX9_share 43 = .ok (.getfield 19, 3) := by decide +kernel
theorem dX9_share_46 : decode cX9_share 46 = .ok (.invokevirtual 93, 3) := by decide +kernel
theorem dX9_share_49 : decode cX9_share 49 = .ok (.if_icmp .ge 39, 3) := by decide +kernel
theorem dX9_share_52 : decode cX9_share 52 = .ok (.iload 5, 2) := by decide +kernel
theorem dX9_share_54 : decode cX9_share 54 = .ok (.iload 7, 2) := by decide +kernel
theorem dX9_share_56 : decode cX9_share 56 = .ok (.invokestatic 237, 3) := by decide +kernel
theorem dX9_share_59 : decode cX9_share 59 = .ok (.ifCond .eq 23, 3) := by decide +kernel
theorem dX9_share_62 : decode cX9_share 62 = .ok (.iload 6, 2) := by decide +kernel
theorem dX9_share_64 : decode cX9_share 64 = .ok (.aload_n 0, 1) := by decide +kernel
theorem dX9_share_65 : decode cX9_share 65 = .ok (.getfield 19, 3) := by decide +kernel
theorem dX9_share_68 : decode cX9_share 68 = .ok (.iload 7, 2) := by decide +kernel
theorem dX9_share_70 : decode cX9_share 70 = .ok (.invokevirtual 144, 3) := by decide +kernel
theorem dX9_share_73 : decode cX9_share 73 = .ok (.checkcast 211, 3) := by decide +kernel
theorem dX9_share_76 : decode cX9_share 76 = .ok (.getfield 223, 3) := by decide +kernel
theorem dX9_share_79 : decode cX9_share 79 = .ok (.iadd, 1) := by decide +kernel
theorem dX9_share_80 : decode cX9_share 80 = .ok (.istore 6, 2) := by decide +kernel
theorem dX9_share_82 : decode cX9_share 82 = .ok (.iinc 7 1, 3) := by decide +kernel
theorem dX9_share_85 : decode cX9_share 85 = .ok (.goto (-45), 3) := by decide +kernel
theorem dX9_share_88 : decode cX9_share 88 = .ok (.iload 5, 2) := by decide +kernel
theorem dX9_share_90 : decode cX9_share 90 = .ok (.iload_n 1, 1) := by decide +kernel
theorem dX9_share_91 : decode cX9_share 91 = .ok (.invokestatic 237, 3) := by decide +kernel
theorem dX9_share_94 : decode cX9_share 94 = .ok (.ifCond .eq 8, 3) := by decide +kernel
theorem dX9_share_97 : decode cX9_share 97 = .ok (.iload 6, 2) := by decide +kernel
theorem dX9_share_99 : decode cX9_share 99 = .ok (.ifCond .ne 9, 3) := by decide +kernel
theorem dX9_share_102 : decode cX9_share 102 = .ok (.aload_n 0, 1) := by decide +kernel
theorem dX9_share_103 : decode cX9_share 103 = .ok (.iconst 2, 1) := by decide +kernel
theorem dX9_share_104 : decode cX9_share 104 = .ok (.invokevirtual 89, 3) := by decide +kernel
theorem dX9_share_107 : decode cX9_share 107 = .ok (.ireturn, 1) := by decide +kernel
theorem dX9_share_108 : decode cX9_share 108 = .ok (.aload 4, 2) := by decide +kernel
theorem dX9_share_110 : decode cX9_share 110 = .ok (.getfield 223, 3) := by decide +kernel
theorem dX9_share_113 : decode cX9_share 113 = .ok (.sipush 1000, 3) := by decide +kernel
theorem dX9_share_116 : decode cX9_share 116 = .ok (.imul, 1) := by decide +kernel
theorem dX9_share_117 : decode cX9_share 117 = .ok (.iload 6, 2) := by decide +kernel
theorem dX9_share_119 : decode cX9_share 119 = .ok (.idiv, 1) := by decide +kernel
theorem dX9_share_120 : decode cX9_share 120 = .ok (.ireturn, 1) := by decide +kernel
theorem dX9_law_0 : decode cX9_law 0 = .ok (.iload_n 1, 1) := by decide +kernel
theorem dX9_law_1 : decode cX9_law 1 = .ok (.iconst 0, 1) := by decide +kernel
theorem dX9_law_2 : decode cX9_law 2 = .ok (.iconst 3, 1) := by decide +kernel
theorem dX9_law_3 : decode cX9_law 3 = .ok (.invokestatic 85, 3) := by decide +kernel
theorem dX9_law_6 : decode cX9_law 6 = .ok (.ifCond .eq 13, 3) := by decide +kernel
theorem dX9_law_9 : decode cX9_law 9 = .ok (.iload_n 2, 1) := by decide +kernel
theorem dX9_law_10 : decode cX9_law 10 = .ok (.iconst 0, 1) := by decide +kernel
theorem dX9_law_11 : decode cX9_law 11 = .ok (.bipush 60, 2) := by decide +kernel
theorem dX9_law_13 : decode cX9_law 13 = .ok (.invokestatic 85, 3) := by decide +kernel
theorem dX9_law_16 : decode cX9_law 16 = .ok (.ifCond .ne 9, 3) := by decide +kernel
theorem dX9_law_19 : decode cX9_law 19 = .ok (.aload_n 0, 1) := by decide +kernel
theorem dX9_law_20 : decode cX9_law 20 = .ok (.iconst 1, 1) := by decide +kernel
theorem dX9_law_21 : decode cX9_law 21 = .ok (.invokevirtual 89, 3) := by decide +kernel
theorem dX9_law_24 : decode cX9_law 24 = .ok (.ireturn, 1) := by decide +kernel
theorem dX9_law_25 : decode cX9_law 25 = .ok (.aload_n 0, 1) := by decide +kernel
theorem dX9_law_26 : decode cX9_law 26 = .ok (.getfield 26, 3) := by decide +kernel
theorem dX9_law_29 : decode cX9_law 29 = .ok (.iload_n 1, 1) := by decide +kernel
theorem dX9_law_30 : decode cX9_law 30 = .ok (.iaload, 1) := by decide +kernel
theorem dX9_law_31 : decode cX9_law 31 = .ok (.istore_n 3, 1) := by decide +kernel
theorem dX9_law_32 : decode cX9_law 32 = .ok (.aload_n 0, 1) := by decide +kernel
theorem dX9_law_33 : decode cX9_law 33 = .ok (.getfield 26, 3) := by decide +kernel
theorem dX9_law_36 : decode cX9_law 36 = .ok (.iload_n 1, 1) := by decide +kernel
theorem dX9_law_37 : decode cX9_law 37 = .ok (.iload_n 2, 1) := by decide +kernel
theorem dX9_law_38 : decode cX9_law 38 = .ok (.iastore, 1) := by decide +kernel
theorem dX9_law_39 : decode cX9_law 39 = .ok (.iload_n 3, 1) := by decide +kernel
theorem dX9_law_40 : decode cX9_law 40 = .ok (.ireturn, 1) := by decide +kernel
theorem dX9_sellable_0 : decode cX9_sellable 0 = .ok (.iconst 0, 1) := by decide +kernel
theorem dX9_sellable_1 : decode cX9_sellable 1 = .ok (.istore_n 1, 1) := by decide +kernel
theorem dX9_sellable_2 : decode cX9_sellable 2 = .ok (.iconst 0, 1) := by decide +kernel
theorem dX9_sellable_3 : decode cX9_sellable 3 = .ok (.istore_n 2, 1) := by decide +kernel
theorem dX9_sellable_4 : decode cX9_sellable 4 = .ok (.iload_n 2, 1) := by decide +kernel
theorem dX9_sellable_5 : decode cX9_sellable 5 = .ok (.aload_n 0, 1) := by decide +kernel
theorem dX9_sellable_6 : decode cX9_sellable 6 = .ok (.getfield 10, 3) := by decide +kernel
theorem dX9_sellable_9 : decode cX9_sellable 9 = .ok (.invokevirtual 93, 3) := by decide +kernel
theorem dX9_sellable_12 : decode cX9_sellable 12 = .ok (.if_icmp .ge 33, 3) := by decide +kernel
theorem dX9_sellable_15 : decode cX9_sellable 15 = .ok (.aload_n 0, 1) := by decide +kernel
theorem dX9_sellable_16 : decode cX9_sellable 16 = .ok (.aload_n 0, 1) := by decide +kernel
theorem dX9_sellable_17 : decode cX9_sellable 17 = .ok (.getfield 10, 3) := by decide +kernel
theorem dX9_sellable_20 : decode cX9_sellable 20 = .ok (.iload_n 2, 1) := by decide +kernel
theorem dX9_sellable_21 : decode cX9_sellable 21 = .ok (.invokevirtual 144, 3) := by decide +kernel
theorem dX9_sellable_24 : decode cX9_sellable 24 = .ok (.checkcast 102, 3) := by decide +kernel
theorem dX9_sellable_27 : decode cX9_sellable 27 = .ok (.invokevirtual 243, 3) := by decide +kernel
theorem dX9_sellable_30 : decode cX9_sellable 30 = .ok (.ifCond .eq 9, 3) := by decide +kernel
theorem dX9_sellable_33 : decode cX9_sellable 33 = .ok (.iload_n 1, 1) := by decide +kernel
theorem dX9_sellable_34 : decode cX9_sellable 34 = .ok (.iconst 1, 1) := by decide +kernel
theorem dX9_sellable_35 : decode cX9_sellable 35 = .ok (.iload_n 2, 1) := by decide +kernel
theorem dX9_sellable_36 : decode cX9_sellable 36 = .ok (.ishl, 1) := by decide +kernel
theorem dX9_sellable_37 : decode cX9_sellable 37 = .ok (.ior, 1) := by decide +kernel
theorem dX9_sellable_38 : decode cX9_sellable 38 = .ok (.istore_n 1, 1) := by decide +kernel
theorem dX9_sellable_39 : decode cX9_sellable 39 = .ok (.iinc 2 1, 3) := by decide +kernel
theorem dX9_sellable_42 : decode cX9_sellable 42 = .ok (.goto (-38), 3) := by decide +kernel
theorem dX9_sellable_45 : decode cX9_sellable 45 = .ok (.iload_n 1, 1) := by decide +kernel
theorem dX9_sellable_46 : decode cX9_sellable 46 = .ok (.ireturn, 1) := by decide +kernel
theorem dX9_sell_0 : decode cX9_sell 0 = .ok (.iload_n 1, 1) := by decide +kernel
theorem dX9_sell_1 : decode cX9_sell 1 = .ok (.ifCond .eq 21, 3) := by decide +kernel
theorem dX9_sell_4 : decode cX9_sell 4 = .ok (.aload_n 0, 1) := by decide +kernel
theorem dX9_sell_5 : decode cX9_sell 5 = .ok (.iload_n 1, 1) := by decide +kernel
theorem dX9_sell_6 : decode cX9_sell 6 = .ok (.invokevirtual 246, 3) := by decide +kernel
theorem dX9_sell_9 : decode cX9_sell 9 = .ok (.ifCond .ne 13, 3) := by decide +kernel
theorem dX9_sell_12 : decode cX9_sell 12 = .ok (.iload_n 2, 1) := by decide +kernel
theorem dX9_sell_13 : decode cX9_sell 13 = .ok (.iconst 0, 1) := by decide +kernel
theorem dX9_sell_14 : decode cX9_sell 14 = .ok (.ldc 249, 2) := by decide +kernel
theorem dX9_sell_16 : decode cX9_sell 16 = .ok (.invokestatic 85, 3) := by decide +kernel
theorem dX9_sell_19 : decode cX9_sell 19 = .ok (.ifCond .ne 9, 3) := by decide +kernel
theorem dX9_sell_22 : decode cX9_sell 22 = .ok (.aload_n 0, 1) := by decide +kernel
theorem dX9_sell_23 : decode cX9_sell 23 = .ok (.iconst 1, 1) := by decide +kernel
theorem dX9_sell_24 : decode cX9_sell 24 = .ok (.invokevirtual 89, 3) := by decide +kernel
theorem dX9_sell_27 : decode cX9_sell 27 = .ok (.ireturn, 1) := by decide +kernel
theorem dX9_sell_28 : decode cX9_sell 28 = .ok (.aload_n 0, 1) := by decide +kernel
theorem dX9_sell_29 : decode cX9_sell 29 = .ok (.iload_n 1, 1) := by decide +kernel
theorem dX9_sell_30 : decode cX9_sell 30 = .ok (.invokevirtual 250, 3) := by decide +kernel
theorem dX9_sell_33 : decode cX9_sell 33 = .ok (.aload_n 0, 1) := by decide +kernel
theorem dX9_sell_34 : decode cX9_sell 34 = .ok (.invokevirtual 253, 3) := by decide +kernel
theorem dX9_sell_37 : decode cX9_sell 37 = .ok (.ifCond .ne 9, 3) := by decide +kernel
theorem dX9_sell_40 : decode cX9_sell 40 = .ok (.aload_n 0, 1) := by decide +kernel
theorem dX9_sell_41 : decode cX9_sell 41 = .ok (.iconst 3, 1) := by decide +kernel
theorem dX9_sell_42 : decode cX9_sell 42 = .ok (.invokevirtual 89, 3) := by decide +kernel
theorem dX9_sell_45 : decode cX9_sell 45 = .ok (.ireturn, 1) := by decide +kernel
theorem dX9_sell_46 : decode cX9_sell 46 = .ok (.aload_n 0, 1) := by decide +kernel
theorem dX9_sell_47 : decode cX9_sell 47 = .ok (.invokevirtual 256, 3) := by decide +kernel
theorem dX9_sell_50 : decode cX9_sell 50 = .ok (.istore_n 3, 1) := by decide +kernel
theorem dX9_sell_51 : decode cX9_sell 51 = .ok (.iload_n 2, 1) := by decide +kernel
theorem dX9_sell_52 : decode cX9_sell 52 = .ok (.istore 4, 2) := by decide +kernel
theorem dX9_sell_54 : decode cX9_sell 54 = .ok (.iconst 0, 1) := by decide +kernel
theorem dX9_sell_55 : decode cX9_sell 55 = .ok (.istore 5, 2) := by decide +kernel
theorem dX9_sell_57 : decode cX9_sell 57 = .ok (.iload 5, 2) := by decide +kernel
theorem dX9_sell_59 : decode cX9_sell 59 = .ok (.aload_n 0, 1) := by decide +kernel
theorem dX9_sell_60 : decode cX9_sell 60 = .ok (.getfield 35, 3) := by decide +kernel
theorem dX9_sell_63 : decode cX9_sell 63 = .ok (.invokevirtual 93, 3) := by decide +kernel
theorem dX9_sell_66 : decode cX9_sell 66 = .ok (.if_icmp .ge 82, 3) := by decide +kernel
theorem dX9_sell_69 : decode cX9_sell 69 = .ok (.aload_n 0, 1) := by decide +kernel
theorem dX9_sell_70 : decode cX9_sell 70 = .ok (.getfield 35, 3) := by decide +kernel
theorem dX9_sell_73 : decode cX9_sell 73 = .ok (.iload 5, 2) := by decide +kernel
theorem dX9_sell_75 : decode cX9_sell 75 = .ok (.invokevirtual 144, 3) := by decide +kernel
theorem dX9_sell_78 : decode cX9_sell 78 = .ok (.checkcast 102, 3) := by decide +kernel
theorem dX9_sell_81 : decode cX9_sell 81 = .ok (.astore 6, 2) := by decide +kernel
theorem dX9_sell_83 : decode cX9_sell 83 = .ok (.aload 6, 2) := by decide +kernel
theorem dX9_sell_85 : decode cX9_sell 85 = .ok (.iconst 2, 1) := by decide +kernel
theorem dX9_sell_86 : decode cX9_sell 86 = .ok (.aload_n 0, 1) := by decide +kernel
theorem dX9_sell_87 : decode cX9_sell 87 = .ok (.getfield 70, 3) := by decide +kernel
theorem dX9_sell_90 : decode cX9_sell 90 = .ok (.invokevirtual 107, 3) := by decide +kernel
theorem dX9_sell_93 : decode cX9_sell 93 = .ok (.aload 6, 2) := by decide +kernel
theorem dX9_sell_95 : decode cX9_sell 95 = .ok (.aload_n 0, 1) := by decide +kernel
theorem dX9_sell_96 : decode cX9_sell 96 = .ok (.getfield 70, 3) := by decide +kernel
theorem dX9_sell_99 : decode cX9_sell 99 = .ok (.putfield 205, 3) := by decide +kernel
theorem dX9_sell_102 : decode cX9_sell 102 = .ok (.aload 6, 2) := by decide +kernel
theorem dX9_sell_104 : decode cX9_sell 104 = .ok (.iload_n 3, 1) := by decide +kernel
theorem dX9_sell_105 : decode cX9_sell 105 = .ok (.ifCond .ne 15, 3) := by decide +kernel
theorem dX9_sell_108 : decode cX9_sell 108 = .ok (.iload_n 2, 1) := by decide +kernel
theorem dX9_sell_109 : decode cX9_sell 109 = .ok (.aload_n 0, 1) := by decide +kernel
theorem dX9_sell_110 : decode cX9_sell 110 = .ok (.getfield 35, 3) := by decide +kernel
theorem dX9_sell_113 : decode cX9_sell 113 = .ok (.invokevirtual 93, 3) := by decide +kernel
theorem dX9_sell_116 : decode cX9_sell 116 = .ok (.idiv, 1) := by decide +kernel
theorem dX9_sell_117 : decode cX9_sell 117 = .ok (.goto 12, 3) := by decide +kernel
theorem dX9_sell_120 : decode cX9_sell 120 = .ok (.iload_n 2, 1) := by decide +kernel
theorem dX9_sell_121 : decode cX9_sell 121 = .ok (.aload 6, 2) := by decide +kernel
theorem dX9_sell_123 : decode cX9_sell 123 = .ok (.getfield 135, 3) := by decide +kernel
theorem dX9_sell_126 : decode cX9_sell 126 = .ok (.imul, 1) := by decide +kernel
theorem dX9_sell_127 : decode cX9_sell 127 = .ok (.iload_n 3, 1) := by decide +kernel
theorem dX9_sell_128 : decode cX9_sell 128 = .ok (.idiv, 1) := by decide +kernel
theorem dX9_sell_129 : decode cX9_sell 129 = .ok (.putfield 259, 3) := by decide +kernel
theorem dX9_sell_132 : decode cX9_sell 132 = .ok (.iload 4, 2) := by decide +kernel
theorem dX9_sell_134 : decode cX9_sell 134 = .ok (.aload 6, 2) := by decide +kernel
theorem dX9_sell_136 : decode cX9_sell 136 = .ok (.getfield 259, 3) := by decide +kernel
theorem dX9_sell_139 : decode cX9_sell 139 = .ok (.isub, 1) := by decide +kernel
theorem dX9_sell_140 : decode cX9_sell 140 = .ok (.istore 4, 2) := by decide +kernel
theorem dX9_sell_142 : decode cX9_sell 142 = .ok (.iinc 5 1, 3) := by decide +kernel
theorem dX9_sell_145 : decode cX9_sell 145 = .ok (.goto (-88), 3) := by decide +kernel
theorem dX9_sell_148 : decode cX9_sell 148 = .ok (.iconst 0, 1) := by decide +kernel
theorem dX9_sell_149 : decode cX9_sell 149 = .ok (.istore 5, 2) := by decide +kernel
theorem dX9_sell_151 : decode cX9_sell 151 = .ok (.iload 5, 2) := by decide +kernel
theorem dX9_sell_153 : decode cX9_sell 153 = .ok (.aload_n 0, 1) := by decide +kernel
theorem dX9_sell_154 : decode cX9_sell 154 = .ok (.getfield 35, 3) := by decide +kernel
theorem dX9_sell_157 : decode cX9_sell 157 = .ok (.invokevirtual 93, 3) := by decide +kernel
theorem dX9_sell_160 : decode cX9_sell 160 = .ok (.if_icmp .ge 37, 3) := by decide +kernel
theorem dX9_sell_163 : decode cX9_sell 163 = .ok (.iload 5, 2) := by decide +kernel
theorem dX9_sell_165 : decode cX9_sell 165 = .ok (.iload 4, 2) := by decide +kernel
theorem dX9_sell_167 : decode cX9_sell 167 = .ok (.if_icmp .ge 30, 3) := by decide +kernel
theorem dX9_sell_170 : decode cX9_sell 170 = .ok (.aload_n 0, 1) := by decide +kernel
theorem dX9_sell_171 : decode cX9_sell 171 = .ok (.getfield 35, 3) := by decide +kernel
theorem dX9_sell_174 : decode cX9_sell 174 = .ok (.iload 5, 2) := by decide +kernel
theorem dX9_sell_176 : decode cX9_sell 176 = .ok (.invokevirtual 144, 3) := by decide +kernel
theorem dX9_sell_179 : decode cX9_sell 179 = .ok (.checkcast 102, 3) := by decide +kernel
theorem dX9_sell_182 : decode cX9_sell 182 = .ok (.dup, 1) := by decide +kernel
theorem dX9_sell_183 : decode cX9_sell 183 = .ok (.getfield 259, 3) := by decide +kernel
theorem dX9_sell_186 : decode cX9_sell 186 = .ok (.iconst 1, 1) := by decide +kernel
theorem dX9_sell_187 : decode cX9_sell 187 = .ok (.iadd, 1) := by decide +kernel
theorem dX9_sell_188 : decode cX9_sell 188 = .ok (.putfield 259, 3) := by decide +kernel
theorem dX9_sell_191 : decode cX9_sell 191 = .ok (.iinc 5 1, 3) := by decide +kernel
theorem dX9_sell_194 : decode cX9_sell 194 = .ok (.goto (-43), 3) := by decide +kernel
theorem dX9_sell_197 : decode cX9_sell 197 = .ok (.iload 4, 2) := by decide +kernel
theorem dX9_sell_199 : decode cX9_sell 199 = .ok (.ireturn, 1) := by decide +kernel
theorem dX9_sold_0 : decode cX9_sold 0 = .ok (.aload_n 0, 1) := by decide +kernel
theorem dX9_sold_1 : decode cX9_sold 1 = .ok (.iload_n 1, 1) := by decide +kernel
theorem dX9_sold_2 : decode cX9_sold 2 = .ok (.invokevirtual 119, 3) := by decide +kernel
theorem dX9_sold_5 : decode cX9_sold 5 = .ok (.astore_n 2, 1) := by decide +kernel
theorem dX9_sold_6 : decode cX9_sold 6 = .ok (.aload_n 2, 1) := by decide +kernel
theorem dX9_sold_7 : decode cX9_sold 7 = .ok (.ifnonnull 9, 3) := by decide +kernel
theorem dX9_sold_10 : decode cX9_sold 10 = .ok (.aload_n 0, 1) := by decide +kernel
theorem dX9_sold_11 : decode cX9_sold 11 = .ok (.iconst 1, 1) := by decide +kernel
theorem dX9_sold_12 : decode cX9_sold 12 = .ok (.invokevirtual 89, 3) := by decide +kernel
theorem dX9_sold_15 : decode cX9_sold 15 = .ok (.ireturn, 1) := by decide +kernel
theorem dX9_sold_16 : decode cX9_sold 16 = .ok (.aload_n 2, 1) := by decide +kernel
theorem dX9_sold_17 : decode cX9_sold 17 = .ok (.getfield 138, 3) := by decide +kernel
theorem dX9_sold_20 : decode cX9_sold 20 = .ok (.iconst 2, 1) := by decide +kernel
theorem dX9_sold_21 : decode cX9_sold 21 = .ok (.if_icmp .ne 10, 3) := by decide +kernel
theorem dX9_sold_24 : decode cX9_sold 24 = .ok (.aload_n 2, 1) := by decide +kernel
theorem dX9_sold_25 : decode cX9_sold 25 = .ok (.getfield 259, 3) := by decide +kernel
theorem dX9_sold_28 : decode cX9_sold 28 = .ok (.goto 8, 3) := by decide +kernel
theorem dX9_sold_31 : decode cX9_sold 31 = .ok (.aload_n 0, 1) := by decide +kernel
theorem dX9_sold_32 : decode cX9_sold 32 = .ok (.iconst 3, 1) := by decide +kernel
theorem dX9_sold_33 : decode cX9_sold 33 = .ok (.invokevirtual 89, 3) := by decide +kernel
theorem dX9_sold_36 : decode cX9_sold 36 = .ok (.ireturn, 1) := by decide +kernel
theorem dX9_owed_0 : decode cX9_owed 0 = .ok (.aload_n 0, 1) := by decide +kernel
theorem dX9_owed_1 : decode cX9_owed 1 = .ok (.iload_n 1, 1) := by decide +kernel
theorem dX9_owed_2 : decode cX9_owed 2 = .ok (.invokevirtual 160, 3) := by decide +kernel
theorem dX9_owed_5 : decode cX9_owed 5 = .ok (.astore 4, 2) := by decide +kernel
theorem dX9_owed_7 : decode cX9_owed 7 = .ok (.aload_n 0, 1) := by decide +kernel
theorem dX9_owed_8 : decode cX9_owed 8 = .ok (.iload_n 2, 1) := by decide +kernel
theorem dX9_owed_9 : decode cX9_owed 9 = .ok (.invokevirtual 119, 3) := by decide +kernel
theorem dX9_owed_12 : decode cX9_owed 12 = .ok (.astore 5, 2) := by decide +kernel
theorem dX9_owed_14 : decode cX9_owed 14 = .ok (.aload 4, 2) := by decide +kernel
theorem dX9_owed_16 : decode cX9_owed 16 = .ok (.ifnull 19, 3) := by decide +kernel
theorem dX9_owed_19 : decode cX9_owed 19 = .ok (.aload 5, 2) := by decide +kernel
theorem dX9_owed_21 : decode cX9_owed 21 = .ok (.ifnull 14, 3) := by decide +kernel
theorem dX9_owed_24 : decode cX9_owed 24 = .ok (.iload_n 3, 1) := by decide +kernel
theorem dX9_owed_25 : decode cX9_owed 25 = .ok (.iconst 1, 1) := by decide +kernel
theorem dX9_owed_26 : decode cX9_owed 26 = .ok (.sipush 9999, 3) := by decide +kernel
theorem dX9_owed_29 : decode cX9_owed 29 = .ok (.invokestatic 85, 3) := by decide +kernel
theorem dX9_owed_32 : decode cX9_owed 32 = .ok (.ifCond .ne 9, 3) := by decide +kernel
theorem dX9_owed_35 : decode cX9_owed 35 = .ok (.aload_n 0, 1) := by decide +kernel
theorem dX9_owed_36 : decode cX9_owed 36 = .ok (.iconst 1, 1) := by decide +kernel
theorem dX9_owed_37 : decode cX9_owed 37 = .ok (.invokevirtual 89, 3) := by decide +kernel
theorem dX9_owed_40 : decode cX9_owed 40 = .ok (.ireturn, 1) := by decide +kernel
theorem dX9_owed_41 : decode cX9_owed 41 = .ok (.aload 5, 2) := by decide +kernel
theorem dX9_owed_43 : decode cX9_owed 43 = .ok (.getfield 138, 3) := by decide +kernel
theorem dX9_owed_46 : decode cX9_owed 46 = .ok (.iconst 2, 1) := by decide +kernel
theorem dX9_owed_47 : decode cX9_owed 47 = .ok (.if_icmp .ne 35, 3) := by decide +kernel
theorem dX9_owed_50 : decode cX9_owed 50 = .ok (.aload 5, 2) := by decide +kernel
theorem dX9_owed_52 : decode cX9_owed 52 = .ok (.getfield 262, 3) := by decide +kernel
theorem dX9_owed_55 : decode cX9_owed 55 = .ok (.ifCond .ne 27, 3) := by decide +kernel
theorem dX9_owed_58 : decode cX9_owed 58 = .ok (.aload_n 0, 1) := by decide +kernel
theorem dX9_owed_59 : decode cX9_owed 59 = .ok (.getfield 70, 3) := by decide +kernel
theorem dX9_owed_62 : decode cX9_owed 62 = .ok (.aload 5, 2) := by decide +kernel
theorem dX9_owed_64 : decode cX9_owed 64 = .ok (.getfield 205, 3) := by decide +kernel
theorem dX9_owed_67 : decode cX9_owed 67 = .ok (.isub, 1) := by decide +kernel
theorem dX9_owed_68 : decode cX9_owed 68 = .ok (.sipush 1095, 3) := by decide +kernel
theorem dX9_owed_71 : decode cX9_owed 71 = .ok (.if_icmp .gt 11, 3) := by decide +kernel
theorem dX9_owed_74 : decode cX9_owed 74 = .ok (.aload 4, 2) := by decide +kernel
theorem dX9_owed_76 : decode cX9_owed 76 = .ok (.invokevirtual 195, 3) := by decide +kernel
theorem dX9_owed_79 : decode cX9_owed 79 = .ok (.ifCond .eq 9, 3) := by decide +kernel
theorem dX9_owed_82 : decode cX9_owed 82 = .ok (.aload_n 0, 1) := by decide +kernel
theorem dX9_owed_83 : decode cX9_owed 83 = .ok (.iconst 3, 1) := by decide +kernel
theorem dX9_owed_84 : decode cX9_owed 84 = .ok (.invokevirtual 89, 3) := by decide +kernel
theorem dX9_owed_87 : decode cX9_owed 87 = .ok (.ireturn, 1) := by decide +kernel
theorem dX9_owed_88 : decode cX9_owed 88 = .ok (.iload_n 3, 1) := by decide +kernel
theorem dX9_owed_89 : decode cX9_owed 89 = .ok (.aload 5, 2) := by decide +kernel
theorem dX9_owed_91 : decode cX9_owed 91 = .ok (.getfield 202, 3) := by decide +kernel
theorem dX9_owed_94 : decode cX9_owed 94 = .ok (.if_icmp .eq 20, 3) := by decide +kernel
theorem dX9_owed_97 : decode cX9_owed 97 = .ok (.aload 4, 2) := by decide +kernel
theorem dX9_owed_99 : decode cX9_owed 99 = .ok (.dup, 1) := by decide +kernel
theorem dX9_owed_100 : decode cX9_owed 100 = .ok (.getfield 192, 3) := by decide +kernel
theorem dX9_owed_103 : decode cX9_owed 103 = .ok (.iconst 1, 1) := by decide +kernel
theorem dX9_owed_104 : decode cX9_owed 104 = .ok (.iadd, 1) := by decide +kernel
theorem dX9_owed_105 : decode cX9_owed 105 = .ok (.putfield 192, 3) := by decide +kernel
theorem dX9_owed_108 : decode cX9_owed 108 = .ok (.aload_n 0, 1) := by decide +kernel
theorem dX9_owed_109 : decode cX9_owed 109 = .ok (.iconst 2, 1) := by decide +kernel
theorem dX9_owed_110 : decode cX9_owed 110 = .ok (.invokevirtual 89, 3) := by decide +kernel
theorem dX9_owed_113 : decode cX9_owed 113 = .ok (.ireturn, 1) := by decide +kernel
theorem dX9_owed_114 : decode cX9_owed 114 = .ok (.aload 5, 2) := by decide +kernel
theorem dX9_owed_116 : decode cX9_owed 116 = .ok (.getfield 259, 3) := by decide +kernel
theorem dX9_owed_119 : decode cX9_owed 119 = .ok (.aload 5, 2) := by decide +kernel
theorem dX9_owed_121 : decode cX9_owed 121 = .ok (.getfield 259, 3) := by decide +kernel
theorem dX9_owed_124 : decode cX9_owed 124 = .ok (.bipush 10, 2) := by decide +kernel
theorem dX9_owed_126 : decode cX9_owed 126 = .ok (.idiv, 1) := by decide +kernel
theorem dX9_owed_127 : decode cX9_owed 127 = .ok (.isub, 1) := by decide +kernel
theorem dX9_owed_128 : decode cX9_owed 128 = .ok (.istore 6, 2) := by decide +kernel
theorem dX9_owed_130 : decode cX9_owed 130 = .ok (.aload 5, 2) := by decide +kernel
theorem dX9_owed_132 : decode cX9_owed 132 = .ok (.iconst 1, 1) := by decide +kernel
theorem dX9_owed_133 : decode cX9_owed 133 = .ok (.putfield 262, 3) := by decide +kernel
theorem dX9_owed_136 : decode cX9_owed 136 = .ok (.aload_n 0, 1) := by decide +kernel
theorem dX9_owed_137 : decode cX9_owed 137 = .ok (.dup, 1) := by decide +kernel
theorem dX9_owed_138 : decode cX9_owed 138 = .ok (.getfield 76, 3) := by decide +kernel
theorem dX9_owed_141 : decode cX9_owed 141 = .ok (.iload 6, 2) := by decide +kernel
theorem dX9_owed_143 : decode cX9_owed 143 = .ok (.iadd, 1) := by decide +kernel
theorem dX9_owed_144 : decode cX9_owed 144 = .ok (.putfield 76, 3) := by decide +kernel
theorem dX9_owed_147 : decode cX9_owed 147 = .ok (.iload 6, 2) := by decide +kernel
theorem dX9_owed_149 : decode cX9_owed 149 = .ok (.ireturn, 1) := by decide +kernel
theorem dX9_lots_0 : decode cX9_lots 0 = .ok (.aload_n 0, 1) := by decide +kernel
theorem dX9_lots_1 : decode cX9_lots 1 = .ok (.iload_n 1, 1) := by decide +kernel
theorem dX9_lots_2 : decode cX9_lots 2 = .ok (.invokevirtual 246, 3) := by decide +kernel
theorem dX9_lots_5 : decode cX9_lots 5 = .ok (.ifCond .ne 28, 3) := by decide +kernel
theorem dX9_lots_8 : decode cX9_lots 8 = .ok (.iload_n 2, 1) := by decide +kernel
theorem dX9_lots_9 : decode cX9_lots 9 = .ok (.iconst 0, 1) := by decide +kernel
theorem dX9_lots_10 : decode cX9_lots 10 = .ok (.ldc 249, 2) := by decide +kernel
theorem dX9_lots_12 : decode cX9_lots 12 = .ok (.invokestatic 85, 3) := by decide +kernel
theorem dX9_lots_15 : decode cX9_lots 15 = .ok (.ifCond .eq 18, 3) := by decide +kernel
theorem dX9_lots_18 : decode cX9_lots 18 = .ok (.iload_n 3, 1) := by decide +kernel
theorem dX9_lots_19 : decode cX9_lots 19 = .ok (.iload_n 2, 1) := by decide +kernel
theorem dX9_lots_20 : decode cX9_lots 20 = .ok (.ldc 249, 2) := by decide +kernel
theorem dX9_lots_22 : decode cX9_lots 22 = .ok (.invokestatic 85, 3) := by decide +kernel
theorem dX9_lots_25 : decode cX9_lots 25 = .ok (.ifCond .eq 8, 3) := by decide +kernel
theorem dX9_lots_28 : decode cX9_lots 28 = .ok (.iload 4, 2) := by decide +kernel
theorem dX9_lots_30 : decode cX9_lots 30 = .ok (.ifCond .ge 9, 3) := by decide +kernel
theorem dX9_lots_33 : decode cX9_lots 33 = .ok (.aload_n 0, 1) := by decide +kernel
theorem dX9_lots_34 : decode cX9_lots 34 = .ok (.iconst 1, 1) := by decide +kernel
theorem dX9_lots_35 : decode cX9_lots 35 = .ok (.invokevirtual 89, 3) := by decide +kernel
theorem dX9_lots_38 : decode cX9_lots 38 = .ok (.ireturn, 1) := by decide +kernel
theorem dX9_lots_39 : decode cX9_lots 39 = .ok (.aload_n 0, 1) := by decide +kernel
theorem dX9_lots_40 : decode cX9_lots 40 = .ok (.iload_n 1, 1) := by decide +kernel
theorem dX9_lots_41 : decode cX9_lots 41 = .ok (.invokevirtual 250, 3) := by decide +kernel
theorem dX9_lots_44 : decode cX9_lots 44 = .ok (.aload_n 0, 1) := by decide +kernel
theorem dX9_lots_45 : decode cX9_lots 45 = .ok (.getfield 35, 3) := by decide +kernel
theorem dX9_lots_48 : decode cX9_lots 48 = .ok (.invokevirtual 266, 3) := by decide +kernel
theorem dX9_lots_51 : decode cX9_lots 51 = .ok (.ifCond .ne 22, 3) := by decide +kernel
theorem dX9_lots_54 : decode cX9_lots 54 = .ok (.aload_n 0, 1) := by decide +kernel
theorem dX9_lots_55 : decode cX9_lots 55 = .ok (.getfield 35, 3) := by decide +kernel
theorem dX9_lots_58 : decode cX9_lots 58 = .ok (.invokevirtual 93, 3) := by decide +kernel
theorem dX9_lots_61 : decode cX9_lots 61 = .ok (.bipush 10, 2) := by decide +kernel
theorem dX9_lots_63 : decode cX9_lots 63 = .ok (.if_icmp .gt 10, 3) := by decide +kernel
theorem dX9_lots_66 : decode cX9_lots 66 = .ok (.aload_n 0, 1) := by decide +kernel
theorem dX9_lots_67 : decode cX9_lots 67 = .ok (.invokevirtual 253, 3) := by decide +kernel
theorem dX9_lots_70 : decode cX9_lots 70 = .ok (.ifCond .ne 9, 3) := by decide +kernel
theorem dX9_lots_73 : decode cX9_lots 73 = .ok (.aload_n 0, 1) := by decide +kernel
theorem dX9_lots_74 : decode cX9_lots 74 = .ok (.iconst 3, 1) := by decide +kernel
theorem dX9_lots_75 : decode cX9_lots 75 = .ok (.invokevirtual 89, 3) := by decide +kernel
theorem dX9_lots_78 : decode cX9_lots 78 = .ok (.ireturn, 1) := by decide +kernel
theorem dX9_lots_79 : decode cX9_lots 79 = .ok (.aload_n 0, 1) := by decide +kernel
theorem dX9_lots_80 : decode cX9_lots 80 = .ok (.getfield 48, 3) := by decide +kernel
theorem dX9_lots_83 : decode cX9_lots 83 = .ok (.aload_n 0, 1) := by decide +kernel
theorem dX9_lots_84 : decode cX9_lots 84 = .ok (.getfield 35, 3) := by decide +kernel
theorem dX9_lots_87 : decode cX9_lots 87 = .ok (.iload_n 2, 1) := by decide +kernel
theorem dX9_lots_88 : decode cX9_lots 88 = .ok (.iload_n 3, 1) := by decide +kernel
theorem dX9_lots_89 : decode cX9_lots 89 = .ok (.invokevirtual 269, 3) := by decide +kernel
theorem dX9_lots_92 : decode cX9_lots 92 = .ok (.aload_n 0, 1) := by decide +kernel
theorem dX9_lots_93 : decode cX9_lots 93 = .ok (.getfield 48, 3) := by decide +kernel
theorem dX9_lots_96 : decode cX9_lots 96 = .ok (.invokevirtual 273, 3) := by decide +kernel
theorem dX9_lots_99 : decode cX9_lots 99 = .ok (.istore 5, 2) := by decide +kernel
theorem dX9_lots_101 : decode cX9_lots 101 = .ok (.iload 5, 2) := by decide +kernel
theorem dX9_lots_103 : decode cX9_lots 103 = .ok (.ifCond .eq 10, 3) := by decide +kernel
theorem dX9_lots_106 : decode cX9_lots 106 = .ok (.iload 4, 2) := by decide +kernel
theorem dX9_lots_108 : decode cX9_lots 108 = .ok (.iload 5, 2) := by decide +kernel
theorem dX9_lots_110 : decode cX9_lots 110 = .ok (.if_icmp .le 9, 3) := by decide +kernel
theorem dX9_lots_113 : decode cX9_lots 113 = .ok (.aload_n 0, 1) := by decide +kernel
theorem dX9_lots_114 : decode cX9_lots 114 = .ok (.iconst 2, 1) := by decide +kernel
theorem dX9_lots_115 : decode cX9_lots 115 = .ok (.invokevirtual 89, 3) := by decide +kernel
theorem dX9_lots_118 : decode cX9_lots 118 = .ok (.ireturn, 1) := by decide +kernel
theorem dX9_lots_119 : decode cX9_lots 119 = .ok (.iload 4, 2) := by decide +kernel
theorem dX9_lots_121 : decode cX9_lots 121 = .ok (.ifCond .ne 8, 3) := by decide +kernel
theorem dX9_lots_124 : decode cX9_lots 124 = .ok (.iload 5, 2) := by decide +kernel
theorem dX9_lots_126 : decode cX9_lots 126 = .ok (.goto 18, 3) := by decide +kernel
theorem dX9_lots_129 : decode cX9_lots 129 = .ok (.aload_n 0, 1) := by decide +kernel
theorem dX9_lots_130 : decode cX9_lots 130 = .ok (.getfield 48, 3) := by decide +kernel
theorem dX9_lots_133 : decode cX9_lots 133 = .ok (.iload 4, 2) := by decide +kernel
theorem dX9_lots_135 : decode cX9_lots 135 = .ok (.iconst 1, 1) := by decide +kernel
theorem dX9_lots_136 : decode cX9_lots 136 = .ok (.isub, 1) := by decide +kernel
theorem dX9_lots_137 : decode cX9_lots 137 = .ok (.invokevirtual 276, 3) := by decide +kernel
theorem dX9_lots_140 : decode cX9_lots 140 = .ok (.iload_n 1, 1) := by decide +kernel
theorem dX9_lots_141 : decode cX9_lots 141 = .ok (.invokestatic 279, 3) := by decide +kernel
theorem dX9_lots_144 : decode cX9_lots 144 = .ok (.ireturn, 1) := by decide +kernel
theorem dX9_sorted_0 : decode cX9_sorted 0 = .ok (.iload_n 1, 1) := by decide +kernel
theorem dX9_sorted_1 : decode cX9_sorted 1 = .ok (.iconst 0, 1) := by decide +kernel
theorem dX9_sorted_2 : decode cX9_sorted 2 = .ok (.iconst 5, 1) := by decide +kernel
theorem dX9_sorted_3 : decode cX9_sorted 3 = .ok (.invokestatic 85, 3) := by decide +kernel
theorem dX9_sorted_6 : decode cX9_sorted 6 = .ok (.ifCond .eq 12, 3) := by decide +kernel
theorem dX9_sorted_9 : decode cX9_sorted 9 = .ok (.iload_n 2, 1) := by decide +kernel
theorem dX9_sorted_10 : decode cX9_sorted 10 = .ok (.iconst 0, 1) := by decide +kernel
theorem dX9_sorted_11 : decode cX9_sorted 11 = .ok (.iconst 1, 1) := by decide +kernel
theorem dX9_sorted_12 : decode cX9_sorted 12 = .ok (.invokestatic 85, 3) := by decide +kernel
theorem dX9_sorted_15 : decode cX9_sorted 15 = .ok (.ifCond .ne 9, 3) := by decide +kernel
theorem dX9_sorted_18 : decode cX9_sorted 18 = .ok (.aload_n 0, 1) := by decide +kernel
theorem dX9_sorted_19 : decode cX9_sorted 19 = .ok (.iconst 1, 1) := by decide +kernel
theorem dX9_sorted_20 : decode cX9_sorted 20 = .ok (.invokevirtual 89, 3) := by decide +kernel
theorem dX9_sorted_23 : decode cX9_sorted 23 = .ok (.ireturn, 1) := by decide +kernel
theorem dX9_sorted_24 : decode cX9_sorted 24 = .ok (.aload_n 0, 1) := by decide +kernel
theorem dX9_sorted_25 : decode cX9_sorted 25 = .ok (.getfield 62, 3) := by decide +kernel
theorem dX9_sorted_28 : decode cX9_sorted 28 = .ok (.getfield 282, 3) := by decide +kernel
theorem dX9_sorted_31 : decode cX9_sorted 31 = .ok (.bipush 60, 2) := by decide +kernel
theorem dX9_sorted_33 : decode cX9_sorted 33 = .ok (.if_icmp .lt 9, 3) := by decide +kernel
theorem dX9_sorted_36 : decode cX9_sorted 36 = .ok (.aload_n 0, 1) := by decide +kernel
theorem dX9_sorted_37 : decode cX9_sorted 37 = .ok (.iconst 4, 1) := by decide +kernel
theorem dX9_sorted_38 : decode cX9_sorted 38 = .ok (.invokevirtual 89, 3) := by decide +kernel
theorem dX9_sorted_41 : decode cX9_sorted 41 = .ok (.ireturn, 1) := by decide +kernel
theorem dX9_sorted_42 : decode cX9_sorted 42 = .ok (.aload_n 0, 1) := by decide +kernel
theorem dX9_sorted_43 : decode cX9_sorted 43 = .ok (.getfield 62, 3) := by decide +kernel
theorem dX9_sorted_46 : decode cX9_sorted 46 = .ok (.iload_n 1, 1) := by decide +kernel
theorem dX9_sorted_47 : decode cX9_sorted 47 = .ok (.iload_n 2, 1) := by decide +kernel
theorem dX9_sorted_48 : decode cX9_sorted 48 = .ok (.invokevirtual 285, 3) := by decide +kernel
theorem dX9_sorted_51 : decode cX9_sorted 51 = .ok (.aload_n 0, 1) := by decide +kernel
theorem dX9_sorted_52 : decode cX9_sorted 52 = .ok (.getfield 62, 3) := by decide +kernel
theorem dX9_sorted_55 : decode cX9_sorted 55 = .ok (.getfield 282, 3) := by decide +kernel
theorem dX9_sorted_58 : decode cX9_sorted 58 = .ok (.ireturn, 1) := by decide +kernel
theorem dX9_sorter_0 : decode cX9_sorter 0 = .ok (.iload_n 1, 1) := by decide +kernel
theorem dX9_sorter_1 : decode cX9_sorter 1 = .ok (.iconst 0, 1) := by decide +kernel
theorem dX9_sorter_2 : decode cX9_sorter 2 = .ok (.iconst 5, 1) := by decide +kernel
theorem dX9_sorter_3 : decode cX9_sorter 3 = .ok (.invokestatic 85, 3) := by decide +kernel
theorem dX9_sorter_6 : decode cX9_sorter 6 = .ok (.ifCond .eq 12, 3) := by decide +kernel
theorem dX9_sorter_9 : decode cX9_sorter 9 = .ok (.iload_n 2, 1) := by decide +kernel
theorem dX9_sorter_10 : decode cX9_sorter 10 = .ok (.iconst 0, 1) := by decide +kernel
theorem dX9_sorter_11 : decode cX9_sorter 11 = .ok (.iconst 2, 1) := by decide +kernel
theorem dX9_sorter_12 : decode cX9_sorter 12 = .ok (.invokestatic 85, 3) := by decide +kernel
theorem dX9_sorter_15 : decode cX9_sorter 15 = .ok (.ifCond .ne 9, 3) := by decide +kernel
theorem dX9_sorter_18 : decode cX9_sorter 18 = .ok (.aload_n 0, 1) := by decide +kernel
theorem dX9_sorter_19 : decode cX9_sorter 19 = .ok (.iconst 1, 1) := by decide +kernel
theorem dX9_sorter_20 : decode cX9_sorter 20 = .ok (.invokevirtual 89, 3) := by decide +kernel
theorem dX9_sorter_23 : decode cX9_sorter 23 = .ok (.ireturn, 1) := by decide +kernel
theorem dX9_sorter_24 : decode cX9_sorter 24 = .ok (.iload_n 2, 1) := by decide +kernel
theorem dX9_sorter_25 : decode cX9_sorter 25 = .ok (.lookupswitch 47 #[(0, 27), (1, 37)], 27) := by decide +kernel
theorem dX9_sorter_52 : decode cX9_sorter 52 = .ok (.aload_n 0, 1) := by decide +kernel
theorem dX9_sorter_53 : decode cX9_sorter 53 = .ok (.getfield 62, 3) := by decide +kernel
theorem dX9_sorter_56 : decode cX9_sorter 56 = .ok (.getfield 287, 3) := by decide +kernel
theorem dX9_sorter_59 : decode cX9_sorter 59 = .ok (.iload_n 1, 1) := by decide +kernel
theorem dX9_sorter_60 : decode cX9_sorter 60 = .ok (.iaload, 1) := by decide +kernel
theorem dX9_sorter_61 : decode cX9_sorter 61 = .ok (.ireturn, 1) := by decide +kernel
theorem dX9_sorter_62 : decode cX9_sorter 62 = .ok (.aload_n 0, 1) := by decide +kernel
theorem dX9_sorter_63 : decode cX9_sorter 63 = .ok (.getfield 62, 3) := by decide +kernel
theorem dX9_sorter_66 : decode cX9_sorter 66 = .ok (.getfield 290, 3) := by decide +kernel
theorem dX9_sorter_69 : decode cX9_sorter 69 = .ok (.iload_n 1, 1) := by decide +kernel
theorem dX9_sorter_70 : decode cX9_sorter 70 = .ok (.iaload, 1) := by decide +kernel
theorem dX9_sorter_71 : decode cX9_sorter 71 = .ok (.ireturn, 1) := by decide +kernel
theorem dX9_sorter_72 : decode cX9_sorter 72 = .ok (.aload_n 0, 1) := by decide +kernel
theorem dX9_sorter_73 : decode cX9_sorter 73 = .ok (.getfield 62, 3) := by decide +kernel
theorem dX9_sorter_76 : decode cX9_sorter 76 = .ok (.iload_n 1, 1) := by decide +kernel
theorem dX9_sorter_77 : decode cX9_sorter 77 = .ok (.invokevirtual 293, 3) := by decide +kernel
theorem dX9_sorter_80 : decode cX9_sorter 80 = .ok (.ifCond .eq 7, 3) := by decide +kernel
theorem dX9_sorter_83 : decode cX9_sorter 83 = .ok (.iconst 1, 1) := by decide +kernel
theorem dX9_sorter_84 : decode cX9_sorter 84 = .ok (.goto 4, 3) := by decide +kernel
theorem dX9_sorter_87 : decode cX9_sorter 87 = .ok (.iconst 0, 1) := by decide +kernel
theorem dX9_sorter_88 : decode cX9_sorter 88 = .ok (.ireturn, 1) := by decide +kernel
theorem dX9_money_0 : decode cX9_money 0 = .ok (.aload_n 0, 1) := by decide +kernel
theorem dX9_money_1 : decode cX9_money 1 = .ok (.iload_n 1, 1) := by decide +kernel
theorem dX9_money_2 : decode cX9_money 2 = .ok (.invokevirtual 119, 3) := by decide +kernel
theorem dX9_money_5 : decode cX9_money 5 = .ok (.astore 4, 2) := by decide +kernel
theorem dX9_money_7 : decode cX9_money 7 = .ok (.aload 4, 2) := by decide +kernel
theorem dX9_money_9 : decode cX9_money 9 = .ok (.ifnull 22, 3) := by decide +kernel
theorem dX9_money_12 : decode cX9_money 12 = .ok (.iload_n 2, 1) := by decide +kernel
theorem dX9_money_13 : decode cX9_money 13 = .ok (.iconst 0, 1) := by decide +kernel
theorem dX9_money_14 : decode cX9_money 14 = .ok (.iconst 3, 1) := by decide +kernel
theorem dX9_money_15 : decode cX9_money 15 = .ok (.invokestatic 85, 3) := by decide +kernel
theorem dX9_money_18 : decode cX9_money 18 = .ok (.ifCond .eq 13, 3) := by decide +kernel
theorem dX9_money_21 : decode cX9_money 21 = .ok (.iload_n 3, 1) := by decide +kernel
theorem dX9_money_22 : decode cX9_money 22 = .ok (.iconst 0, 1) := by decide +kernel
theorem dX9_money_23 : decode cX9_money 23 = .ok (.ldc 249, 2) := by decide +kernel
theorem dX9_money_25 : decode cX9_money 25 = .ok (.invokestatic 85, 3) := by decide +kernel
theorem dX9_money_28 : decode cX9_money 28 = .ok (.ifCond .ne 9, 3) := by decide +kernel
theorem dX9_money_31 : decode cX9_money 31 = .ok (.aload_n 0, 1) := by decide +kernel
theorem dX9_money_32 : decode cX9_money 32 = .ok (.iconst 1, 1) := by decide +kernel
theorem dX9_money_33 : decode cX9_money 33 = .ok (.invokevirtual 89, 3) := by decide +kernel
theorem dX9_money_36 : decode cX9_money 36 = .ok (.ireturn, 1) := by decide +kernel
theorem dX9_money_37 : decode cX9_money 37 = .ok (.aload 4, 2) := by decide +kernel
theorem dX9_money_39 : decode cX9_money 39 = .ok (.instanceof 97, 3) := by decide +kernel
theorem dX9_money_42 : decode cX9_money 42 = .ok (.ifCond .eq 13, 3) := by decide +kernel
theorem dX9_money_45 : decode cX9_money 45 = .ok (.aload 4, 2) := by decide +kernel
theorem dX9_money_47 : decode cX9_money 47 = .ok (.checkcast 97, 3) := by decide +kernel
theorem dX9_money_50 : decode cX9_money 50 = .ok (.astore 5, 2) := by decide +kernel
theorem dX9_money_52 : decode cX9_money 52 = .ok (.goto 9, 3) := by decide +kernel
theorem dX9_money_55 : decode cX9_money 55 = .ok (.aload_n 0, 1) := by decide +kernel
theorem dX9_money_56 : decode cX9_money 56 = .ok (.iconst 5, 1) := by decide +kernel
theorem dX9_money_57 : decode cX9_money 57 = .ok (.invokevirtual 89, 3) := by decide +kernel
theorem dX9_money_60 : decode cX9_money 60 = .ok (.ireturn, 1) := by decide +kernel
theorem dX9_money_61 : decode cX9_money 61 = .ok (.aload 5, 2) := by decide +kernel
theorem dX9_money_63 : decode cX9_money 63 = .ok (.getfield 296, 3) := by decide +kernel
theorem dX9_money_66 : decode cX9_money 66 = .ok (.ifCond .eq 9, 3) := by decide +kernel
theorem dX9_money_69 : decode cX9_money 69 = .ok (.aload_n 0, 1) := by decide +kernel
theorem dX9_money_70 : decode cX9_money 70 = .ok (.iconst 3, 1) := by decide +kernel
theorem dX9_money_71 : decode cX9_money 71 = .ok (.invokevirtual 89, 3) := by decide +kernel
theorem dX9_money_74 : decode cX9_money 74 = .ok (.ireturn, 1) := by decide +kernel
theorem dX9_money_75 : decode cX9_money 75 = .ok (.aload 5, 2) := by decide +kernel
theorem dX9_money_77 : decode cX9_money 77 = .ok (.getfield 297, 3) := by decide +kernel
theorem dX9_money_80 : decode cX9_money 80 = .ok (.iload_n 2, 1) := by decide +kernel
theorem dX9_money_81 : decode cX9_money 81 = .ok (.iload_n 3, 1) := by decide +kernel
theorem dX9_money_82 : decode cX9_money 82 = .ok (.iastore, 1) := by decide +kernel
theorem dX9_money_83 : decode cX9_money 83 = .ok (.aload 5, 2) := by decide +kernel
theorem dX9_money_85 : decode cX9_money 85 = .ok (.invokevirtual 300, 3) := by decide +kernel
theorem dX9_money_88 : decode cX9_money 88 = .ok (.ireturn, 1) := by decide +kernel
theorem dX9_counted_0 : decode cX9_counted 0 = .ok (.aload_n 0, 1) := by decide +kernel
theorem dX9_counted_1 : decode cX9_counted 1 = .ok (.iload_n 1, 1) := by decide +kernel
theorem dX9_counted_2 : decode cX9_counted 2 = .ok (.invokevirtual 119, 3) := by decide +kernel
theorem dX9_counted_5 : decode cX9_counted 5 = .ok (.astore_n 2, 1) := by decide +kernel
theorem dX9_counted_6 : decode cX9_counted 6 = .ok (.aload_n 2, 1) := by decide +kernel
theorem dX9_counted_7 : decode cX9_counted 7 = .ok (.ifnonnull 9, 3) := by decide +kernel
theorem dX9_counted_10 : decode cX9_counted 10 = .ok (.aload_n 0, 1) := by decide +kernel
theorem dX9_counted_11 : decode cX9_counted 11 = .ok (.iconst 1, 1) := by decide +kernel
theorem dX9_counted_12 : decode cX9_counted 12 = .ok (.invokevirtual 89, 3) := by decide +kernel
theorem dX9_counted_15 : decode cX9_counted 15 = .ok (.ireturn, 1) := by decide +kernel
theorem dX9_counted_16 : decode cX9_counted 16 = .ok (.aload_n 2, 1) := by decide +kernel
theorem dX9_counted_17 : decode cX9_counted 17 = .ok (.instanceof 97, 3) := by decide +kernel
theorem dX9_counted_20 : decode cX9_counted 20 = .ok (.ifCond .eq 11, 3) := by decide +kernel
theorem dX9_counted_23 : decode cX9_counted 23 = .ok (.aload_n 2, 1) := by decide +kernel
theorem dX9_counted_24 : decode cX9_counted 24 = .ok (.checkcast 97, 3) := by decide +kernel
theorem dX9_counted_27 : decode cX9_counted 27 = .ok (.astore_n 3, 1) := by decide +kernel
theorem dX9_counted_28 : decode cX9_counted 28 = .ok (.goto 9, 3) := by decide +kernel
theorem dX9_counted_31 : decode cX9_counted 31 = .ok (.aload_n 0, 1) := by decide +kernel
theorem dX9_counted_32 : decode cX9_counted 32 = .ok (.iconst 5, 1) := by decide +kernel
theorem dX9_counted_33 : decode cX9_counted 33 = .ok (.invokevirtual 89, 3) := by decide +kernel
theorem dX9_counted_36 : decode cX9_counted 36 = .ok (.ireturn, 1) := by decide +kernel
theorem dX9_counted_37 : decode cX9_counted 37 = .ok (.aload_n 3, 1) := by decide +kernel
theorem dX9_counted_38 : decode cX9_counted 38 = .ok (.invokevirtual 303, 3) := by decide +kernel
theorem dX9_counted_41 : decode cX9_counted 41 = .ok (.istore 4, 2) := by decide +kernel
theorem dX9_counted_43 : decode cX9_counted 43 = .ok (.iload 4, 2) := by decide +kernel
theorem dX9_counted_45 : decode cX9_counted 45 = .ok (.iconst (-1), 1) := by decide +kernel
theorem dX9_counted_46 : decode cX9_counted 46 = .ok (.if_icmp .ne 11, 3) := by decide +kernel
theorem dX9_counted_49 : decode cX9_counted 49 = .ok (.aload_n 0, 1) := by decide +kernel
theorem dX9_counted_50 : decode cX9_counted 50 = .ok (.iconst 2, 1) := by decide +kernel
theorem dX9_counted_51 : decode cX9_counted 51 = .ok (.invokevirtual 89, 3) := by decide +kernel
theorem dX9_counted_54 : decode cX9_counted 54 = .ok (.goto 5, 3) := by decide +kernel
theorem dX9_counted_57 : decode cX9_counted 57 = .ok (.iload 4, 2) := by decide +kernel
theorem dX9_counted_59 : decode cX9_counted 59 = .ok (.ireturn, 1) := by decide +kernel
theorem dX9_burst_0 : decode cX9_burst 0 = .ok (.aload_n 0, 1) := by decide +kernel
theorem dX9_burst_1 : decode cX9_burst 1 = .ok (.iload_n 1, 1) := by decide +kernel
theorem dX9_burst_2 : decode cX9_burst 2 = .ok (.invokevirtual 246, 3) := by decide +kernel
theorem dX9_burst_5 : decode cX9_burst 5 = .ok (.ifCond .ne 24, 3) := by decide +kernel
theorem dX9_burst_8 : decode cX9_burst 8 = .ok (.iload_n 2, 1) := by decide +kernel
theorem dX9_burst_9 : decode cX9_burst 9 = .ok (.iconst 1, 1) := by decide +kernel
theorem dX9_burst_10 : decode cX9_burst 10 = .ok (.ldc 249, 2) := by decide +kernel
theorem dX9_burst_12 : decode cX9_burst 12 = .ok (.invokestatic 85, 3) := by decide +kernel
theorem dX9_burst_15 : decode cX9_burst 15 = .ok (.ifCond .eq 14, 3) := by decide +kernel
theorem dX9_burst_18 : decode cX9_burst 18 = .ok (.iload_n 3, 1) := by decide +kernel
theorem dX9_burst_19 : decode cX9_burst 19 = .ok (.iconst 0, 1) := by decide +kernel
theorem dX9_burst_20 : decode cX9_burst 20 = .ok (.sipush 1000, 3) := by decide +kernel
theorem dX9_burst_23 : decode cX9_burst 23 = .ok (.invokestatic 85, 3) := by decide +kernel
theorem dX9_burst_26 : decode cX9_burst 26 = .ok (.ifCond .ne 9, 3) := by decide +kernel
theorem dX9_burst_29 : decode cX9_burst 29 = .ok (.aload_n 0, 1) := by decide +kernel
theorem dX9_burst_30 : decode cX9_burst 30 = .ok (.iconst 1, 1) := by decide +kernel
theorem dX9_burst_31 : decode cX9_burst 31 = .ok (.invokevirtual 89, 3) := by decide +kernel
theorem dX9_burst_34 : decode cX9_burst 34 = .ok (.ireturn, 1) := by decide +kernel
theorem dX9_burst_35 : decode cX9_burst 35 = .ok (.aload_n 0, 1) := by decide +kernel
theorem dX9_burst_36 : decode cX9_burst 36 = .ok (.iload_n 1, 1) := by decide +kernel
theorem dX9_burst_37 : decode cX9_burst 37 = .ok (.invokevirtual 250, 3) := by decide +kernel
theorem dX9_burst_40 : decode cX9_burst 40 = .ok (.aload_n 0, 1) := by decide +kernel
theorem dX9_burst_41 : decode cX9_burst 41 = .ok (.getfield 35, 3) := by decide +kernel
theorem dX9_burst_44 : decode cX9_burst 44 = .ok (.invokevirtual 93, 3) := by decide +kernel
theorem dX9_burst_47 : decode cX9_burst 47 = .ok (.bipush 14, 2) := by decide +kernel
theorem dX9_burst_49 : decode cX9_burst 49 = .ok (.if_icmp .gt 10, 3) := by decide +kernel
theorem dX9_burst_52 : decode cX9_burst 52 = .ok (.aload_n 0, 1) := by decide +kernel
theorem dX9_burst_53 : decode cX9_burst 53 = .ok (.invokevirtual 306, 3) := by decide +kernel
theorem dX9_burst_56 : decode cX9_burst 56 = .ok (.ifCond .ne 9, 3) := by decide +kernel
theorem dX9_burst_59 : decode cX9_burst 59 = .ok (.aload_n 0, 1) := by decide +kernel
theorem dX9_burst_60 : decode cX9_burst 60 = .ok (.iconst 3, 1) := by decide +kernel
theorem dX9_burst_61 : decode cX9_burst 61 = .ok (.invokevirtual 89, 3) := by decide +kernel
theorem dX9_burst_64 : decode cX9_burst 64 = .ok (.ireturn, 1) := by decide +kernel
theorem dX9_burst_65 : decode cX9_burst 65 = .ok (.aload_n 0, 1) := by decide +kernel
theorem dX9_burst_66 : decode cX9_burst 66 = .ok (.getfield 55, 3) := by decide +kernel
theorem dX9_burst_69 : decode cX9_burst 69 = .ok (.aload_n 0, 1) := by decide +kernel
theorem dX9_burst_70 : decode cX9_burst 70 = .ok (.getfield 35, 3) := by decide +kernel
theorem dX9_burst_73 : decode cX9_burst 73 = .ok (.iload_n 2, 1) := by decide +kernel
theorem dX9_burst_74 : decode cX9_burst 74 = .ok (.iload_n 3, 1) := by decide +kernel
theorem dX9_burst_75 : decode cX9_burst 75 = .ok (.invokevirtual 309, 3) := by decide +kernel
theorem dX9_burst_78 : decode cX9_burst 78 = .ok (.istore 4, 2) := by decide +kernel
theorem dX9_burst_80 : decode cX9_burst 80 = .ok (.iload 4, 2) := by decide +kernel
theorem dX9_burst_82 : decode cX9_burst 82 = .ok (.ifCond .ne 11, 3) := by decide +kernel
theorem dX9_burst_85 : decode cX9_burst 85 = .ok (.aload_n 0, 1) := by decide +kernel
theorem dX9_burst_86 : decode cX9_burst 86 = .ok (.iconst 2, 1) := by decide +kernel
theorem dX9_burst_87 : decode cX9_burst 87 = .ok (.invokevirtual 89, 3) := by decide +kernel
theorem dX9_burst_90 : decode cX9_burst 90 = .ok (.goto 9, 3) := by decide +kernel
theorem dX9_burst_93 : decode cX9_burst 93 = .ok (.iload 4, 2) := by decide +kernel
theorem dX9_burst_95 : decode cX9_burst 95 = .ok (.iload_n 1, 1) := by decide +kernel
theorem dX9_burst_96 : decode cX9_burst 96 = .ok (.invokestatic 279, 3) := by decide +kernel
theorem dX9_burst_99 : decode cX9_burst 99 = .ok (.ireturn, 1) := by decide +kernel
theorem dX9_tell_0 : decode cX9_tell 0 = .ok (.aload_n 0, 1) := by decide +kernel
theorem dX9_tell_1 : decode cX9_tell 1 = .ok (.getfield 66, 3) := by decide +kernel
theorem dX9_tell_4 : decode cX9_tell 4 = .ok (.bipush 20, 2) := by decide +kernel
theorem dX9_tell_6 : decode cX9_tell 6 = .ok (.if_icmp .lt 9, 3) := by decide +kernel
theorem dX9_tell_9 : decode cX9_tell 9 = .ok (.aload_n 0, 1) := by decide +kernel
theorem dX9_tell_10 : decode cX9_tell 10 = .ok (.iconst 4, 1) := by decide +kernel
theorem dX9_tell_11 : decode cX9_tell 11 = .ok (.invokevirtual 89, 3) := by decide +kernel
theorem dX9_tell_14 : decode cX9_tell 14 = .ok (.ireturn, 1) := by decide +kernel
theorem dX9_tell_15 : decode cX9_tell 15 = .ok (.aload_n 0, 1) := by decide +kernel
theorem dX9_tell_16 : decode cX9_tell 16 = .ok (.getfield 32, 3) := by decide +kernel
theorem dX9_tell_19 : decode cX9_tell 19 = .ok (.aload_n 0, 1) := by decide +kernel
theorem dX9_tell_20 : decode cX9_tell 20 = .ok (.getfield 66, 3) := by decide +kernel
theorem dX9_tell_23 : decode cX9_tell 23 = .ok (.iload_n 1, 1) := by decide +kernel
theorem dX9_tell_24 : decode cX9_tell 24 = .ok (.iastore, 1) := by decide +kernel
theorem dX9_tell_25 : decode cX9_tell 25 = .ok (.aload_n 0, 1) := by decide +kernel
theorem dX9_tell_26 : decode cX9_tell 26 = .ok (.dup, 1) := by decide +kernel
theorem dX9_tell_27 : decode cX9_tell 27 = .ok (.getfield 66, 3) := by decide +kernel
theorem dX9_tell_30 : decode cX9_tell 30 = .ok (.iconst 1, 1) := by decide +kernel
theorem dX9_tell_31 : decode cX9_tell 31 = .ok (.iadd, 1) := by decide +kernel
theorem dX9_tell_32 : decode cX9_tell 32 = .ok (.putfield 66, 3) := by decide +kernel
theorem dX9_tell_35 : decode cX9_tell 35 = .ok (.aload_n 0, 1) := by decide +kernel
theorem dX9_tell_36 : decode cX9_tell 36 = .ok (.getfield 66, 3) := by decide +kernel
theorem dX9_tell_39 : decode cX9_tell 39 = .ok (.ireturn, 1) := by decide +kernel
theorem dX9_check_0 : decode cX9_check 0 = .ok (.aload_n 0, 1) := by decide +kernel
theorem dX9_check_1 : decode cX9_check 1 = .ok (.invokevirtual 177, 3) := by decide +kernel
theorem dX9_check_4 : decode cX9_check 4 = .ok (.lstore_n 1, 1) := by decide +kernel
theorem dX9_check_5 : decode cX9_check 5 = .ok (.aload_n 0, 1) := by decide +kernel
theorem dX9_check_6 : decode cX9_check 6 = .ok (.getfield 66, 3) := by decide +kernel
theorem dX9_check_9 : decode cX9_check 9 = .ok (.istore_n 3, 1) := by decide +kernel
theorem dX9_check_10 : decode cX9_check 10 = .ok (.aload_n 0, 1) := by decide +kernel
theorem dX9_check_11 : decode cX9_check 11 = .ok (.iconst 0, 1) := by decide +kernel
theorem dX9_check_12 : decode cX9_check 12 = .ok (.putfield 66, 3) := by decide +kernel
theorem dX9_check_15 : decode cX9_check 15 = .ok (.iconst 0, 1) := by decide +kernel
theorem dX9_check_16 : decode cX9_check 16 = .ok (.istore 4, 2) := by decide +kernel
theorem dX9_check_18 : decode cX9_check 18 = .ok (.iload 4, 2) := by decide +kernel
theorem dX9_check_20 : decode cX9_check 20 = .ok (.iload_n 3, 1) := by decide +kernel
theorem dX9_check_21 : decode cX9_check 21 = .ok (.if_icmp .ge 42, 3) := by decide +kernel
theorem dX9_check_24 : decode cX9_check 24 = .ok (.iload 4, 2) := by decide +kernel
theorem dX9_check_26 : decode cX9_check 26 = .ok (.aload_n 0, 1) := by decide +kernel
theorem dX9_check_27 : decode cX9_check 27 = .ok (.getfield 16, 3) := by decide +kernel
theorem dX9_check_30 : decode cX9_check 30 = .ok (.invokevirtual 93, 3) := by decide +kernel
theorem dX9_check_33 : decode cX9_check 33 = .ok (.if_icmp .ge 19, 3) := by decide +kernel
theorem dX9_check_36 : decode cX9_check 36 = .ok (.aload_n 0, 1) := by decide +kernel
theorem dX9_check_37 : decode cX9_check 37 = .ok (.getfield 32, 3) := by decide +kernel
theorem dX9_check_40 : decode cX9_check 40 = .ok (.iload 4, 2) := by decide +kernel
theorem dX9_check_42 : decode cX9_check 42 = .ok (.iaload, 1) := by decide +kernel
theorem dX9_check_43 : decode cX9_check 43 = .ok (.lload_n 1, 1) := by decide +kernel
theorem dX9_check_44 : decode cX9_check 44 = .ok (.iload 4, 2) := by decide +kernel
theorem dX9_check_46 : decode cX9_check 46 = .ok (.invokestatic 185, 3) := by decide +kernel
theorem dX9_check_49 : decode cX9_check 49 = .ok (.if_icmp .eq 8, 3) := by decide +kernel
theorem dX9_check_52 : decode cX9_check 52 = .ok (.iconst 1, 1) := by decide +kernel
theorem dX9_check_53 : decode cX9_check 53 = .ok (.iload 4, 2) := by decide +kernel
theorem dX9_check_55 : decode cX9_check 55 = .ok (.iadd, 1) := by decide +kernel
theorem dX9_check_56 : decode cX9_check 56 = .ok (.ireturn, 1) := by decide +kernel
theorem dX9_check_57 : decode cX9_check 57 = .ok (.iinc 4 1, 3) := by decide +kernel
theorem dX9_check_60 : decode cX9_check 60 = .ok (.goto (-42), 3) := by decide +kernel
theorem dX9_check_63 : decode cX9_check 63 = .ok (.iconst 0, 1) := by decide +kernel
theorem dX9_check_64 : decode cX9_check 64 = .ok (.ireturn, 1) := by decide +kernel
theorem dX9_count_0 : decode cX9_count 0 = .ok (.iload_n 1, 1) := by decide +kernel
theorem dX9_count_1 : decode cX9_count 1 = .ok (.tableswitch 130 0 10 #[59, 67, 73, 79, 85, 91, 99, 107, 112, 120, 125], 59) := by decide +kernel
theorem dX9_count_60 : decode cX9_count 60 = .ok (.aload_n 0, 1) := by decide +kernel
theorem dX9_count_61 : decode cX9_count 61 = .ok (.getfield 10, 3) := by decide +kernel
theorem dX9_count_64 : decode cX9_count 64 = .ok (.invokevirtual 93, 3) := by decide +kernel
theorem dX9_count_67 : decode cX9_count 67 = .ok (.ireturn, 1) := by decide +kernel
theorem dX9_count_68 : decode cX9_count 68 = .ok (.aload_n 0, 1) := by decide +kernel
theorem dX9_count_69 : decode cX9_count 69 = .ok (.iconst 0, 1) := by decide +kernel
theorem dX9_count_70 : decode cX9_count 70 = .ok (.invokevirtual 313, 3) := by decide +kernel
theorem dX9_count_73 : decode cX9_count 73 = .ok (.ireturn, 1) := by decide +kernel
theorem dX9_count_74 : decode cX9_count 74 = .ok (.aload_n 0, 1) := by decide +kernel
theorem dX9_count_75 : decode cX9_count 75 = .ok (.iconst 1, 1) := by decide +kernel
theorem dX9_count_76 : decode cX9_count 76 = .ok (.invokevirtual 313, 3) := by decide +kernel
theorem dX9_count_79 : decode cX9_count 79 = .ok (.ireturn, 1) := by decide +kernel
theorem dX9_count_80 : decode cX9_count 80 = .ok (.aload_n 0, 1) := by decide +kernel
theorem dX9_count_81 : decode cX9_count 81 = .ok (.iconst 2, 1) := by decide +kernel
theorem dX9_count_82 : decode cX9_count 82 = .ok (.invokevirtual 313, 3) := by decide +kernel
theorem dX9_count_85 : decode cX9_count 85 = .ok (.ireturn, 1) := by decide +kernel
theorem dX9_count_86 : decode cX9_count 86 = .ok (.aload_n 0, 1) := by decide +kernel
theorem dX9_count_87 : decode cX9_count 87 = .ok (.iconst 3, 1) := by decide +kernel
theorem dX9_count_88 : decode cX9_count 88 = .ok (.invokevirtual 313, 3) := by decide +kernel
theorem dX9_count_91 : decode cX9_count 91 = .ok (.ireturn, 1) := by decide +kernel
theorem dX9_count_92 : decode cX9_count 92 = .ok (.aload_n 0, 1) := by decide +kernel
theorem dX9_count_93 : decode cX9_count 93 = .ok (.getfield 16, 3) := by decide +kernel
theorem dX9_count_96 : decode cX9_count 96 = .ok (.invokevirtual 93, 3) := by decide +kernel
theorem dX9_count_99 : decode cX9_count 99 = .ok (.ireturn, 1) := by decide +kernel
theorem dX9_count_100 : decode cX9_count 100 = .ok (.aload_n 0, 1) := by decide +kernel
theorem dX9_count_101 : decode cX9_count 101 = .ok (.getfield 19, 3) := by decide +kernel
theorem dX9_count_104 : decode cX9_count 104 = .ok (.invokevirtual 93, 3) := by decide +kernel
theorem dX9_count_107 : decode cX9_count 107 = .ok (.ireturn, 1) := by decide +kernel
theorem dX9_count_108 : decode cX9_count 108 = .ok (.aload_n 0, 1) := by decide +kernel
theorem dX9_count_109 : decode cX9_count 109 = .ok (.getfield 70, 3) := by decide +kernel
theorem dX9_count_112 : decode cX9_count 112 = .ok (.ireturn, 1) := by decide +kernel
theorem dX9_count_113 : decode cX9_count 113 = .ok (.aload_n 0, 1) := by decide +kernel
theorem dX9_count_114 : decode cX9_count 114 = .ok (.getfield 62, 3) := by decide +kernel
theorem dX9_count_117 : decode cX9_count 117 = .ok (.getfield 282, 3) := by decide +kernel
theorem dX9_count_120 : decode cX9_count 120 = .ok (.ireturn, 1) := by decide +kernel
theorem dX9_count_121 : decode cX9_count 121 = .ok (.aload_n 0, 1) := by decide +kernel
theorem dX9_count_122 : decode cX9_count 122 = .ok (.getfield 66, 3) := by decide +kernel
theorem dX9_count_125 : decode cX9_count 125 = .ok (.ireturn, 1) := by decide +kernel
theorem dX9_count_126 : decode cX9_count 126 = .ok (.aload_n 0, 1) := by decide +kernel
theorem dX9_count_127 : decode cX9_count 127 = .ok (.getfield 76, 3) := by decide +kernel
theorem dX9_count_130 : decode cX9_count 130 = .ok (.ireturn, 1) := by decide +kernel
theorem dX9_count_131 : decode cX9_count 131 = .ok (.aload_n 0, 1) := by decide +kernel
theorem dX9_count_132 : decode cX9_count 132 = .ok (.iconst 1, 1) := by decide +kernel
theorem dX9_count_133 : decode cX9_count 133 = .ok (.invokevirtual 89, 3) := by decide +kernel
theorem dX9_count_136 : decode cX9_count 136 = .ok (.ireturn, 1) := by decide +kernel
theorem dX9_found_0 : decode cX9_found 0 = .ok (.iload_n 1, 1) := by decide +kernel
theorem dX9_found_1 : decode cX9_found 1 = .ok (.iconst 1, 1) := by decide +kernel
theorem dX9_found_2 : decode cX9_found 2 = .ok (.iconst 5, 1) := by decide +kernel
theorem dX9_found_3 : decode cX9_found 3 = .ok (.invokestatic 85, 3) := by decide +kernel
theorem dX9_found_6 : decode cX9_found 6 = .ok (.ifCond .eq 12, 3) := by decide +kernel
theorem dX9_found_9 : decode cX9_found 9 = .ok (.aload_n 0, 1) := by decide +kernel
theorem dX9_found_10 : decode cX9_found 10 = .ok (.getfield 29, 3) := by decide +kernel
theorem dX9_found_13 : decode cX9_found 13 = .ok (.iload_n 1, 1) := by decide +kernel
theorem dX9_found_14 : decode cX9_found 14 = .ok (.iaload, 1) := by decide +kernel
theorem dX9_found_15 : decode cX9_found 15 = .ok (.goto 8, 3) := by decide +kernel
theorem dX9_found_18 : decode cX9_found 18 = .ok (.aload_n 0, 1) := by decide +kernel
theorem dX9_found_19 : decode cX9_found 19 = .ok (.iconst 1, 1) := by decide +kernel
theorem dX9_found_20 : decode cX9_found 20 = .ok (.invokevirtual 89, 3) := by decide +kernel
theorem dX9_found_23 : decode cX9_found 23 = .ok (.ireturn, 1) := by decide +kernel
theorem dX9_finding_0 : decode cX9_finding 0 = .ok (.aload_n 0, 1) := by decide +kernel
theorem dX9_finding_1 : decode cX9_finding 1 = .ok (.getfield 29, 3) := by decide +kernel
theorem dX9_finding_4 : decode cX9_finding 4 = .ok (.iload_n 1, 1) := by decide +kernel
theorem dX9_finding_5 : decode cX9_finding 5 = .ok (.dup2, 1) := by decide +kernel
theorem dX9_finding_6 : decode cX9_finding 6 = .ok (.iaload, 1) := by decide +kernel
theorem dX9_finding_7 : decode cX9_finding 7 = .ok (.iconst 1, 1) := by decide +kernel
theorem dX9_finding_8 : decode cX9_finding 8 = .ok (.iadd, 1) := by decide +kernel
theorem dX9_finding_9 : decode cX9_finding 9 = .ok (.iastore, 1) := by decide +kernel
theorem dX9_finding_10 : decode cX9_finding 10 = .ok (.ldc_w 316, 3) := by decide +kernel
theorem dX9_finding_13 : decode cX9_finding 13 = .ok (.iload_n 1, 1) := by decide +kernel
theorem dX9_finding_14 : decode cX9_finding 14 = .ok (.isub, 1) := by decide +kernel
theorem dX9_finding_15 : decode cX9_finding 15 = .ok (.ireturn, 1) := by decide +kernel
theorem dX9_within_0 : decode cX9_within 0 = .ok (.iload_n 0, 1) := by decide +kernel
theorem dX9_within_1 : decode cX9_within 1 = .ok (.iload_n 1, 1) := by decide +kernel
theorem dX9_within_2 : decode cX9_within 2 = .ok (.if_icmp .lt 12, 3) := by decide +kernel
theorem dX9_within_5 : decode cX9_within 5 = .ok (.iload_n 0, 1) := by decide +kernel
theorem dX9_within_6 : decode cX9_within 6 = .ok (.iload_n 2, 1) := by decide +kernel
theorem dX9_within_7 : decode cX9_within 7 = .ok (.if_icmp .gt 7, 3) := by decide +kernel
theorem dX9_within_10 : decode cX9_within 10 = .ok (.iconst 1, 1) := by decide +kernel
theorem dX9_within_11 : decode cX9_within 11 = .ok (.goto 4, 3) := by decide +kernel
theorem dX9_within_14 : decode cX9_within 14 = .ok (.iconst 0, 1) := by decide +kernel
theorem dX9_within_15 : decode cX9_within 15 = .ok (.ireturn, 1) := by decide +kernel
theorem dX9_isDay_0 : decode cX9_isDay 0 = .ok (.iload_n 0, 1) := by decide +kernel
theorem dX9_isDay_1 : decode cX9_isDay 1 = .ok (.iconst 0, 1) := by decide +kernel
theorem dX9_isDay_2 : decode cX9_isDay 2 = .ok (.sipush 9999, 3) := by decide +kernel
theorem dX9_isDay_5 : decode cX9_isDay 5 = .ok (.invokestatic 85, 3) := by decide +kernel
theorem dX9_isDay_8 : decode cX9_isDay 8 = .ok (.ireturn, 1) := by decide +kernel
theorem dX9_hasBit_0 : decode cX9_hasBit 0 = .ok (.iload_n 0, 1) := by decide +kernel
theorem dX9_hasBit_1 : decode cX9_hasBit 1 = .ok (.iload_n 1, 1) := by decide +kernel
theorem dX9_hasBit_2 : decode cX9_hasBit 2 = .ok (.ishr, 1) := by decide +kernel
theorem dX9_hasBit_3 : decode cX9_hasBit 3 = .ok (.iconst 1, 1) := by decide +kernel
theorem dX9_hasBit_4 : decode cX9_hasBit 4 = .ok (.iand, 1) := by decide +kernel
theorem dX9_hasBit_5 : decode cX9_hasBit 5 = .ok (.iconst 1, 1) := by decide +kernel
theorem dX9_hasBit_6 : decode cX9_hasBit 6 = .ok (.if_icmp .ne 7, 3) := by decide +kernel
theorem dX9_hasBit_9 : decode cX9_hasBit 9 = .ok (.iconst 1, 1) := by decide +kernel
theorem dX9_hasBit_10 : decode cX9_hasBit 10 = .ok (.goto 4, 3) := by decide +kernel
theorem dX9_hasBit_13 : decode cX9_hasBit 13 = .ok (.iconst 0, 1) := by decide +kernel
theorem dX9_hasBit_14 : decode cX9_hasBit 14 = .ok (.ireturn, 1) := by decide +kernel
theorem dX9_thingOf_0 : decode cX9_thingOf 0 = .ok (.iload_n 1, 1) := by decide +kernel
theorem dX9_thingOf_1 : decode cX9_thingOf 1 = .ok (.iconst 0, 1) := by decide +kernel
theorem dX9_thingOf_2 : decode cX9_thingOf 2 = .ok (.aload_n 0, 1) := by decide +kernel
theorem dX9_thingOf_3 : decode cX9_thingOf 3 = .ok (.getfield 10, 3) := by decide +kernel
theorem dX9_thingOf_6 : decode cX9_thingOf 6 = .ok (.invokevirtual 93, 3) := by decide +kernel
theorem dX9_thingOf_9 : decode cX9_thingOf 9 = .ok (.iconst 1, 1) := by decide +kernel
theorem dX9_thingOf_10 : decode cX9_thingOf 10 = .ok (.isub, 1) := by decide +kernel
theorem dX9_thingOf_11 : decode cX9_thingOf 11 = .ok (.invokestatic 85, 3) := by decide +kernel
theorem dX9_thingOf_14 : decode cX9_thingOf 14 = .ok (.ifCond .eq 17, 3) := by decide +kernel
theorem dX9_thingOf_17 : decode cX9_thingOf 17 = .ok (.aload_n 0, 1) := by decide +kernel
theorem dX9_thingOf_18 : decode cX9_thingOf 18 = .ok (.getfield 10, 3) := by decide +kernel
theorem dX9_thingOf_21 : decode cX9_thingOf 21 = .ok (.iload_n 1, 1) := by decide +kernel
theorem dX9_thingOf_22 : decode cX9_thingOf 22 = .ok (.invokevirtual 144, 3) := by decide +kernel
theorem dX9_thingOf_25 : decode cX9_thingOf 25 = .ok (.checkcast 102, 3) := by decide +kernel
theorem dX9_thingOf_28 : decode cX9_thingOf 28 = .ok (.goto 4, 3) := by decide +kernel
theorem dX9_thingOf_31 : decode cX9_thingOf 31 = .ok (.aconst_null, 1) := by decide +kernel
theorem dX9_thingOf_32 : decode cX9_thingOf 32 = .ok (.areturn, 1) := by decide +kernel
theorem dX9_seekerOf_0 : decode cX9_seekerOf 0 = .ok (.iload_n 1, 1) := by decide +kernel
theorem dX9_seekerOf_1 : decode cX9_seekerOf 1 = .ok (.iconst 0, 1) := by decide +kernel
theorem dX9_seekerOf_2 : decode cX9_seekerOf 2 = .ok (.aload_n 0, 1) := by decide +kernel
theorem dX9_seekerOf_3 : decode cX9_seekerOf 3 = .ok (.getfield 16, 3) := by decide +kernel
theorem dX9_seekerOf_6 : decode cX9_seekerOf 6 = .ok (.invokevirtual 93, 3) := by decide +kernel
theorem dX9_seekerOf_9 : decode cX9_seekerOf 9 = .ok (.iconst 1, 1) := by decide +kernel
theorem dX9_seekerOf_10 : decode cX9_seekerOf 10 = .ok (.isub, 1) := by decide +kernel
theorem dX9_seekerOf_11 : decode cX9_seekerOf 11 = .ok (.invokestatic 85, 3) := by decide +kernel
theorem dX9_seekerOf_14 : decode cX9_seekerOf 14 = .ok (.ifCond .eq 17, 3) := by decide +kernel
theorem dX9_seekerOf_17 : decode cX9_seekerOf 17 = .ok (.aload_n 0, 1) := by decide +kernel
theorem dX9_seekerOf_18 : decode cX9_seekerOf 18 = .ok (.getfield 16, 3) := by decide +kernel
theorem dX9_seekerOf_21 : decode cX9_seekerOf 21 = .ok (.iload_n 1, 1) := by decide +kernel
theorem dX9_seekerOf_22 : decode cX9_seekerOf 22 = .ok (.invokevirtual 144, 3) := by decide +kernel
theorem dX9_seekerOf_25 : decode cX9_seekerOf 25 = .ok (.checkcast 155, 3) := by decide +kernel
theorem dX9_seekerOf_28 : decode cX9_seekerOf 28 = .ok (.goto 4, 3) := by decide +kernel
theorem dX9_seekerOf_31 : decode cX9_seekerOf 31 = .ok (.aconst_null, 1) := by decide +kernel
theorem dX9_seekerOf_32 : decode cX9_seekerOf 32 = .ok (.areturn, 1) := by decide +kernel
theorem dX9_addressOf_0 : decode cX9_addressOf 0 = .ok (.iload_n 1, 1) := by decide +kernel
theorem dX9_addressOf_1 : decode cX9_addressOf 1 = .ok (.iconst 0, 1) := by decide +kernel
theorem dX9_addressOf_2 : decode cX9_addressOf 2 = .ok (.aload_n 0, 1) := by decide +kernel
theorem dX9_addressOf_3 : decode cX9_addressOf 3 = .ok (.getfield 19, 3) := by decide +kernel
theorem dX9_addressOf_6 : decode cX9_addressOf 6 = .ok (.invokevirtual 93, 3) := by decide +kernel
theorem dX9_addressOf_9 : decode cX9_addressOf 9 = .ok (.iconst 1, 1) := by decide +kernel
theorem dX9_addressOf_10 : decode cX9_addressOf 10 = .ok (.isub, 1) := by decide +kernel
theorem dX9_addressOf_11 : decode cX9_addressOf 11 = .ok (.invokestatic 85, 3) := by decide +kernel
theorem dX9_addressOf_14 : decode cX9_addressOf 14 = .ok (.ifCond .eq 17, 3) := by decide +kernel
theorem dX9_addressOf_17 : decode cX9_addressOf 17 = .ok (.aload_n 0, 1) := by decide +kernel
theorem dX9_addressOf_18 : decode cX9_addressOf 18 = .ok (.getfield 19, 3) := by decide +kernel
theorem dX9_addressOf_21 : decode cX9_addressOf 21 = .ok (.iload_n 1, 1) := by decide +kernel
theorem dX9_addressOf_22 : decode cX9_addressOf 22 = .ok (.invokevirtual 144, 3) := by decide +kernel
theorem dX9_addressOf_25 : decode cX9_addressOf 25 = .ok (.checkcast 211, 3) := by decide +kernel
theorem dX9_addressOf_28 : decode cX9_addressOf 28 = .ok (.goto 4, 3) := by decide +kernel
theorem dX9_addressOf_31 : decode cX9_addressOf 31 = .ok (.aconst_null, 1) := by decide +kernel
theorem dX9_addressOf_32 : decode cX9_addressOf 32 = .ok (.areturn, 1) := by decide +kernel
theorem dX9_spoilIfOld_0 : decode cX9_spoilIfOld 0 = .ok (.aload_n 1, 1) := by decide +kernel
theorem dX9_spoilIfOld_1 : decode cX9_spoilIfOld 1 = .ok (.getfield 123, 3) := by decide +kernel
theorem dX9_spoilIfOld_4 : decode cX9_spoilIfOld 4 = .ok (.iconst 2, 1) := by decide +kernel
theorem dX9_spoilIfOld_5 : decode cX9_spoilIfOld 5 = .ok (.if_icmp .ne 26, 3) := by decide +kernel
theorem dX9_spoilIfOld_8 : decode cX9_spoilIfOld 8 = .ok (.aload_n 1, 1) := by decide +kernel
theorem dX9_spoilIfOld_9 : decode cX9_spoilIfOld 9 = .ok (.getfield 138, 3) := by decide +kernel
theorem dX9_spoilIfOld_12 : decode cX9_spoilIfOld 12 = .ok (.ifCond .ne 19, 3) := by decide +kernel
theorem dX9_spoilIfOld_15 : decode cX9_spoilIfOld 15 = .ok (.aload_n 0, 1) := by decide +kernel
theorem dX9_spoilIfOld_16 : decode cX9_spoilIfOld 16 = .ok (.getfield 70, 3) := by decide +kernel
theorem dX9_spoilIfOld_19 : decode cX9_spoilIfOld 19 = .ok (.aload_n 1, 1) := by decide +kernel
theorem dX9_spoilIfOld_20 : decode cX9_spoilIfOld 20 = .ok (.getfield 132, 3) := by decide +kernel
theorem dX9_spoilIfOld_23 : decode cX9_spoilIfOld 23 = .ok (.isub, 1) := by decide +kernel
theorem dX9_spoilIfOld_24 : decode cX9_spoilIfOld 24 = .ok (.aload_n 0, 1) := by decide +kernel
theorem dX9_spoilIfOld_25 : decode cX9_spoilIfOld 25 = .ok (.getfield 73, 3) := by decide +kernel
theorem dX9_spoilIfOld_28 : decode cX9_spoilIfOld 28 = .ok (.if_icmp .ge 5, 3) := by decide +kernel
theorem dX9_spoilIfOld_31 : decode cX9_spoilIfOld 31 = .ok (.iconst 0, 1) := by decide +kernel
theorem dX9_spoilIfOld_32 : decode cX9_spoilIfOld 32 = .ok (.ireturn, 1) := by decide +kernel
theorem dX9_spoilIfOld_33 : decode cX9_spoilIfOld 33 = .ok (.aload_n 1, 1) := by decide +kernel
theorem dX9_spoilIfOld_34 : decode cX9_spoilIfOld 34 = .ok (.iconst 3, 1) := by decide +kernel
theorem dX9_spoilIfOld_35 : decode cX9_spoilIfOld 35 = .ok (.aload_n 0, 1) := by decide +kernel
theorem dX9_spoilIfOld_36 : decode cX9_spoilIfOld 36 = .ok (.getfield 70, 3) := by decide +kernel
theorem dX9_spoilIfOld_39 : decode cX9_spoilIfOld 39 = .ok (.invokevirtual 107, 3) := by decide +kernel
theorem dX9_spoilIfOld_42 : decode cX9_spoilIfOld 42 = .ok (.iconst 1, 1) := by decide +kernel
theorem dX9_spoilIfOld_43 : decode cX9_spoilIfOld 43 = .ok (.ireturn, 1) := by decide +kernel
theorem dX9_thingsThatAre_0 : decode cX9_thingsThatAre 0 = .ok (.iconst 0, 1) := by decide +kernel
theorem dX9_thingsThatAre_1 : decode cX9_thingsThatAre 1 = .ok (.istore_n 2, 1) := by decide +kernel
theorem dX9_thingsThatAre_2 : decode cX9_thingsThatAre 2 = .ok (.iconst 0, 1) := by decide +kernel
theorem dX9_thingsThatAre_3 : decode cX9_thingsThatAre 3 = .ok (.istore_n 3, 1) := by decide +kernel
theorem dX9_thingsThatAre_4 : decode cX9_thingsThatAre 4 = .ok (.iload_n 3, 1) := by decide +kernel
theorem dX9_thingsThatAre_5 : decode cX9_thingsThatAre 5 = .ok (.aload_n 0, 1) := by decide +kernel
theorem dX9_thingsThatAre_6 : decode cX9_thingsThatAre 6 = .ok (.getfield 10, 3) := by decide +kernel
theorem dX9_thingsThatAre_9 : decode cX9_thingsThatAre 9 = .ok (.invokevirtual 93, 3) := by decide +kernel
theorem dX9_thingsThatAre_12 : decode cX9_thingsThatAre 12 = .ok (.if_icmp .ge 30, 3) := by decide +kernel
theorem dX9_thingsThatAre_15 : decode cX9_thingsThatAre 15 = .ok (.aload_n 0, 1) := by decide +kernel
theorem dX9_thingsThatAre_16 : decode cX9_thingsThatAre 16 = .ok (.getfield 10, 3) := by decide +kernel
theorem dX9_thingsThatAre_19 : decode cX9_thingsThatAre 19 = .ok (.iload_n 3, 1) := by decide +kernel
theorem dX9_thingsThatAre_20 : decode cX9_thingsThatAre 20 = .ok (.invokevirtual 144, 3) := by decide +kernel
theorem dX9_thingsThatAre_23 : decode cX9_thingsThatAre 23 = .ok (.checkcast 102, 3) := by decide +kernel
theorem dX9_thingsThatAre_26 : decode cX9_thingsThatAre 26 = .ok (.getfield 138, 3) := by decide +kernel
theorem dX9_thingsThatAre_29 : decode cX9_thingsThatAre 29 = .ok (.iload_n 1, 1) := by decide +kernel
theorem dX9_thingsThatAre_30 : decode cX9_thingsThatAre 30 = .ok (.if_icmp .ne 6, 3) := by decide +kernel
theorem dX9_thingsThatAre_33 : decode cX9_thingsThatAre 33 = .ok (.iinc 2 1, 3) := by decide +kernel
theorem dX9_thingsThatAre_36 : decode cX9_thingsThatAre 36 = .ok (.iinc 3 1, 3) := by decide +kernel
theorem dX9_thingsThatAre_39 : decode cX9_thingsThatAre 39 = .ok (.goto (-35), 3) := by decide +kernel
theorem dX9_thingsThatAre_42 : decode cX9_thingsThatAre 42 = .ok (.iload_n 2, 1) := by decide +kernel
theorem dX9_thingsThatAre_43 : decode cX9_thingsThatAre 43 = .ok (.ireturn, 1) := by decide +kernel
theorem dX9_heldBy_0 : decode cX9_heldBy 0 = .ok (.iconst 0, 1) := by decide +kernel
theorem dX9_heldBy_1 : decode cX9_heldBy 1 = .ok (.istore_n 2, 1) := by decide +kernel
theorem dX9_heldBy_2 : decode cX9_heldBy 2 = .ok (.iconst 0, 1) := by decide +kernel
theorem dX9_heldBy_3 : decode cX9_heldBy 3 = .ok (.istore_n 3, 1) := by decide +kernel
theorem dX9_heldBy_4 : decode cX9_heldBy 4 = .ok (.iload_n 3, 1) := by decide +kernel
theorem dX9_heldBy_5 : decode cX9_heldBy 5 = .ok (.aload_n 0, 1) := by decide +kernel
theorem dX9_heldBy_6 : decode cX9_heldBy 6 = .ok (.getfield 10, 3) := by decide +kernel
theorem dX9_heldBy_9 : decode cX9_heldBy 9 = .ok (.invokevirtual 93, 3) := by decide +kernel
theorem dX9_heldBy_12 : decode cX9_heldBy 12 = .ok (.if_icmp .ge 30, 3) := by decide +kernel
theorem dX9_heldBy_15 : decode cX9_heldBy 15 = .ok (.aload_n 0, 1) := by decide +kernel
theorem dX9_heldBy_16 : decode cX9_heldBy 16 = .ok (.getfield 10, 3) := by decide +kernel
theorem dX9_heldBy_19 : decode cX9_heldBy 19 = .ok (.iload_n 3, 1) := by decide +kernel
theorem dX9_heldBy_20 : decode cX9_heldBy 20 = .ok (.invokevirtual 144, 3) := by decide +kernel
theorem dX9_heldBy_23 : decode cX9_heldBy 23 = .ok (.checkcast 102, 3) := by decide +kernel
theorem dX9_heldBy_26 : decode cX9_heldBy 26 = .ok (.getfield 141, 3) := by decide +kernel
theorem dX9_heldBy_29 : decode cX9_heldBy 29 = .ok (.iload_n 1, 1) := by decide +kernel
theorem dX9_heldBy_30 : decode cX9_heldBy 30 = .ok (.if_icmp .ne 6, 3) := by decide +kernel
theorem dX9_heldBy_33 : decode cX9_heldBy 33 = .ok (.iinc 2 1, 3) := by decide +kernel
theorem dX9_heldBy_36 : decode cX9_heldBy 36 = .ok (.iinc 3 1, 3) := by decide +kernel
theorem dX9_heldBy_39 : decode cX9_heldBy 39 = .ok (.goto (-35), 3) := by decide +kernel
theorem dX9_heldBy_42 : decode cX9_heldBy 42 = .ok (.iload_n 2, 1) := by decide +kernel
theorem dX9_heldBy_43 : decode cX9_heldBy 43 = .ok (.ireturn, 1) := by decide +kernel
theorem dX9_likenessOf_0 : decode cX9_likenessOf 0 = .ok (.aload_n 2, 1) := by decide +kernel
theorem dX9_likenessOf_1 : decode cX9_likenessOf 1 = .ok (.getfield 138, 3) := by decide +kernel
theorem dX9_likenessOf_4 : decode cX9_likenessOf 4 = .ok (.ifCond .ne 21, 3) := by decide +kernel
theorem dX9_likenessOf_7 : decode cX9_likenessOf 7 = .ok (.aload_n 1, 1) := by decide +kernel
theorem dX9_likenessOf_8 : decode cX9_likenessOf 8 = .ok (.invokevirtual 195, 3) := by decide +kernel
theorem dX9_likenessOf_11 : decode cX9_likenessOf 11 = .ok (.ifCond .ne 14, 3) := by decide +kernel
theorem dX9_likenessOf_14 : decode cX9_likenessOf 14 = .ok (.aload_n 2, 1) := by decide +kernel
theorem dX9_likenessOf_15 : decode cX9_likenessOf 15 = .ok (.getfield 132, 3) := by decide +kernel
theorem dX9_likenessOf_18 : decode cX9_likenessOf 18 = .ok (.aload_n 1, 1) := by decide +kernel
theorem dX9_likenessOf_19 : decode cX9_likenessOf 19 = .ok (.getfield 189, 3) := by decide +kernel
theorem dX9_likenessOf_22 : decode cX9_likenessOf 22 = .ok (.if_icmp .ge 5, 3) := by decide +kernel
theorem dX9_likenessOf_25 : decode cX9_likenessOf 25 = .ok (.iconst 0, 1) := by decide +kernel
theorem dX9_likenessOf_26 : decode cX9_likenessOf 26 = .ok (.ireturn, 1) := by decide +kernel
theorem dX9_likenessOf_27 : decode cX9_likenessOf 27 = .ok (.aload_n 2, 1) := by decide +kernel
theorem dX9_likenessOf_28 : decode cX9_likenessOf 28 = .ok (.getfield 126, 3) := by decide +kernel
theorem dX9_likenessOf_31 : decode cX9_likenessOf 31 = .ok (.aload_n 1, 1) := by decide +kernel
theorem dX9_likenessOf_32 : decode cX9_likenessOf 32 = .ok (.getfield 167, 3) := by decide +kernel
theorem dX9_likenessOf_35 : decode cX9_likenessOf 35 = .ok (.aload_n 1, 1) := by decide +kernel
theorem dX9_likenessOf_36 : decode cX9_likenessOf 36 = .ok (.getfield 170, 3) := by decide +kernel
theorem dX9_likenessOf_39 : decode cX9_likenessOf 39 = .ok (.invokestatic 85, 3) := by decide +kernel
theorem dX9_likenessOf_42 : decode cX9_likenessOf 42 = .ok (.ifCond .eq 7, 3) := by decide +kernel
theorem dX9_likenessOf_45 : decode cX9_likenessOf 45 = .ok (.iconst 3, 1) := by decide +kernel
theorem dX9_likenessOf_46 : decode cX9_likenessOf 46 = .ok (.goto 5, 3) := by decide +kernel
theorem dX9_likenessOf_49 : decode cX9_likenessOf 49 = .ok (.bipush (-3), 2) := by decide +kernel
theorem dX9_likenessOf_51 : decode cX9_likenessOf 51 = .ok (.istore_n 3, 1) := by decide +kernel
theorem dX9_likenessOf_52 : decode cX9_likenessOf 52 = .ok (.iconst 0, 1) := by decide +kernel
theorem dX9_likenessOf_53 : decode cX9_likenessOf 53 = .ok (.istore 4, 2) := by decide +kernel
theorem dX9_likenessOf_55 : decode cX9_likenessOf 55 = .ok (.iload 4, 2) := by decide +kernel
theorem dX9_likenessOf_57 : decode cX9_likenessOf 57 = .ok (.iconst 5, 1) := by decide +kernel
theorem dX9_likenessOf_58 : decode cX9_likenessOf 58 = .ok (.if_icmp .ge 62, 3) := by decide +kernel
theorem dX9_likenessOf_61 : decode cX9_likenessOf 61 = .ok (.aload_n 1, 1) := by decide +kernel
theorem dX9_likenessOf_62 : decode cX9_likenessOf 62 = .ok (.getfield 164, 3) := by decide +kernel
theorem dX9_likenessOf_65 : decode cX9_likenessOf 65 = .ok (.iload 4, 2) := by decide +kernel
theorem dX9_likenessOf_67 : decode cX9_likenessOf 67 = .ok (.iaload, 1) := by decide +kernel
theorem dX9_likenessOf_68 : decode cX9_likenessOf 68 = .ok (.aload_n 2, 1) := by decide +kernel
theorem dX9_likenessOf_69 : decode cX9_likenessOf 69 = .ok (.getfield 129, 3) := by decide +kernel
theorem dX9_likenessOf_72 : decode cX9_likenessOf 72 = .ok (.iload 4, 2) := by decide +kernel
theorem dX9_likenessOf_74 : decode cX9_likenessOf 74 = .ok (.iaload, 1) := by decide +kernel
theorem dX9_likenessOf_75 : decode cX9_likenessOf 75 = .ok (.if_icmp .ne 16, 3) := by decide +kernel
theorem dX9_likenessOf_78 : decode cX9_likenessOf 78 = .ok (.iload_n 3, 1) := by decide +kernel
theorem dX9_likenessOf_79 : decode cX9_likenessOf 79 = .ok (.aload_n 0, 1) := by decide +kernel
theorem dX9_likenessOf_80 : decode cX9_likenessOf 80 = .ok (.getfield 22, 3) := by decide +kernel
theorem dX9_likenessOf_83 : decode cX9_likenessOf 83 = .ok (.iload 4, 2) := by decide +kernel
theorem dX9_likenessOf_85 : decode cX9_likenessOf 85 = .ok (.iaload, 1) := by decide +kernel
theorem dX9_likenessOf_86 : decode cX9_likenessOf 86 = .ok (.iadd, 1) := by decide +kernel
theorem dX9_likenessOf_87 : decode cX9_likenessOf 87 = .ok (.istore_n 3, 1) := by decide +kernel
theorem dX9_likenessOf_88 : decode cX9_likenessOf 88 = .ok (.goto 26, 3) := by decide +kernel
theorem dX9_likenessOf_91 : decode cX9_likenessOf 91 = .ok (.aload_n 1, 1) := by decide +kernel
theorem dX9_likenessOf_92 : decode cX9_likenessOf 92 = .ok (.getfield 164, 3) := by decide +kernel
theorem dX9_likenessOf_95 : decode cX9_likenessOf 95 = .ok (.iload 4, 2) := by decide +kernel
theorem dX9_likenessOf_97 : decode cX9_likenessOf 97 = .ok (.iaload, 1) := by decide +kernel
theorem dX9_likenessOf_98 : decode cX9_likenessOf 98 = .ok (.iconst (-1), 1) := by decide +kernel
theorem dX9_likenessOf_99 : decode cX9_likenessOf 99 = .ok (.if_icmp .eq 15, 3) := by decide +kernel
theorem dX9_likenessOf_102 : decode cX9_likenessOf 102 = .ok (.iload_n 3, 1) := by decide +kernel
theorem dX9_likenessOf_103 : decode cX9_likenessOf 103 = .ok (.aload_n 0, 1) := by decide +kernel
theorem dX9_likenessOf_104 : decode cX9_likenessOf 104 = .ok (.getfield 22, 3) := by decide +kernel
theorem dX9_likenessOf_107 : decode cX9_likenessOf 107 = .ok (.iload 4, 2) := by decide +kernel
theorem dX9_likenessOf_109 : decode cX9_likenessOf 109 = .ok (.iaload, 1) := by decide +kernel
theorem dX9_likenessOf_110 : decode cX9_likenessOf 110 = .ok (.iconst 2, 1) := by decide +kernel
theorem dX9_likenessOf_111 : decode cX9_likenessOf 111 = .ok (.idiv, 1) := by decide +kernel
theorem dX9_likenessOf_112 : decode cX9_likenessOf 112 = .ok (.isub, 1) := by decide +kernel
theorem dX9_likenessOf_113 : decode cX9_likenessOf 113 = .ok (.istore_n 3, 1) := by decide +kernel
theorem dX9_likenessOf_114 : decode cX9_likenessOf 114 = .ok (.iinc 4 1, 3) := by decide +kernel
theorem dX9_likenessOf_117 : decode cX9_likenessOf 117 = .ok (.goto (-62), 3) := by decide +kernel
theorem dX9_likenessOf_120 : decode cX9_likenessOf 120 = .ok (.iload_n 3, 1) := by decide +kernel
theorem dX9_likenessOf_121 : decode cX9_likenessOf 121 = .ok (.iconst 0, 1) := by decide +kernel
theorem dX9_likenessOf_122 : decode cX9_likenessOf 122 = .ok (.invokestatic 317, 3) := by decide +kernel
theorem dX9_likenessOf_125 : decode cX9_likenessOf 125 = .ok (.ireturn, 1) := by decide +kernel
theorem dX9_bestMatch_0 : decode cX9_bestMatch 0 = .ok (.aload_n 0, 1) := by decide +kernel
theorem dX9_bestMatch_1 : decode cX9_bestMatch 1 = .ok (.getfield 41, 3) := by decide +kernel
theorem dX9_bestMatch_4 : decode cX9_bestMatch 4 = .ok (.aload_n 0, 1) := by decide +kernel
theorem dX9_bestMatch_5 : decode cX9_bestMatch 5 = .ok (.getfield 16, 3) := by decide +kernel
theorem dX9_bestMatch_8 : decode cX9_bestMatch 8 = .ok (.invokevirtual 93, 3) := by decide +kernel
theorem dX9_bestMatch_11 : decode cX9_bestMatch 11 = .ok (.invokevirtual 322, 3) := by decide +kernel
theorem dX9_bestMatch_14 : decode cX9_bestMatch 14 = .ok (.iconst 0, 1) := by decide +kernel
theorem dX9_bestMatch_15 : decode cX9_bestMatch 15 = .ok (.istore_n 1, 1) := by decide +kernel
theorem dX9_bestMatch_16 : decode cX9_bestMatch 16 = .ok (.iload_n 1, 1) := by decide +kernel
theorem dX9_bestMatch_17 : decode cX9_bestMatch 17 = .ok (.aload_n 0, 1) := by decide +kernel
theorem dX9_bestMatch_18 : decode cX9_bestMatch 18 = .ok (.getfield 10, 3) := by decide +kernel
theorem dX9_bestMatch_21 : decode cX9_bestMatch 21 = .ok (.invokevirtual 93, 3) := by decide +kernel
theorem dX9_bestMatch_24 : decode cX9_bestMatch 24 = .ok (.if_icmp .ge 70, 3) := by decide +kernel
theorem dX9_bestMatch_27 : decode cX9_bestMatch 27 = .ok (.iconst 0, 1) := by decide +kernel
theorem dX9_bestMatch_28 : decode cX9_bestMatch 28 = .ok (.istore_n 2, 1) := by decide +kernel
theorem dX9_bestMatch_29 : decode cX9_bestMatch 29 = .ok (.iload_n 2, 1) := by decide +kernel
theorem dX9_bestMatch_30 : decode cX9_bestMatch 30 = .ok (.aload_n 0, 1) := by decide +kernel
theorem dX9_bestMatch_31 : decode cX9_bestMatch 31 = .ok (.getfield 16, 3) := by decide +kernel
theorem dX9_bestMatch_34 : decode cX9_bestMatch 34 = .ok (.invokevirtual 93, 3) := by decide +kernel
theorem dX9_bestMatch_37 : decode cX9_bestMatch 37 = .ok (.if_icmp .ge 44, 3) := by decide +kernel
theorem dX9_bestMatch_40 : decode cX9_bestMatch 40 = .ok (.aload_n 0, 1) := by decide +kernel
theorem dX9_bestMatch_41 : decode cX9_bestMatch 41 = .ok (.getfield 41, 3) := by decide +kernel
theorem dX9_bestMatch_44 : decode cX9_bestMatch 44 = .ok (.iload_n 2, 1) := by decide +kernel
theorem dX9_bestMatch_45 : decode cX9_bestMatch 45 = .ok (.iload_n 1, 1) := by decide +kernel
theorem dX9_bestMatch_46 : decode cX9_bestMatch 46 = .ok (.aload_n 0, 1) := by decide +kernel
theorem dX9_bestMatch_47 : decode cX9_bestMatch 47 = .ok (.aload_n 0, 1) := by decide +kernel
theorem dX9_bestMatch_48 : decode cX9_bestMatch 48 = .ok (.getfield 16, 3) := by decide +kernel
theorem dX9_bestMatch_51 : decode cX9_bestMatch 51 = .ok (.iload_n 2, 1) := by decide +kernel
theorem dX9_bestMatch_52 : decode cX9_bestMatch 52 = .ok (.invokevirtual 144, 3) := by decide +kernel
theorem dX9_bestMatch_55 : decode cX9_bestMatch 55 = .ok (.checkcast 155, 3) := by decide +kernel
theorem dX9_bestMatch_58 : decode cX9_bestMatch 58 = .ok (.aload_n 0, 1) := by decide +kernel
theorem dX9_bestMatch_59 : decode cX9_bestMatch 59 = .ok (.getfield 10, 3) := by decide +kernel
theorem dX9_bestMatch_62 : decode cX9_bestMatch 62 = .ok (.iload_n 1, 1) := by decide +kernel
theorem dX9_bestMatch_63 : decode cX9_bestMatch 63 = .ok (.invokevirtual 144, 3) := by decide +kernel
theorem dX9_bestMatch_66 : decode cX9_bestMatch 66 = .ok (.checkcast 102, 3) := by decide +kernel
theorem dX9_bestMatch_69 : decode cX9_bestMatch 69 = .ok (.invokevirtual 173, 3) := by decide +kernel
theorem dX9_bestMatch_72 : decode cX9_bestMatch 72 = .ok (.invokevirtual 325, 3) := by decide +kernel
theorem dX9_bestMatch_75 : decode cX9_bestMatch 75 = .ok (.iinc 2 1, 3) := by decide +kernel
theorem dX9_bestMatch_78 : decode cX9_bestMatch 78 = .ok (.goto (-49), 3) := by decide +kernel
theorem dX9_bestMatch_81 : decode cX9_bestMatch 81 = .ok (.aload_n 0, 1) := by decide +kernel
theorem dX9_bestMatch_82 : decode cX9_bestMatch 82 = .ok (.getfield 41, 3) := by decide +kernel
theorem dX9_bestMatch_85 : decode cX9_bestMatch 85 = .ok (.invokevirtual 328, 3) := by decide +kernel
theorem dX9_bestMatch_88 : decode cX9_bestMatch 88 = .ok (.iinc 1 1, 3) := by decide +kernel
theorem dX9_bestMatch_91 : decode cX9_bestMatch 91 = .ok (.goto (-75), 3) := by decide +kernel
theorem dX9_bestMatch_94 : decode cX9_bestMatch 94 = .ok (.aload_n 0, 1) := by decide +kernel
theorem dX9_bestMatch_95 : decode cX9_bestMatch 95 = .ok (.getfield 41, 3) := by decide +kernel
theorem dX9_bestMatch_98 : decode cX9_bestMatch 98 = .ok (.invokevirtual 331, 3) := by decide +kernel
theorem dX9_bestMatch_101 : decode cX9_bestMatch 101 = .ok (.lreturn, 1) := by decide +kernel
theorem dX9_digitsOf_0 : decode cX9_digitsOf 0 = .ok (.iconst 1, 1) := by decide +kernel
theorem dX9_digitsOf_1 : decode cX9_digitsOf 1 = .ok (.istore_n 1, 1) := by decide +kernel
theorem dX9_digitsOf_2 : decode cX9_digitsOf 2 = .ok (.iload_n 1, 1) := by decide +kernel
theorem dX9_digitsOf_3 : decode cX9_digitsOf 3 = .ok (.getstatic 334, 3) := by decide +kernel
theorem dX9_digitsOf_6 : decode cX9_digitsOf 6 = .ok (.arraylength, 1) := by decide +kernel
theorem dX9_digitsOf_7 : decode cX9_digitsOf 7 = .ok (.iconst 1, 1) := by decide +kernel
theorem dX9_digitsOf_8 : decode cX9_digitsOf 8 = .ok (.isub, 1) := by decide +kernel
theorem dX9_digitsOf_9 : decode cX9_digitsOf 9 = .ok (.if_icmp .ge 18, 3) := by decide +kernel
theorem dX9_digitsOf_12 : decode cX9_digitsOf 12 = .ok (.iload_n 0, 1) := by decide +kernel
theorem dX9_digitsOf_13 : decode cX9_digitsOf 13 = .ok (.getstatic 334, 3) := by decide +kernel
theorem dX9_digitsOf_16 : decode cX9_digitsOf 16 = .ok (.iload_n 1, 1) := by decide +kernel
theorem dX9_digitsOf_17 : decode cX9_digitsOf 17 = .ok (.iaload, 1) := by decide +kernel
theorem dX9_digitsOf_18 : decode cX9_digitsOf 18 = .ok (.if_icmp .lt 9, 3) := by decide +kernel
theorem dX9_digitsOf_21 : decode cX9_digitsOf 21 = .ok (.iinc 1 1, 3) := by decide +kernel
theorem dX9_digitsOf_24 : decode cX9_digitsOf 24 = .ok (.goto (-22), 3) := by decide +kernel
theorem dX9_digitsOf_27 : decode cX9_digitsOf 27 = .ok (.iload_n 1, 1) := by decide +kernel
theorem dX9_digitsOf_28 : decode cX9_digitsOf 28 = .ok (.ireturn, 1) := by decide +kernel
theorem dX9_isWord_0 : decode cX9_isWord 0 = .ok (.iload_n 0, 1) := by decide +kernel
theorem dX9_isWord_1 : decode cX9_isWord 1 = .ok (.iconst 1, 1) := by decide +kernel
theorem dX9_isWord_2 : decode cX9_isWord 2 = .ok (.ldc_w 337, 3) := by decide +kernel
theorem dX9_isWord_5 : decode cX9_isWord 5 = .ok (.invokestatic 85, 3) := by decide +kernel
theorem dX9_isWord_8 : decode cX9_isWord 8 = .ok (.ifCond .ne 5, 3) := by decide +kernel
theorem dX9_isWord_11 : decode cX9_isWord 11 = .ok (.iconst 0, 1) := by decide +kernel
theorem dX9_isWord_12 : decode cX9_isWord 12 = .ok (.ireturn, 1) := by decide +kernel
theorem dX9_isWord_13 : decode cX9_isWord 13 = .ok (.iconst 0, 1) := by decide +kernel
theorem dX9_isWord_14 : decode cX9_isWord 14 = .ok (.istore_n 1, 1) := by decide +kernel
theorem dX9_isWord_15 : decode cX9_isWord 15 = .ok (.iload_n 1, 1) := by decide +kernel
theorem dX9_isWord_16 : decode cX9_isWord 16 = .ok (.iload_n 0, 1) := by decide +kernel
theorem dX9_isWord_17 : decode cX9_isWord 17 = .ok (.invokestatic 213, 3) := by decide +kernel
theorem dX9_isWord_20 : decode cX9_isWord 20 = .ok (.if_icmp .ge 24, 3) := by decide +kernel
theorem dX9_isWord_23 : decode cX9_isWord 23 = .ok (.iload_n 0, 1) := by decide +kernel
theorem dX9_isWord_24 : decode cX9_isWord 24 = .ok (.getstatic 334, 3) := by decide +kernel
theorem dX9_isWord_27 : decode cX9_isWord 27 = .ok (.iload_n 1, 1) := by decide +kernel
theorem dX9_isWord_28 : decode cX9_isWord 28 = .ok (.iaload, 1) := by decide +kernel
theorem dX9_isWord_29 : decode cX9_isWord 29 = .ok (.idiv, 1) := by decide +kernel
theorem dX9_isWord_30 : decode cX9_isWord 30 = .ok (.bipush 10, 2) := by decide +kernel
theorem dX9_isWord_32 : decode cX9_isWord 32 = .ok (.irem, 1) := by decide +kernel
theorem dX9_isWord_33 : decode cX9_isWord 33 = .ok (.ifCond .ne 5, 3) := by decide +kernel
theorem dX9_isWord_36 : decode cX9_isWord 36 = .ok (.iconst 0, 1) := by decide +kernel
theorem dX9_isWord_37 : decode cX9_isWord 37 = .ok (.ireturn, 1) := by decide +kernel
theorem dX9_isWord_38 : decode cX9_isWord 38 = .ok (.iinc 1 1, 3) := by decide +kernel
theorem dX9_isWord_41 : decode cX9_isWord 41 = .ok (.goto (-26), 3) := by decide +kernel
theorem dX9_isWord_44 : decode cX9_isWord 44 = .ok (.iconst 1, 1) := by decide +kernel
theorem dX9_isWord_45 : decode cX9_isWord 45 = .ok (.ireturn, 1) := by decide +kernel
theorem dX9_isLabel_0 : decode cX9_isLabel 0 = .ok (.iload_n 1, 1) := by decide +kernel
theorem dX9_isLabel_1 : decode cX9_isLabel 1 = .ok (.bipush 10, 2) := by decide +kernel
theorem dX9_isLabel_3 : decode cX9_isLabel 3 = .ok (.idiv, 1) := by decide +kernel
theorem dX9_isLabel_4 : decode cX9_isLabel 4 = .ok (.istore_n 2, 1) := by decide +kernel
theorem dX9_isLabel_5 : decode cX9_isLabel 5 = .ok (.iload_n 1, 1) := by decide +kernel
theorem dX9_isLabel_6 : decode cX9_isLabel 6 = .ok (.ifCond .lt 44, 3) := by decide +kernel
theorem dX9_isLabel_9 : decode cX9_isLabel 9 = .ok (.iload_n 2, 1) := by decide +kernel
theorem dX9_isLabel_10 : decode cX9_isLabel 10 = .ok (.iconst 1, 1) := by decide +kernel
theorem dX9_isLabel_11 : decode cX9_isLabel 11 = .ok (.getstatic 334, 3) := by decide +kernel
theorem dX9_isLabel_14 : decode cX9_isLabel 14 = .ok (.arraylength, 1) := by decide +kernel
theorem dX9_isLabel_15 : decode cX9_isLabel 15 = .ok (.iconst 1, 1) := by decide +kernel
theorem dX9_isLabel_16 : decode cX9_isLabel 16 = .ok (.isub, 1) := by decide +kernel
theorem dX9_isLabel_17 : decode cX9_isLabel 17 = .ok (.invokestatic 85, 3) := by decide +kernel
theorem dX9_isLabel_20 : decode cX9_isLabel 20 = .ok (.ifCond .eq 30, 3) := by decide +kernel
theorem dX9_isLabel_23 : decode cX9_isLabel 23 = .ok (.iload_n 1, 1) := by decide +kernel
theorem dX9_isLabel_24 : decode cX9_isLabel 24 = .ok (.bipush 10, 2) := by decide +kernel
theorem dX9_isLabel_26 : decode cX9_isLabel 26 = .ok (.irem, 1) := by decide +kernel
theorem dX9_isLabel_27 : decode cX9_isLabel 27 = .ok (.iconst 3, 1) := by decide +kernel
theorem dX9_isLabel_28 : decode cX9_isLabel 28 = .ok (.if_icmp .gt 22, 3) := by decide +kernel
theorem dX9_isLabel_31 : decode cX9_isLabel 31 = .ok (.iload_n 0, 1) := by decide +kernel
theorem dX9_isLabel_32 : decode cX9_isLabel 32 = .ok (.iconst 0, 1) := by decide +kernel
theorem dX9_isLabel_33 : decode cX9_isLabel 33 = .ok (.getstatic 334, 3) := by decide +kernel
theorem dX9_isLabel_36 : decode cX9_isLabel 36 = .ok (.iload_n 2, 1) := by decide +kernel
theorem dX9_isLabel_37 : decode cX9_isLabel 37 = .ok (.iaload, 1) := by decide +kernel
theorem dX9_isLabel_38 : decode cX9_isLabel 38 = .ok (.iconst 1, 1) := by decide +kernel
theorem dX9_isLabel_39 : decode cX9_isLabel 39 = .ok (.isub, 1) := by decide +kernel
theorem dX9_isLabel_40 : decode cX9_isLabel 40 = .ok (.invokestatic 85, 3) := by decide +kernel
theorem dX9_isLabel_43 : decode cX9_isLabel 43 = .ok (.ifCond .eq 7, 3) := by decide +kernel
theorem dX9_isLabel_46 : decode cX9_isLabel 46 = .ok (.iconst 1, 1) := by decide +kernel
theorem dX9_isLabel_47 : decode cX9_isLabel 47 = .ok (.goto 4, 3) := by decide +kernel
theorem dX9_isLabel_50 : decode cX9_isLabel 50 = .ok (.iconst 0, 1) := by decide +kernel
theorem dX9_isLabel_51 : decode cX9_isLabel 51 = .ok (.ireturn, 1) := by decide +kernel
theorem dX9_fittingBits_0 : decode cX9_fittingBits 0 = .ok (.iconst 0, 1) := by decide +kernel
theorem dX9_fittingBits_1 : decode cX9_fittingBits 1 = .ok (.istore_n 3, 1) := by decide +kernel
theorem dX9_fittingBits_2 : decode cX9_fittingBits 2 = .ok (.iconst 0, 1) := by decide +kernel
theorem dX9_fittingBits_3 : decode cX9_fittingBits 3 = .ok (.istore 4, 2) := by decide +kernel
theorem dX9_fittingBits_5 : decode cX9_fittingBits 5 = .ok (.iload 4, 2) := by decide +kernel
theorem dX9_fittingBits_7 : decode cX9_fittingBits 7 = .ok (.aload_n 0, 1) := by decide +kernel
theorem dX9_fittingBits_8 : decode cX9_fittingBits 8 = .ok (.getfield 19, 3) := by decide +kernel
theorem dX9_fittingBits_11 : decode cX9_fittingBits 11 = .ok (.invokevirtual 93, 3) := by decide +kernel
theorem dX9_fittingBits_14 : decode cX9_fittingBits 14 = .ok (.if_icmp .ge 43, 3) := by decide +kernel
theorem dX9_fittingBits_17 : decode cX9_fittingBits 17 = .ok (.aload_n 0, 1) := by decide +kernel
theorem dX9_fittingBits_18 : decode cX9_fittingBits 18 = .ok (.getfield 19, 3) := by decide +kernel
theorem dX9_fittingBits_21 : decode cX9_fittingBits 21 = .ok (.iload 4, 2) := by decide +kernel
theorem dX9_fittingBits_23 : decode cX9_fittingBits 23 = .ok (.invokevirtual 144, 3) := by decide +kernel
theorem dX9_fittingBits_26 : decode cX9_fittingBits 26 = .ok (.checkcast 211, 3) := by decide +kernel
theorem dX9_fittingBits_29 : decode cX9_fittingBits 29 = .ok (.iload_n 1, 1) := by decide +kernel
theorem dX9_fittingBits_30 : decode cX9_fittingBits 30 = .ok (.iload_n 2, 1) := by decide +kernel
theorem dX9_fittingBits_31 : decode cX9_fittingBits 31 = .ok (.bipush 10, 2) := by decide +kernel
theorem dX9_fittingBits_33 : decode cX9_fittingBits 33 = .ok (.idiv, 1) := by decide +kernel
theorem dX9_fittingBits_34 : decode cX9_fittingBits 34 = .ok (.iload_n 2, 1) := by decide +kernel
theorem dX9_fittingBits_35 : decode cX9_fittingBits 35 = .ok (.bipush 10, 2) := by decide +kernel
theorem dX9_fittingBits_37 : decode cX9_fittingBits 37 = .ok (.irem, 1) := by decide +kernel
theorem dX9_fittingBits_38 : decode cX9_fittingBits 38 = .ok (.invokevirtual 230, 3) := by decide +kernel
theorem dX9_fittingBits_41 : decode cX9_fittingBits 41 = .ok (.ifCond .eq 10, 3) := by decide +kernel
theorem dX9_fittingBits_44 : decode cX9_fittingBits 44 = .ok (.iload_n 3, 1) := by decide +kernel
theorem dX9_fittingBits_45 : decode cX9_fittingBits 45 = .ok (.iconst 1, 1) := by decide +kernel
theorem dX9_fittingBits_46 : decode cX9_fittingBits 46 = .ok (.iload 4, 2) := by decide +kernel
theorem dX9_fittingBits_48 : decode cX9_fittingBits 48 = .ok (.ishl, 1) := by decide +kernel
theorem dX9_fittingBits_49 : decode cX9_fittingBits 49 = .ok (.ior, 1) := by decide +kernel
theorem dX9_fittingBits_50 : decode cX9_fittingBits 50 = .ok (.istore_n 3, 1) := by decide +kernel
theorem dX9_fittingBits_51 : decode cX9_fittingBits 51 = .ok (.iinc 4 1, 3) := by decide +kernel
theorem dX9_fittingBits_54 : decode cX9_fittingBits 54 = .ok (.goto (-49), 3) := by decide +kernel
theorem dX9_fittingBits_57 : decode cX9_fittingBits 57 = .ok (.iload_n 3, 1) := by decide +kernel
theorem dX9_fittingBits_58 : decode cX9_fittingBits 58 = .ok (.ireturn, 1) := by decide +kernel
theorem dX9_rankAmong_0 : decode cX9_rankAmong 0 = .ok (.aload_n 0, 1) := by decide +kernel
theorem dX9_rankAmong_1 : decode cX9_rankAmong 1 = .ok (.getfield 19, 3) := by decide +kernel
theorem dX9_rankAmong_4 : decode cX9_rankAmong 4 = .ok (.iload_n 2, 1) := by decide +kernel
theorem dX9_rankAmong_5 : decode cX9_rankAmong 5 = .ok (.invokevirtual 144, 3) := by decide +kernel
theorem dX9_rankAmong_8 : decode cX9_rankAmong 8 = .ok (.checkcast 211, 3) := by decide +kernel
theorem dX9_rankAmong_11 : decode cX9_rankAmong 11 = .ok (.getfield 223, 3) := by decide +kernel
theorem dX9_rankAmong_14 : decode cX9_rankAmong 14 = .ok (.istore_n 3, 1) := by decide +kernel
theorem dX9_rankAmong_15 : decode cX9_rankAmong 15 = .ok (.iconst 0, 1) := by decide +kernel
theorem dX9_rankAmong_16 : decode cX9_rankAmong 16 = .ok (.istore 4, 2) := by decide +kernel
theorem dX9_rankAmong_18 : decode cX9_rankAmong 18 = .ok (.iconst 0, 1) := by decide +kernel
theorem dX9_rankAmong_19 : decode cX9_rankAmong 19 = .ok (.istore 5, 2) := by decide +kernel
theorem dX9_rankAmong_21 : decode cX9_rankAmong 21 = .ok (.iload 5, 2) := by decide +kernel
theorem dX9_rankAmong_23 : decode cX9_rankAmong 23 = .ok (.aload_n 0, 1) := by decide +kernel
theorem dX9_rankAmong_24 : decode cX9_rankAmong 24 = .ok (.getfield 19, 3) := by decide +kernel
theorem dX9_rankAmong_27 : decode cX9_rankAmong 27 = .ok (.invokevirtual 93, 3) := by decide +kernel
theorem dX9_rankAmong_30 : decode cX9_rankAmong 30 = .ok (.if_icmp .ge 56, 3) := by decide +kernel
theorem dX9_rankAmong_33 : decode cX9_rankAmong 33 = .ok (.aload_n 0, 1) := by decide +kernel
theorem dX9_rankAmong_34 : decode cX9_rankAmong 34 = .ok (.getfield 19, 3) := by decide +kernel
theorem dX9_rankAmong_37 : decode cX9_rankAmong 37 = .ok (.iload 5, 2) := by decide +kernel
theorem dX9_rankAmong_39 : decode cX9_rankAmong 39 = .ok (.invokevirtual 144, 3) := by decide +kernel
theorem dX9_rankAmong_42 : decode cX9_rankAmong 42 = .ok (.checkcast 211, 3) := by decide +kernel
theorem dX9_rankAmong_45 : decode cX9_rankAmong 45 = .ok (.getfield 223, 3) := by decide +kernel
theorem dX9_rankAmong_48 : decode cX9_rankAmong 48 = .ok (.istore 6, 2) := by decide +kernel
theorem dX9_rankAmong_50 : decode cX9_rankAmong 50 = .ok (.iload_n 1, 1) := by decide +kernel
theorem dX9_rankAmong_51 : decode cX9_rankAmong 51 = .ok (.iload 5, 2) := by decide +kernel
theorem dX9_rankAmong_53 : decode cX9_rankAmong 53 = .ok (.invokestatic 237, 3) := by decide +kernel
theorem dX9_rankAmong_56 : decode cX9_rankAmong 56 = .ok (.ifCond .eq 24, 3) := by decide +kernel
theorem dX9_rankAmong_59 : decode cX9_rankAmong 59 = .ok (.iload 6, 2) := by decide +kernel
theorem dX9_rankAmong_61 : decode cX9_rankAmong 61 = .ok (.iload_n 3, 1) := by decide +kernel
theorem dX9_rankAmong_62 : decode cX9_rankAmong 62 = .ok (.if_icmp .gt 15, 3) := by decide +kernel
theorem dX9_rankAmong_65 : decode cX9_rankAmong 65 = .ok (.iload 6, 2) := by decide +kernel
theorem dX9_rankAmong_67 : decode cX9_rankAmong 67 = .ok (.iload_n 3, 1) := by decide +kernel
theorem dX9_rankAmong_68 : decode cX9_rankAmong 68 = .ok (.if_icmp .ne 12, 3) := by decide +kernel
theorem dX9_rankAmong_71 : decode cX9_rankAmong 71 = .ok (.iload 5, 2) := by decide +kernel
theorem dX9_rankAmong_73 : decode cX9_rankAmong 73 = .ok (.iload_n 2, 1) := by decide +kernel
theorem dX9_rankAmong_74 : decode cX9_rankAmong 74 = .ok (.if_icmp .ge 6, 3) := by decide +kernel
theorem dX9_rankAmong_77 : decode cX9_rankAmong 77 = .ok (.iinc 4 1, 3) := by decide +kernel
theorem dX9_rankAmong_80 : decode cX9_rankAmong 80 = .ok (.iinc 5 1, 3) := by decide +kernel
theorem dX9_rankAmong_83 : decode cX9_rankAmong 83 = .ok (.goto (-62), 3) := by decide +kernel
theorem dX9_rankAmong_86 : decode cX9_rankAmong 86 = .ok (.iload 4, 2) := by decide +kernel
theorem dX9_rankAmong_88 : decode cX9_rankAmong 88 = .ok (.ireturn, 1) := by decide +kernel
theorem dX9_mayBeSold_0 : decode cX9_mayBeSold 0 = .ok (.aload_n 1, 1) := by decide +kernel
theorem dX9_mayBeSold_1 : decode cX9_mayBeSold 1 = .ok (.getfield 138, 3) := by decide +kernel
theorem dX9_mayBeSold_4 : decode cX9_mayBeSold 4 = .ok (.ifCond .ne 39, 3) := by decide +kernel
theorem dX9_mayBeSold_7 : decode cX9_mayBeSold 7 = .ok (.aload_n 1, 1) := by decide +kernel
theorem dX9_mayBeSold_8 : decode cX9_mayBeSold 8 = .ok (.getfield 123, 3) := by decide +kernel
theorem dX9_mayBeSold_11 : decode cX9_mayBeSold 11 = .ok (.iconst 1, 1) := by decide +kernel
theorem dX9_mayBeSold_12 : decode cX9_mayBeSold 12 = .ok (.if_icmp .eq 31, 3) := by decide +kernel
theorem dX9_mayBeSold_15 : decode cX9_mayBeSold 15 = .ok (.aload_n 0, 1) := by decide +kernel
theorem dX9_mayBeSold_16 : decode cX9_mayBeSold 16 = .ok (.getfield 70, 3) := by decide +kernel
theorem dX9_mayBeSold_19 : decode cX9_mayBeSold 19 = .ok (.aload_n 1, 1) := by decide +kernel
theorem dX9_mayBeSold_20 : decode cX9_mayBeSold 20 = .ok (.getfield 132, 3) := by decide +kernel
theorem dX9_mayBeSold_23 : decode cX9_mayBeSold 23 = .ok (.isub, 1) := by decide +kernel
theorem dX9_mayBeSold_24 : decode cX9_mayBeSold 24 = .ok (.aload_n 0, 1) := by decide +kernel
theorem dX9_mayBeSold_25 : decode cX9_mayBeSold 25 = .ok (.getfield 26, 3) := by decide +kernel
theorem dX9_mayBeSold_28 : decode cX9_mayBeSold 28 = .ok (.aload_n 1, 1) := by decide +kernel
theorem dX9_mayBeSold_29 : decode cX9_mayBeSold 29 = .ok (.getfield 123, 3) := by decide +kernel
theorem dX9_mayBeSold_32 : decode cX9_mayBeSold 32 = .ok (.iaload, 1) := by decide +kernel
theorem dX9_mayBeSold_33 : decode cX9_mayBeSold 33 = .ok (.bipush 30, 2) := by decide +kernel
theorem dX9_mayBeSold_35 : decode cX9_mayBeSold 35 = .ok (.imul, 1) := by decide +kernel
theorem dX9_mayBeSold_36 : decode cX9_mayBeSold 36 = .ok (.if_icmp .lt 7, 3) := by decide +kernel
theorem dX9_mayBeSold_39 : decode cX9_mayBeSold 39 = .ok (.iconst 1, 1) := by decide +kernel
theorem dX9_mayBeSold_40 : decode cX9_mayBeSold 40 = .ok (.goto 4, 3) := by decide +kernel
theorem dX9_mayBeSold_43 : decode cX9_mayBeSold 43 = .ok (.iconst 0, 1) := by decide +kernel
theorem dX9_mayBeSold_44 : decode cX9_mayBeSold 44 = .ok (.ireturn, 1) := by decide +kernel
theorem dX9_hasBitOfNoThing_0 : decode cX9_hasBitOfNoThing 0 = .ok (.iload_n 1, 1) := by decide +kernel
theorem dX9_hasBitOfNoThing_1 : decode cX9_hasBitOfNoThing 1 = .ok (.aload_n 0, 1) := by decide +kernel
theorem dX9_hasBitOfNoThing_2 : decode cX9_hasBitOfNoThing 2 = .ok (.getfield 10, 3) := by decide +kernel
theorem dX9_hasBitOfNoThing_5 : decode cX9_hasBitOfNoThing 5 = .ok (.invokevirtual 93, 3) := by decide +kernel
theorem dX9_hasBitOfNoThing_8 : decode cX9_hasBitOfNoThing 8 = .ok (.iushr, 1) := by decide +kernel
theorem dX9_hasBitOfNoThing_9 : decode cX9_hasBitOfNoThing 9 = .ok (.ifCond .eq 7, 3) := by decide +kernel
theorem dX9_hasBitOfNoThing_12 : decode cX9_hasBitOfNoThing 12 = .ok (.iconst 1, 1) := by decide +kernel
theorem dX9_hasBitOfNoThing_13 : decode cX9_hasBitOfNoThing 13 = .ok (.goto 4, 3) := by decide +kernel
theorem dX9_hasBitOfNoThing_16 : decode cX9_hasBitOfNoThing 16 = .ok (.iconst 0, 1) := by decide +kernel
theorem dX9_hasBitOfNoThing_17 : decode cX9_hasBitOfNoThing 17 = .ok (.ireturn, 1) := by decide +kernel
theorem dX9_choose_0 : decode cX9_choose 0 = .ok (.aload_n 0, 1) := by decide +kernel
theorem dX9_choose_1 : decode cX9_choose 1 = .ok (.getfield 35, 3) := by decide +kernel
theorem dX9_choose_4 : decode cX9_choose 4 = .ok (.invokevirtual 338, 3) := by decide +kernel
theorem dX9_choose_7 : decode cX9_choose 7 = .ok (.iconst 0, 1) := by decide +kernel
theorem dX9_choose_8 : decode cX9_choose 8 = .ok (.istore_n 2, 1) := by decide +kernel
theorem dX9_choose_9 : decode cX9_choose 9 = .ok (.iload_n 2, 1) := by decide +kernel
theorem dX9_choose_10 : decode cX9_choose 10 = .ok (.aload_n 0, 1) := by decide +kernel
theorem dX9_choose_11 : decode cX9_choose 11 = .ok (.getfield 10, 3) := by decide +kernel
theorem dX9_choose_14 : decode cX9_choose 14 = .ok (.invokevirtual 93, 3) := by decide +kernel
theorem dX9_choose_17 : decode cX9_choose 17 = .ok (.if_icmp .ge 36, 3) := by decide +kernel
theorem dX9_choose_20 : decode cX9_choose 20 = .ok (.iload_n 1, 1) := by decide +kernel
theorem dX9_choose_21 : decode cX9_choose 21 = .ok (.iload_n 2, 1) := by decide +kernel
theorem dX9_choose_22 : decode cX9_choose 22 = .ok (.invokestatic 237, 3) := by decide +kernel
theorem dX9_choose_25 : decode cX9_choose 25 = .ok (.ifCond .eq 22, 3) := by decide +kernel
theorem dX9_choose_28 : decode cX9_choose 28 = .ok (.aload_n 0, 1) := by decide +kernel
theorem dX9_choose_29 : decode cX9_choose 29 = .ok (.getfield 35, 3) := by decide +kernel
theorem dX9_choose_32 : decode cX9_choose 32 = .ok (.aload_n 0, 1) := by decide +kernel
theorem dX9_choose_33 : decode cX9_choose 33 = .ok (.getfield 10, 3) := by decide +kernel
theorem dX9_choose_36 : decode cX9_choose 36 = .ok (.iload_n 2, 1) := by decide +kernel
theorem dX9_choose_37 : decode cX9_choose 37 = .ok (.invokevirtual 144, 3) := by decide +kernel
theorem dX9_choose_40 : decode cX9_choose 40 = .ok (.checkcast 102, 3) := by decide +kernel
theorem dX9_choose_43 : decode cX9_choose 43 = .ok (.invokevirtual 115, 3) := by decide +kernel
theorem dX9_choose_46 : decode cX9_choose 46 = .ok (.pop, 1) := by decide +kernel
theorem dX9_choose_47 : decode cX9_choose 47 = .ok (.iinc 2 1, 3) := by decide +kernel
theorem dX9_choose_50 : decode cX9_choose 50 = .ok (.goto (-41), 3) := by decide +kernel
theorem dX9_choose_53 : decode cX9_choose 53 = .ok (.return_, 1) := by decide +kernel
theorem dX9_chosenMayBeSold_0 : decode cX9_chosenMayBeSold 0 = .ok (.iconst 0, 1) := by decide +kernel
theorem dX9_chosenMayBeSold_1 : decode cX9_chosenMayBeSold 1 = .ok (.istore_n 1, 1) := by decide +kernel
theorem dX9_chosenMayBeSold_2 : decode cX9_chosenMayBeSold 2 = .ok (.iload_n 1, 1) := by decide +kernel
theorem dX9_chosenMayBeSold_3 : decode cX9_chosenMayBeSold 3 = .ok (.aload_n 0, 1) := by decide +kernel
theorem dX9_chosenMayBeSold_4 : decode cX9_chosenMayBeSold 4 = .ok (.getfield 35, 3) := by decide +kernel
theorem dX9_chosenMayBeSold_7 : decode cX9_chosenMayBeSold 7 = .ok (.invokevirtual 93, 3) := by decide +kernel
theorem dX9_chosenMayBeSold_10 : decode cX9_chosenMayBeSold 10 = .ok (.if_icmp .ge 29, 3) := by decide +kernel
theorem dX9_chosenMayBeSold_13 : decode cX9_chosenMayBeSold 13 = .ok (.aload_n 0, 1) := by decide +kernel
theorem dX9_chosenMayBeSold_14 : decode cX9_chosenMayBeSold 14 = .ok (.aload_n 0, 1) := by decide +kernel
theorem dX9_chosenMayBeSold_15 : decode cX9_chosenMayBeSold 15 = .ok (.getfield 35, 3) := by decide +kernel
theorem dX9_chosenMayBeSold_18 : decode cX9_chosenMayBeSold 18 = .ok (.iload_n 1, 1) := by decide +kernel
theorem dX9_chosenMayBeSold_19 : decode cX9_chosenMayBeSold 19 = .ok (.invokevirtual 144, 3) := by decide +kernel
theorem dX9_chosenMayBeSold_22 : decode cX9_chosenMayBeSold 22 = .ok (.checkcast 102, 3) := by decide +kernel
theorem dX9_chosenMayBeSold_25 : decode cX9_chosenMayBeSold 25 = .ok (.invokevirtual 243, 3) := by decide +kernel
theorem dX9_chosenMayBeSold_28 : decode cX9_chosenMayBeSold 28 = .ok (.ifCond .ne 5, 3) := by decide +kernel
theorem dX9_chosenMayBeSold_31 : decode cX9_chosenMayBeSold 31 = .ok (.iconst 0, 1) := by decide +kernel
theorem dX9_chosenMayBeSold_32 : decode cX9_chosenMayBeSold 32 = .ok (.ireturn, 1) := by decide +kernel
theorem dX9_chosenMayBeSold_33 : decode cX9_chosenMayBeSold 33 = .ok (.iinc 1 1, 3) := by decide +kernel
theorem dX9_chosenMayBeSold_36 : decode cX9_chosenMayBeSold 36 = .ok (.goto (-34), 3) := by decide +kernel
theorem dX9_chosenMayBeSold_39 : decode cX9_chosenMayBeSold 39 = .ok (.iconst 1, 1) := by decide +kernel
theorem dX9_chosenMayBeSold_40 : decode cX9_chosenMayBeSold 40 = .ok (.ireturn, 1) := by decide +kernel
theorem dX9_chosenAreKept_0 : decode cX9_chosenAreKept 0 = .ok (.iconst 0, 1) := by decide +kernel
theorem dX9_chosenAreKept_1 : decode cX9_chosenAreKept 1 = .ok (.istore_n 1, 1) := by decide +kernel
theorem dX9_chosenAreKept_2 : decode cX9_chosenAreKept 2 = .ok (.iload_n 1, 1) := by decide +kernel
theorem dX9_chosenAreKept_3 : decode cX9_chosenAreKept 3 = .ok (.aload_n 0, 1) := by decide +kernel
theorem dX9_chosenAreKept_4 : decode cX9_chosenAreKept 4 = .ok (.getfield 35, 3) := by decide +kernel
theorem dX9_chosenAreKept_7 : decode cX9_chosenAreKept 7 = .ok (.invokevirtual 93, 3) := by decide +kernel
theorem dX9_chosenAreKept_10 : decode cX9_chosenAreKept 10 = .ok (.if_icmp .ge 28, 3) := by decide +kernel
theorem dX9_chosenAreKept_13 : decode cX9_chosenAreKept 13 = .ok (.aload_n 0, 1) := by decide +kernel
theorem dX9_chosenAreKept_14 : decode cX9_chosenAreKept 14 = .ok (.getfield 35, 3) := by decide +kernel
theorem dX9_chosenAreKept_17 : decode cX9_chosenAreKept 17 = .ok (.iload_n 1, 1) := by decide +kernel
theorem dX9_chosenAreKept_18 : decode cX9_chosenAreKept 18 = .ok (.invokevirtual 144, 3) := by decide +kernel
theorem dX9_chosenAreKept_21 : decode cX9_chosenAreKept 21 = .ok (.checkcast 102, 3) := by decide +kernel
theorem dX9_chosenAreKept_24 : decode cX9_chosenAreKept 24 = .ok (.getfield 138, 3) := by decide +kernel
theorem dX9_chosenAreKept_27 : decode cX9_chosenAreKept 27 = .ok (.ifCond .eq 5, 3) := by decide +kernel
theorem dX9_chosenAreKept_30 : decode cX9_chosenAreKept 30 = .ok (.iconst 0, 1) := by decide +kernel
theorem dX9_chosenAreKept_31 : decode cX9_chosenAreKept 31 = .ok (.ireturn, 1) := by decide +kernel
theorem dX9_chosenAreKept_32 : decode cX9_chosenAreKept 32 = .ok (.iinc 1 1, 3) := by decide +kernel
theorem dX9_chosenAreKept_35 : decode cX9_chosenAreKept 35 = .ok (.goto (-33), 3) := by decide +kernel
theorem dX9_chosenAreKept_38 : decode cX9_chosenAreKept 38 = .ok (.iconst 1, 1) := by decide +kernel
theorem dX9_chosenAreKept_39 : decode cX9_chosenAreKept 39 = .ok (.ireturn, 1) := by decide +kernel
theorem dX9_chosenWorths_0 : decode cX9_chosenWorths 0 = .ok (.iconst 0, 1) := by decide +kernel
theorem dX9_chosenWorths_1 : decode cX9_chosenWorths 1 = .ok (.istore_n 1, 1) := by decide +kernel
theorem dX9_chosenWorths_2 : decode cX9_chosenWorths 2 = .ok (.iconst 0, 1) := by decide +kernel
theorem dX9_chosenWorths_3 : decode cX9_chosenWorths 3 = .ok (.istore_n 2, 1) := by decide +kernel
theorem dX9_chosenWorths_4 : decode cX9_chosenWorths 4 = .ok (.iload_n 2, 1) := by decide +kernel
theorem dX9_chosenWorths_5 : decode cX9_chosenWorths 5 = .ok (.aload_n 0, 1) := by decide +kernel
theorem dX9_chosenWorths_6 : decode cX9_chosenWorths 6 = .ok (.getfield 35, 3) := by decide +kernel
theorem dX9_chosenWorths_9 : decode cX9_chosenWorths 9 = .ok (.invokevirtual 93, 3) := by decide +kernel
theorem dX9_chosenWorths_12 : decode cX9_chosenWorths 12 = .ok (.if_icmp .ge 26, 3) := by decide +kernel
theorem dX9_chosenWorths_15 : decode cX9_chosenWorths 15 = .ok (.iload_n 1, 1) := by decide +kernel
theorem dX9_chosenWorths_16 : decode cX9_chosenWorths 16 = .ok (.aload_n 0, 1) := by decide +kernel
theorem dX9_chosenWorths_17 : decode cX9_chosenWorths 17 = .ok (.getfield 35, 3) := by decide +kernel
theorem dX9_chosenWorths_20 : decode cX9_chosenWorths 20 = .ok (.iload_n 2, 1) := by decide +kernel
theorem dX9_chosenWorths_21 : decode cX9_chosenWorths 21 = .ok (.invokevirtual 144, 3) := by decide +kernel
theorem dX9_chosenWorths_24 : decode cX9_chosenWorths 24 = .ok (.checkcast 102, 3) := by decide +kernel
theorem dX9_chosenWorths_27 : decode cX9_chosenWorths 27 = .ok (.getfield 135, 3) := by decide +kernel
theorem dX9_chosenWorths_30 : decode cX9_chosenWorths 30 = .ok (.iadd, 1) := by decide +kernel
theorem dX9_chosenWorths_31 : decode cX9_chosenWorths 31 = .ok (.istore_n 1, 1) := by decide +kernel
theorem dX9_chosenWorths_32 : decode cX9_chosenWorths 32 = .ok (.iinc 2 1, 3) := by decide +kernel
theorem dX9_chosenWorths_35 : decode cX9_chosenWorths 35 = .ok (.goto (-31), 3) := by decide +kernel
theorem dX9_chosenWorths_38 : decode cX9_chosenWorths 38 = .ok (.iload_n 1, 1) := by decide +kernel
theorem dX9_chosenWorths_39 : decode cX9_chosenWorths 39 = .ok (.ireturn, 1) := by decide +kernel
theorem dX9_spread_0 : decode cX9_spread 0 = .ok (.iconst 0, 1) := by decide +kernel
theorem dX9_spread_1 : decode cX9_spread 1 = .ok (.istore_n 2, 1) := by decide +kernel
theorem dX9_spread_2 : decode cX9_spread 2 = .ok (.iconst 0, 1) := by decide +kernel
theorem dX9_spread_3 : decode cX9_spread 3 = .ok (.istore_n 3, 1) := by decide +kernel
theorem dX9_spread_4 : decode cX9_spread 4 = .ok (.iconst 0, 1) := by decide +kernel
theorem dX9_spread_5 : decode cX9_spread 5 = .ok (.istore 4, 2) := by decide +kernel
theorem dX9_spread_7 : decode cX9_spread 7 = .ok (.iload 4, 2) := by decide +kernel
theorem dX9_spread_9 : decode cX9_spread 9 = .ok (.bipush 20, 2) := by decide +kernel
theorem dX9_spread_11 : decode cX9_spread 11 = .ok (.if_icmp .ge 36, 3) := by decide +kernel
theorem dX9_spread_14 : decode cX9_spread 14 = .ok (.iload_n 1, 1) := by decide +kernel
theorem dX9_spread_15 : decode cX9_spread 15 = .ok (.iload 4, 2) := by decide +kernel
theorem dX9_spread_17 : decode cX9_spread 17 = .ok (.invokestatic 237, 3) := by decide +kernel
theorem dX9_spread_20 : decode cX9_spread 20 = .ok (.ifCond .eq 21, 3) := by decide +kernel
theorem dX9_spread_23 : decode cX9_spread 23 = .ok (.iload_n 0, 1) := by decide +kernel
theorem dX9_spread_24 : decode cX9_spread 24 = .ok (.iload_n 3, 1) := by decide +kernel
theorem dX9_spread_25 : decode cX9_spread 25 = .ok (.invokestatic 237, 3) := by decide +kernel
theorem dX9_spread_28 : decode cX9_spread 28 = .ok (.ifCond .eq 10, 3) := by decide +kernel
theorem dX9_spread_31 : decode cX9_spread 31 = .ok (.iload_n 2, 1) := by decide +kernel
theorem dX9_spread_32 : decode cX9_spread 32 = .ok (.iconst 1, 1) := by decide +kernel
theorem dX9_spread_33 : decode cX9_spread 33 = .ok (.iload 4, 2) := by decide +kernel
theorem dX9_spread_35 : decode cX9_spread 35 = .ok (.ishl, 1) := by decide +kernel
theorem dX9_spread_36 : decode cX9_spread 36 = .ok (.ior, 1) := by decide +kernel
theorem dX9_spread_37 : decode cX9_spread 37 = .ok (.istore_n 2, 1) := by decide +kernel
theorem dX9_spread_38 : decode cX9_spread 38 = .ok (.iinc 3 1, 3) := by decide +kernel
theorem dX9_spread_41 : decode cX9_spread 41 = .ok (.iinc 4 1, 3) := by decide +kernel
theorem dX9_spread_44 : decode cX9_spread 44 = .ok (.goto (-37), 3) := by decide +kernel
theorem dX9_spread_47 : decode cX9_spread 47 = .ok (.iload_n 2, 1) := by decide +kernel
theorem dX9_spread_48 : decode cX9_spread 48 = .ok (.ireturn, 1) := by decide +kernel
theorem dJ6_numberOfTrailingZeros_0f7a4_0 : decode cJ6_numberOfTrailingZeros_0f7a4 0 = .ok (.iload_n 0, 1) := by decide +kernel
theorem dJ6_numberOfTrailingZeros_0f7a4_1 : decode cJ6_numberOfTrailingZeros_0f7a4 1 = .ok (.iconst (-1), 1) := by decide +kernel
theorem dJ6_numberOfTrailingZeros_0f7a4_2 : decode cJ6_numberOfTrailingZeros_0f7a4 2 = .ok (.ixor, 1) := by decide +kernel
theorem dJ6_numberOfTrailingZeros_0f7a4_3 : decode cJ6_numberOfTrailingZeros_0f7a4 3 = .ok (.iload_n 0, 1) := by decide +kernel
theorem dJ6_numberOfTrailingZeros_0f7a4_4 : decode cJ6_numberOfTrailingZeros_0f7a4 4 = .ok (.iconst 1, 1) := by decide +kernel
theorem dJ6_numberOfTrailingZeros_0f7a4_5 : decode cJ6_numberOfTrailingZeros_0f7a4 5 = .ok (.isub, 1) := by decide +kernel
theorem dJ6_numberOfTrailingZeros_0f7a4_6 : decode cJ6_numberOfTrailingZeros_0f7a4 6 = .ok (.iand, 1) := by decide +kernel
theorem dJ6_numberOfTrailingZeros_0f7a4_7 : decode cJ6_numberOfTrailingZeros_0f7a4 7 = .ok (.istore_n 0, 1) := by decide +kernel
theorem dJ6_numberOfTrailingZeros_0f7a4_8 : decode cJ6_numberOfTrailingZeros_0f7a4 8 = .ok (.iload_n 0, 1) := by decide +kernel
theorem dJ6_numberOfTrailingZeros_0f7a4_9 : decode cJ6_numberOfTrailingZeros_0f7a4 9 = .ok (.ifCond .gt 8, 3) := by decide +kernel
theorem dJ6_numberOfTrailingZeros_0f7a4_12 : decode cJ6_numberOfTrailingZeros_0f7a4 12 = .ok (.iload_n 0, 1) := by decide +kernel
theorem dJ6_numberOfTrailingZeros_0f7a4_13 : decode cJ6_numberOfTrailingZeros_0f7a4 13 = .ok (.bipush 32, 2) := by decide +kernel
theorem dJ6_numberOfTrailingZeros_0f7a4_15 : decode cJ6_numberOfTrailingZeros_0f7a4 15 = .ok (.iand, 1) := by decide +kernel
theorem dJ6_numberOfTrailingZeros_0f7a4_16 : decode cJ6_numberOfTrailingZeros_0f7a4 16 = .ok (.ireturn, 1) := by decide +kernel
theorem dJ6_numberOfTrailingZeros_0f7a4_17 : decode cJ6_numberOfTrailingZeros_0f7a4 17 = .ok (.iconst 1, 1) := by decide +kernel
theorem dJ6_numberOfTrailingZeros_0f7a4_18 : decode cJ6_numberOfTrailingZeros_0f7a4 18 = .ok (.istore_n 1, 1) := by decide +kernel
theorem dJ6_numberOfTrailingZeros_0f7a4_19 : decode cJ6_numberOfTrailingZeros_0f7a4 19 = .ok (.iload_n 0, 1) := by decide +kernel
theorem dJ6_numberOfTrailingZeros_0f7a4_20 : decode cJ6_numberOfTrailingZeros_0f7a4 20 = .ok (.ldc_w 264, 3) := by decide +kernel
theorem dJ6_numberOfTrailingZeros_0f7a4_23 : decode cJ6_numberOfTrailingZeros_0f7a4 23 = .ok (.if_icmp .le 11, 3) := by decide +kernel
theorem dJ6_numberOfTrailingZeros_0f7a4_26 : decode cJ6_numberOfTrailingZeros_0f7a4 26 = .ok (.iinc 1 16, 3) := by decide +kernel
theorem dJ6_numberOfTrailingZeros_0f7a4_29 : decode cJ6_numberOfTrailingZeros_0f7a4 29 = .ok (.iload_n 0, 1) := by decide +kernel
theorem dJ6_numberOfTrailingZeros_0f7a4_30 : decode cJ6_numberOfTrailingZeros_0f7a4 30 = .ok (.bipush 16, 2) := by decide +kernel
theorem dJ6_numberOfTrailingZeros_0f7a4_32 : decode cJ6_numberOfTrailingZeros_0f7a4 32 = .ok (.iushr, 1) := by decide +kernel
theorem dJ6_numberOfTrailingZeros_0f7a4_33 : decode cJ6_numberOfTrailingZeros_0f7a4 33 = .ok (.istore_n 0, 1) := by decide +kernel
theorem dJ6_numberOfTrailingZeros_0f7a4_34 : decode cJ6_numberOfTrailingZeros_0f7a4 34 = .ok (.iload_n 0, 1) := by decide +kernel
theorem dJ6_numberOfTrailingZeros_0f7a4_35 : decode cJ6_numberOfTrailingZeros_0f7a4 35 = .ok (.sipush 256, 3) := by decide +kernel
theorem dJ6_numberOfTrailingZeros_0f7a4_38 : decode cJ6_numberOfTrailingZeros_0f7a4 38 = .ok (.if_icmp .le 11, 3) := by decide +kernel
theorem dJ6_numberOfTrailingZeros_0f7a4_41 : decode cJ6_numberOfTrailingZeros_0f7a4 41 = .ok (.iinc 1 8, 3) := by decide +kernel
theorem dJ6_numberOfTrailingZeros_0f7a4_44 : decode cJ6_numberOfTrailingZeros_0f7a4 44 = .ok (.iload_n 0, 1) := by decide +kernel
theorem dJ6_numberOfTrailingZeros_0f7a4_45 : decode cJ6_numberOfTrailingZeros_0f7a4 45 = .ok (.bipush 8, 2) := by decide +kernel
theorem dJ6_numberOfTrailingZeros_0f7a4_47 : decode cJ6_numberOfTrailingZeros_0f7a4 47 = .ok (.iushr, 1) := by decide +kernel
theorem dJ6_numberOfTrailingZeros_0f7a4_48 : decode cJ6_numberOfTrailingZeros_0f7a4 48 = .ok (.istore_n 0, 1) := by decide +kernel
theorem dJ6_numberOfTrailingZeros_0f7a4_49 : decode cJ6_numberOfTrailingZeros_0f7a4 49 = .ok (.iload_n 0, 1) := by decide +kernel
theorem dJ6_numberOfTrailingZeros_0f7a4_50 : decode cJ6_numberOfTrailingZeros_0f7a4 50 = .ok (.bipush 16, 2) := by decide +kernel
theorem dJ6_numberOfTrailingZeros_0f7a4_52 : decode cJ6_numberOfTrailingZeros_0f7a4 52 = .ok (.if_icmp .le 10, 3) := by decide +kernel
theorem dJ6_numberOfTrailingZeros_0f7a4_55 : decode cJ6_numberOfTrailingZeros_0f7a4 55 = .ok (.iinc 1 4, 3) := by decide +kernel
theorem dJ6_numberOfTrailingZeros_0f7a4_58 : decode cJ6_numberOfTrailingZeros_0f7a4 58 = .ok (.iload_n 0, 1) := by decide +kernel
theorem dJ6_numberOfTrailingZeros_0f7a4_59 : decode cJ6_numberOfTrailingZeros_0f7a4 59 = .ok (.iconst 4, 1) := by decide +kernel
theorem dJ6_numberOfTrailingZeros_0f7a4_60 : decode cJ6_numberOfTrailingZeros_0f7a4 60 = .ok (.iushr, 1) := by decide +kernel
theorem dJ6_numberOfTrailingZeros_0f7a4_61 : decode cJ6_numberOfTrailingZeros_0f7a4 61 = .ok (.istore_n 0, 1) := by decide +kernel
theorem dJ6_numberOfTrailingZeros_0f7a4_62 : decode cJ6_numberOfTrailingZeros_0f7a4 62 = .ok (.iload_n 0, 1) := by decide +kernel
theorem dJ6_numberOfTrailingZeros_0f7a4_63 : decode cJ6_numberOfTrailingZeros_0f7a4 63 = .ok (.iconst 4, 1) := by decide +kernel
theorem dJ6_numberOfTrailingZeros_0f7a4_64 : decode cJ6_numberOfTrailingZeros_0f7a4 64 = .ok (.if_icmp .le 10, 3) := by decide +kernel
theorem dJ6_numberOfTrailingZeros_0f7a4_67 : decode cJ6_numberOfTrailingZeros_0f7a4 67 = .ok (.iinc 1 2, 3) := by decide +kernel
theorem dJ6_numberOfTrailingZeros_0f7a4_70 : decode cJ6_numberOfTrailingZeros_0f7a4 70 = .ok (.iload_n 0, 1) := by decide +kernel
theorem dJ6_numberOfTrailingZeros_0f7a4_71 : decode cJ6_numberOfTrailingZeros_0f7a4 71 = .ok (.iconst 2, 1) := by decide +kernel
theorem dJ6_numberOfTrailingZeros_0f7a4_72 : decode cJ6_numberOfTrailingZeros_0f7a4 72 = .ok (.iushr, 1) := by decide +kernel
theorem dJ6_numberOfTrailingZeros_0f7a4_73 : decode cJ6_numberOfTrailingZeros_0f7a4 73 = .ok (.istore_n 0, 1) := by decide +kernel
theorem dJ6_numberOfTrailingZeros_0f7a4_74 : decode cJ6_numberOfTrailingZeros_0f7a4 74 = .ok (.iload_n 1, 1) := by decide +kernel
theorem dJ6_numberOfTrailingZeros_0f7a4_75 : decode cJ6_numberOfTrailingZeros_0f7a4 75 = .ok (.iload_n 0, 1) := by decide +kernel
theorem dJ6_numberOfTrailingZeros_0f7a4_76 : decode cJ6_numberOfTrailingZeros_0f7a4 76 = .ok (.iconst 1, 1) := by decide +kernel
theorem dJ6_numberOfTrailingZeros_0f7a4_77 : decode cJ6_numberOfTrailingZeros_0f7a4 77 = .ok (.iushr, 1) := by decide +kernel
theorem dJ6_numberOfTrailingZeros_0f7a4_78 : decode cJ6_numberOfTrailingZeros_0f7a4 78 = .ok (.iadd, 1) := by decide +kernel
theorem dJ6_numberOfTrailingZeros_0f7a4_79 : decode cJ6_numberOfTrailingZeros_0f7a4 79 = .ok (.ireturn, 1) := by decide +kernel
theorem dJ6_bitCount_0f7a4_0 : decode cJ6_bitCount_0f7a4 0 = .ok (.iload_n 0, 1) := by decide +kernel
theorem dJ6_bitCount_0f7a4_1 : decode cJ6_bitCount_0f7a4 1 = .ok (.iload_n 0, 1) := by decide +kernel
theorem dJ6_bitCount_0f7a4_2 : decode cJ6_bitCount_0f7a4 2 = .ok (.iconst 1, 1) := by decide +kernel
theorem dJ6_bitCount_0f7a4_3 : decode cJ6_bitCount_0f7a4 3 = .ok (.iushr, 1) := by decide +kernel
theorem dJ6_bitCount_0f7a4_4 : decode cJ6_bitCount_0f7a4 4 = .ok (.ldc_w 265, 3) := by decide +kernel
theorem dJ6_bitCount_0f7a4_7 : decode cJ6_bitCount_0f7a4 7 = .ok (.iand, 1) := by decide +kernel
theorem dJ6_bitCount_0f7a4_8 : decode cJ6_bitCount_0f7a4 8 = .ok (.isub, 1) := by decide +kernel
theorem dJ6_bitCount_0f7a4_9 : decode cJ6_bitCount_0f7a4 9 = .ok (.istore_n 0, 1) := by decide +kernel
theorem dJ6_bitCount_0f7a4_10 : decode cJ6_bitCount_0f7a4 10 = .ok (.iload_n 0, 1) := by decide +kernel
theorem dJ6_bitCount_0f7a4_11 : decode cJ6_bitCount_0f7a4 11 = .ok (.ldc_w 266, 3) := by decide +kernel
theorem dJ6_bitCount_0f7a4_14 : decode cJ6_bitCount_0f7a4 14 = .ok (.iand, 1) := by decide +kernel
theorem dJ6_bitCount_0f7a4_15 : decode cJ6_bitCount_0f7a4 15 = .ok (.iload_n 0, 1) := by decide +kernel
theorem dJ6_bitCount_0f7a4_16 : decode cJ6_bitCount_0f7a4 16 = .ok (.iconst 2, 1) := by decide +kernel
theorem dJ6_bitCount_0f7a4_17 : decode cJ6_bitCount_0f7a4 17 = .ok (.iushr, 1) := by decide +kernel
theorem dJ6_bitCount_0f7a4_18 : decode cJ6_bitCount_0f7a4 18 = .ok (.ldc_w 266, 3) := by decide +kernel
theorem dJ6_bitCount_0f7a4_21 : decode cJ6_bitCount_0f7a4 21 = .ok (.iand, 1) := by decide +kernel
theorem dJ6_bitCount_0f7a4_22 : decode cJ6_bitCount_0f7a4 22 = .ok (.iadd, 1) := by decide +kernel
theorem dJ6_bitCount_0f7a4_23 : decode cJ6_bitCount_0f7a4 23 = .ok (.istore_n 0, 1) := by decide +kernel
theorem dJ6_bitCount_0f7a4_24 : decode cJ6_bitCount_0f7a4 24 = .ok (.iload_n 0, 1) := by decide +kernel
theorem dJ6_bitCount_0f7a4_25 : decode cJ6_bitCount_0f7a4 25 = .ok (.iload_n 0, 1) := by decide +kernel
theorem dJ6_bitCount_0f7a4_26 : decode cJ6_bitCount_0f7a4 26 = .ok (.iconst 4, 1) := by decide +kernel
theorem dJ6_bitCount_0f7a4_27 : decode cJ6_bitCount_0f7a4 27 = .ok (.iushr, 1) := by decide +kernel
theorem dJ6_bitCount_0f7a4_28 : decode cJ6_bitCount_0f7a4 28 = .ok (.iadd, 1) := by decide +kernel
theorem dJ6_bitCount_0f7a4_29 : decode cJ6_bitCount_0f7a4 29 = .ok (.ldc_w 267, 3) := by decide +kernel
theorem dJ6_bitCount_0f7a4_32 : decode cJ6_bitCount_0f7a4 32 = .ok (.iand, 1) := by decide +kernel
theorem dJ6_bitCount_0f7a4_33 : decode cJ6_bitCount_0f7a4 33 = .ok (.istore_n 0, 1) := by decide +kernel
theorem dJ6_bitCount_0f7a4_34 : decode cJ6_bitCount_0f7a4 34 = .ok (.iload_n 0, 1) := by decide +kernel
theorem dJ6_bitCount_0f7a4_35 : decode cJ6_bitCount_0f7a4 35 = .ok (.iload_n 0, 1) := by decide +kernel
theorem dJ6_bitCount_0f7a4_36 : decode cJ6_bitCount_0f7a4 36 = .ok (.bipush 8, 2) := by decide +kernel
theorem dJ6_bitCount_0f7a4_38 : decode cJ6_bitCount_0f7a4 38 = .ok (.iushr, 1) := by decide +kernel
theorem dJ6_bitCount_0f7a4_39 : decode cJ6_bitCount_0f7a4 39 = .ok (.iadd, 1) := by decide +kernel
theorem dJ6_bitCount_0f7a4_40 : decode cJ6_bitCount_0f7a4 40 = .ok (.istore_n 0, 1) := by decide +kernel
theorem dJ6_bitCount_0f7a4_41 : decode cJ6_bitCount_0f7a4 41 = .ok (.iload_n 0, 1) := by decide +kernel
theorem dJ6_bitCount_0f7a4_42 : decode cJ6_bitCount_0f7a4 42 = .ok (.iload_n 0, 1) := by decide +kernel
theorem dJ6_bitCount_0f7a4_43 : decode cJ6_bitCount_0f7a4 43 = .ok (.bipush 16, 2) := by decide +kernel
theorem dJ6_bitCount_0f7a4_45 : decode cJ6_bitCount_0f7a4 45 = .ok (.iushr, 1) := by decide +kernel
theorem dJ6_bitCount_0f7a4_46 : decode cJ6_bitCount_0f7a4 46 = .ok (.iadd, 1) := by decide +kernel
theorem dJ6_bitCount_0f7a4_47 : decode cJ6_bitCount_0f7a4 47 = .ok (.istore_n 0, 1) := by decide +kernel
theorem dJ6_bitCount_0f7a4_48 : decode cJ6_bitCount_0f7a4 48 = .ok (.iload_n 0, 1) := by decide +kernel
theorem dJ6_bitCount_0f7a4_49 : decode cJ6_bitCount_0f7a4 49 = .ok (.bipush 63, 2) := by decide +kernel
theorem dJ6_bitCount_0f7a4_51 : decode cJ6_bitCount_0f7a4 51 = .ok (.iand, 1) := by decide +kernel
theorem dJ6_bitCount_0f7a4_52 : decode cJ6_bitCount_0f7a4 52 = .ok (.ireturn, 1) := by decide +kernel
theorem dJ9_abs_0f7a4_0 : decode cJ9_abs_0f7a4 0 = .ok (.iload_n 0, 1) := by decide +kernel
theorem dJ9_abs_0f7a4_1 : decode cJ9_abs_0f7a4 1 = .ok (.ifCond .ge 8, 3) := by decide +kernel
theorem dJ9_abs_0f7a4_4 : decode cJ9_abs_0f7a4 4 = .ok (.iload_n 0, 1) := by decide +kernel
theorem dJ9_abs_0f7a4_5 : decode cJ9_abs_0f7a4 5 = .ok (.ineg, 1) := by decide +kernel
theorem dJ9_abs_0f7a4_6 : decode cJ9_abs_0f7a4 6 = .ok (.goto 4, 3) := by decide +kernel
theorem dJ9_abs_0f7a4_9 : decode cJ9_abs_0f7a4 9 = .ok (.iload_n 0, 1) := by decide +kernel
theorem dJ9_abs_0f7a4_10 : decode cJ9_abs_0f7a4 10 = .ok (.ireturn, 1) := by decide +kernel
theorem dJ9_max_7cf53_0 : decode cJ9_max_7cf53 0 = .ok (.iload_n 0, 1) := by decide +kernel
theorem dJ9_max_7cf53_1 : decode cJ9_max_7cf53 1 = .ok (.iload_n 1, 1) := by decide +kernel
theorem dJ9_max_7cf53_2 : decode cJ9_max_7cf53 2 = .ok (.if_icmp .lt 7, 3) := by decide +kernel
theorem dJ9_max_7cf53_5 : decode cJ9_max_7cf53 5 = .ok (.iload_n 0, 1) := by decide +kernel
theorem dJ9_max_7cf53_6 : decode cJ9_max_7cf53 6 = .ok (.goto 4, 3) := by decide +kernel
theorem dJ9_max_7cf53_9 : decode cJ9_max_7cf53 9 = .ok (.iload_n 1, 1) := by decide +kernel
theorem dJ9_max_7cf53_10 : decode cJ9_max_7cf53 10 = .ok (.ireturn, 1) := by decide +kernel
theorem dJ9_max_f86c9_0 : decode cJ9_max_f86c9 0 = .ok (.lload_n 0, 1) := by decide +kernel
theorem dJ9_max_f86c9_1 : decode cJ9_max_f86c9 1 = .ok (.lload_n 2, 1) := by decide +kernel
theorem dJ9_max_f86c9_2 : decode cJ9_max_f86c9 2 = .ok (.lcmp, 1) := by decide +kernel
theorem dJ9_max_f86c9_3 : decode cJ9_max_f86c9 3 = .ok (.ifCond .lt 7, 3) := by decide +kernel
theorem dJ9_max_f86c9_6 : decode cJ9_max_f86c9 6 = .ok (.lload_n 0, 1) := by decide +kernel
theorem dJ9_max_f86c9_7 : decode cJ9_max_f86c9 7 = .ok (.goto 4, 3) := by decide +kernel
theorem dJ9_max_f86c9_10 : decode cJ9_max_f86c9 10 = .ok (.lload_n 2, 1) := by decide +kernel
theorem dJ9_max_f86c9_11 : decode cJ9_max_f86c9 11 = .ok (.lreturn, 1) := by decide +kernel
theorem dJ9_min_7cf53_0 : decode cJ9_min_7cf53 0 = .ok (.iload_n 0, 1) := by decide +kernel
theorem dJ9_min_7cf53_1 : decode cJ9_min_7cf53 1 = .ok (.iload_n 1, 1) := by decide +kernel
theorem dJ9_min_7cf53_2 : decode cJ9_min_7cf53 2 = .ok (.if_icmp .gt 7, 3) := by decide +kernel
theorem dJ9_min_7cf53_5 : decode cJ9_min_7cf53 5 = .ok (.iload_n 0, 1) := by decide +kernel
theorem dJ9_min_7cf53_6 : decode cJ9_min_7cf53 6 = .ok (.goto 4, 3) := by decide +kernel
theorem dJ9_min_7cf53_9 : decode cJ9_min_7cf53 9 = .ok (.iload_n 1, 1) := by decide +kernel
theorem dJ9_min_7cf53_10 : decode cJ9_min_7cf53 10 = .ok (.ireturn, 1) := by decide +kernel
theorem dJxa1e45_init_da8c8_0 : decode cJxa1e45_init_da8c8 0 = .ok (.aload_n 0, 1) := by decide +kernel
theorem dJxa1e45_init_da8c8_1 : decode cJxa1e45_init_da8c8 1 = .ok (.invokespecial 1, 3) := by decide +kernel
theorem dJxa1e45_init_da8c8_4 : decode cJxa1e45_init_da8c8 4 = .ok (.return_, 1) := by decide +kernel
theorem dJxc12de_init_da8c8_0 : decode cJxc12de_init_da8c8 0 = .ok (.aload_n 0, 1) := by decide +kernel
theorem dJxc12de_init_da8c8_1 : decode cJxc12de_init_da8c8 1 = .ok (.invokespecial 1, 3) := by decide +kernel
theorem dJxc12de_init_da8c8_4 : decode cJxc12de_init_da8c8 4 = .ok (.aload_n 0, 1) := by decide +kernel
theorem dJxc12de_init_da8c8_5 : decode cJxc12de_init_da8c8 5 = .ok (.iconst 0, 1) := by decide +kernel
theorem dJxc12de_init_da8c8_6 : decode cJxc12de_init_da8c8 6 = .ok (.putfield 7, 3) := by decide +kernel
theorem dJxc12de_init_da8c8_9 : decode cJxc12de_init_da8c8 9 = .ok (.return_, 1) := by decide +kernel
theorem dJx4a65c_init_da8c8_0 : decode cJx4a65c_init_da8c8 0 = .ok (.aload_n 0, 1) := by decide +kernel
theorem dJx4a65c_init_da8c8_1 : decode cJx4a65c_init_da8c8 1 = .ok (.invokespecial 1, 3) := by decide +kernel
theorem dJx4a65c_init_da8c8_4 : decode cJx4a65c_init_da8c8 4 = .ok (.aload_n 0, 1) := by decide +kernel
theorem dJx4a65c_init_da8c8_5 : decode cJx4a65c_init_da8c8 5 = .ok (.getstatic 39, 3) := by decide +kernel
theorem dJx4a65c_init_da8c8_8 : decode cJx4a65c_init_da8c8 8 = .ok (.putfield 9, 3) := by decide +kernel
theorem dJx4a65c_init_da8c8_11 : decode cJx4a65c_init_da8c8 11 = .ok (.return_, 1) := by decide +kernel
theorem dJx4a65c_grow_92f84_0 : decode cJx4a65c_grow_92f84 0 = .ok (.aload_n 0, 1) := by decide +kernel
theorem dJx4a65c_grow_92f84_1 : decode cJx4a65c_grow_92f84 1 = .ok (.getfield 9, 3) := by decide +kernel
theorem dJx4a65c_grow_92f84_4 : decode cJx4a65c_grow_92f84 4 = .ok (.arraylength, 1) := by decide +kernel
theorem dJx4a65c_grow_92f84_5 : decode cJx4a65c_grow_92f84 5 = .ok (.istore_n 2, 1) := by decide +kernel
theorem dJx4a65c_grow_92f84_6 : decode cJx4a65c_grow_92f84 6 = .ok (.iload_n 2, 1) := by decide +kernel
theorem dJx4a65c_grow_92f84_7 : decode cJx4a65c_grow_92f84 7 = .ok (.ifCond .gt 13, 3) := by decide +kernel
theorem dJx4a65c_grow_92f84_10 : decode cJx4a65c_grow_92f84 10 = .ok (.aload_n 0, 1) := by decide +kernel
theorem dJx4a65c_grow_92f84_11 : decode cJx4a65c_grow_92f84 11 = .ok (.getfield 9, 3) := by decide +kernel
theorem dJx4a65c_grow_92f84_14 : decode cJx4a65c_grow_92f84 14 = .ok (.getstatic 39, 3) := by decide +kernel
theorem dJx4a65c_grow_92f84_17 : decode cJx4a65c_grow_92f84 17 = .ok (.if_acmp .eq 28, 3) := by decide +kernel
theorem dJx4a65c_grow_92f84_20 : decode cJx4a65c_grow_92f84 20 = .ok (.iload_n 2, 1) := by decide +kernel
theorem dJx4a65c_grow_92f84_21 : decode cJx4a65c_grow_92f84 21 = .ok (.iload_n 1, 1) := by decide +kernel
theorem dJx4a65c_grow_92f84_22 : decode cJx4a65c_grow_92f84 22 = .ok (.iload_n 2, 1) := by decide +kernel
theorem dJx4a65c_grow_92f84_23 : decode cJx4a65c_grow_92f84 23 = .ok (.isub, 1) := by decide +kernel
theorem dJx4a65c_grow_92f84_24 : decode cJx4a65c_grow_92f84 24 = .ok (.iload_n 2, 1) := by decide +kernel
theorem dJx4a65c_grow_92f84_25 : decode cJx4a65c_grow_92f84 25 = .ok (.iconst 1, 1) := by decide +kernel
theorem dJx4a65c_grow_92f84_26 : decode cJx4a65c_grow_92f84 26 = .ok (.ishr, 1) := by decide +kernel
theorem dJx4a65c_grow_92f84_27 : decode cJx4a65c_grow_92f84 27 = .ok (.invokestatic 73, 3) := by decide +kernel
theorem dJx4a65c_grow_92f84_30 : decode cJx4a65c_grow_92f84 30 = .ok (.istore_n 3, 1) := by decide +kernel
theorem dJx4a65c_grow_92f84_31 : decode cJx4a65c_grow_92f84 31 = .ok (.aload_n 0, 1) := by decide +kernel
theorem dJx4a65c_grow_92f84_32 : decode cJx4a65c_grow_92f84 32 = .ok (.aload_n 0, 1) := by decide +kernel
theorem dJx4a65c_grow_92f84_33 : decode cJx4a65c_grow_92f84 33 = .ok (.getfield 9, 3) := by decide +kernel
theorem dJx4a65c_grow_92f84_36 : decode cJx4a65c_grow_92f84 36 = .ok (.iload_n 3, 1) := by decide +kernel
theorem dJx4a65c_grow_92f84_37 : decode cJx4a65c_grow_92f84 37 = .ok (.invokestatic 66, 3) := by decide +kernel
theorem dJx4a65c_grow_92f84_40 : decode cJx4a65c_grow_92f84 40 = .ok (.dup_x1, 1) := by decide +kernel
theorem dJx4a65c_grow_92f84_41 : decode cJx4a65c_grow_92f84 41 = .ok (.putfield 9, 3) := by decide +kernel
theorem dJx4a65c_grow_92f84_44 : decode cJx4a65c_grow_92f84 44 = .ok (.areturn, 1) := by decide +kernel
theorem dJx4a65c_grow_92f84_45 : decode cJx4a65c_grow_92f84 45 = .ok (.aload_n 0, 1) := by decide +kernel
theorem dJx4a65c_grow_92f84_46 : decode cJx4a65c_grow_92f84 46 = .ok (.bipush 10, 2) := by decide +kernel
theorem dJx4a65c_grow_92f84_48 : decode cJx4a65c_grow_92f84 48 = .ok (.iload_n 1, 1) := by decide +kernel
theorem dJx4a65c_grow_92f84_49 : decode cJx4a65c_grow_92f84 49 = .ok (.invokestatic 79, 3) := by decide +kernel
theorem dJx4a65c_grow_92f84_52 : decode cJx4a65c_grow_92f84 52 = .ok (.anewarray 7, 3) := by decide +kernel
theorem dJx4a65c_grow_92f84_55 : decode cJx4a65c_grow_92f84 55 = .ok (.dup_x1, 1) := by decide +kernel
theorem dJx4a65c_grow_92f84_56 : decode cJx4a65c_grow_92f84 56 = .ok (.putfield 9, 3) := by decide +kernel
theorem dJx4a65c_grow_92f84_59 : decode cJx4a65c_grow_92f84 59 = .ok (.areturn, 1) := by decide +kernel
theorem dJx4a65c_grow_d5877_0 : decode cJx4a65c_grow_d5877 0 = .ok (.aload_n 0, 1) := by decide +kernel
theorem dJx4a65c_grow_d5877_1 : decode cJx4a65c_grow_d5877 1 = .ok (.aload_n 0, 1) := by decide +kernel
theorem dJx4a65c_grow_d5877_2 : decode cJx4a65c_grow_d5877 2 = .ok (.getfield 48, 3) := by decide +kernel
theorem dJx4a65c_grow_d5877_5 : decode cJx4a65c_grow_d5877 5 = .ok (.iconst 1, 1) := by decide +kernel
theorem dJx4a65c_grow_d5877_6 : decode cJx4a65c_grow_d5877 6 = .ok (.iadd, 1) := by decide +kernel
theorem dJx4a65c_grow_d5877_7 : decode cJx4a65c_grow_d5877 7 = .ok (.invokevirtual 69, 3) := by decide +kernel
theorem dJx4a65c_grow_d5877_10 : decode cJx4a65c_grow_d5877 10 = .ok (.areturn, 1) := by decide +kernel
theorem dJx4a65c_size_8abf5_0 : decode cJx4a65c_size_8abf5 0 = .ok (.aload_n 0, 1) := by decide +kernel
theorem dJx4a65c_size_8abf5_1 : decode cJx4a65c_size_8abf5 1 = .ok (.getfield 48, 3) := by decide +kernel
theorem dJx4a65c_size_8abf5_4 : decode cJx4a65c_size_8abf5 4 = .ok (.ireturn, 1) := by decide +kernel
theorem dJx4a65c_isEmpty_aae02_0 : decode cJx4a65c_isEmpty_aae02 0 = .ok (.aload_n 0, 1) := by decide +kernel
theorem dJx4a65c_isEmpty_aae02_1 : decode cJx4a65c_isEmpty_aae02 1 = .ok (.getfield 48, 3) := by decide +kernel
theorem dJx4a65c_isEmpty_aae02_4 : decode cJx4a65c_isEmpty_aae02 4 = .ok (.ifCond .ne 7, 3) := by decide +kernel
theorem dJx4a65c_isEmpty_aae02_7 : decode cJx4a65c_isEmpty_aae02 7 = .ok (.iconst 1, 1) := by decide +kernel
theorem dJx4a65c_isEmpty_aae02_8 : decode cJx4a65c_isEmpty_aae02 8 = .ok (.goto 4, 3) := by decide +kernel
theorem dJx4a65c_isEmpty_aae02_11 : decode cJx4a65c_isEmpty_aae02 11 = .ok (.iconst 0, 1) := by decide +kernel
theorem dJx4a65c_isEmpty_aae02_12 : decode cJx4a65c_isEmpty_aae02 12 = .ok (.ireturn, 1) := by decide +kernel
theorem dJx4a65c_elementData_915e3_0 : decode cJx4a65c_elementData_915e3 0 = .ok (.aload_n 0, 1) := by decide +kernel
theorem dJx4a65c_elementData_915e3_1 : decode cJx4a65c_elementData_915e3 1 = .ok (.getfield 9, 3) := by decide +kernel
theorem dJx4a65c_elementData_915e3_4 : decode cJx4a65c_elementData_915e3 4 = .ok (.iload_n 1, 1) := by decide +kernel
theorem dJx4a65c_elementData_915e3_5 : decode cJx4a65c_elementData_915e3 5 = .ok (.aaload, 1) := by decide +kernel
theorem dJx4a65c_elementData_915e3_6 : decode cJx4a65c_elementData_915e3 6 = .ok (.areturn, 1) := by decide +kernel
theorem dJx4a65c_get_915e3_0 : decode cJx4a65c_get_915e3 0 = .ok (.iload_n 1, 1) := by decide +kernel
theorem dJx4a65c_get_915e3_1 : decode cJx4a65c_get_915e3 1 = .ok (.aload_n 0, 1) := by decide +kernel
theorem dJx4a65c_get_915e3_2 : decode cJx4a65c_get_915e3 2 = .ok (.getfield 48, 3) := by decide +kernel
theorem dJx4a65c_get_915e3_5 : decode cJx4a65c_get_915e3 5 = .ok (.invokestatic 118, 3) := by decide +kernel
theorem dJx4a65c_get_915e3_8 : decode cJx4a65c_get_915e3 8 = .ok (.pop, 1) := by decide +kernel
theorem dJx4a65c_get_915e3_9 : decode cJx4a65c_get_915e3 9 = .ok (.aload_n 0, 1) := by decide +kernel
theorem dJx4a65c_get_915e3_10 : decode cJx4a65c_get_915e3 10 = .ok (.iload_n 1, 1) := by decide +kernel
theorem dJx4a65c_get_915e3_11 : decode cJx4a65c_get_915e3 11 = .ok (.invokevirtual 123, 3) := by decide +kernel
theorem dJx4a65c_get_915e3_14 : decode cJx4a65c_get_915e3 14 = .ok (.areturn, 1) := by decide +kernel
theorem dJx4a65c_add_72be8_0 : decode cJx4a65c_add_72be8 0 = .ok (.iload_n 3, 1) := by decide +kernel
theorem dJx4a65c_add_72be8_1 : decode cJx4a65c_add_72be8 1 = .ok (.aload_n 2, 1) := by decide +kernel
theorem dJx4a65c_add_72be8_2 : decode cJx4a65c_add_72be8 2 = .ok (.arraylength, 1) := by decide +kernel
theorem dJx4a65c_add_72be8_3 : decode cJx4a65c_add_72be8 3 = .ok (.if_icmp .ne 8, 3) := by decide +kernel
theorem dJx4a65c_add_72be8_6 : decode cJx4a65c_add_72be8 6 = .ok (.aload_n 0, 1) := by decide +kernel
theorem dJx4a65c_add_72be8_7 : decode cJx4a65c_add_72be8 7 = .ok (.invokevirtual 129, 3) := by decide +kernel
theorem dJx4a65c_add_72be8_10 : decode cJx4a65c_add_72be8 10 = .ok (.astore_n 2, 1) := by decide +kernel
theorem dJx4a65c_add_72be8_11 : decode cJx4a65c_add_72be8 11 = .ok (.aload_n 2, 1) := by decide +kernel
theorem dJx4a65c_add_72be8_12 : decode cJx4a65c_add_72be8 12 = .ok (.iload_n 3, 1) := by decide +kernel
theorem dJx4a65c_add_72be8_13 : decode cJx4a65c_add_72be8 13 = .ok (.aload_n 1, 1) := by decide +kernel
theorem dJx4a65c_add_72be8_14 : decode cJx4a65c_add_72be8 14 = .ok (.aastore, 1) := by decide +kernel
theorem dJx4a65c_add_72be8_15 : decode cJx4a65c_add_72be8 15 = .ok (.aload_n 0, 1) := by decide +kernel
theorem dJx4a65c_add_72be8_16 : decode cJx4a65c_add_72be8 16 = .ok (.iload_n 3, 1) := by decide +kernel
theorem dJx4a65c_add_72be8_17 : decode cJx4a65c_add_72be8 17 = .ok (.iconst 1, 1) := by decide +kernel
theorem dJx4a65c_add_72be8_18 : decode cJx4a65c_add_72be8 18 = .ok (.iadd, 1) := by decide +kernel
theorem dJx4a65c_add_72be8_19 : decode cJx4a65c_add_72be8 19 = .ok (.putfield 48, 3) := by decide +kernel
theorem dJx4a65c_add_72be8_22 : decode cJx4a65c_add_72be8 22 = .ok (.return_, 1) := by decide +kernel
theorem dJx4a65c_add_9ea2d_0 : decode cJx4a65c_add_9ea2d 0 = .ok (.aload_n 0, 1) := by decide +kernel
theorem dJx4a65c_add_9ea2d_1 : decode cJx4a65c_add_9ea2d 1 = .ok (.dup, 1) := by decide +kernel
theorem dJx4a65c_add_9ea2d_2 : decode cJx4a65c_add_9ea2d 2 = .ok (.getfield 63, 3) := by decide +kernel
theorem dJx4a65c_add_9ea2d_5 : decode cJx4a65c_add_9ea2d 5 = .ok (.iconst 1, 1) := by decide +kernel
theorem dJx4a65c_add_9ea2d_6 : decode cJx4a65c_add_9ea2d 6 = .ok (.iadd, 1) := by decide +kernel
theorem dJx4a65c_add_9ea2d_7 : decode cJx4a65c_add_9ea2d 7 = .ok (.putfield 63, 3) := by decide +kernel
theorem dJx4a65c_add_9ea2d_10 : decode cJx4a65c_add_9ea2d 10 = .ok (.aload_n 0, 1) := by decide +kernel
theorem dJx4a65c_add_9ea2d_11 : decode cJx4a65c_add_9ea2d 11 = .ok (.aload_n 1, 1) := by decide +kernel
theorem dJx4a65c_add_9ea2d_12 : decode cJx4a65c_add_9ea2d 12 = .ok (.aload_n 0, 1) := by decide +kernel
theorem dJx4a65c_add_9ea2d_13 : decode cJx4a65c_add_9ea2d 13 = .ok (.getfield 9, 3) := by decide +kernel
theorem dJx4a65c_add_9ea2d_16 : decode cJx4a65c_add_9ea2d 16 = .ok (.aload_n 0, 1) := by decide +kernel
theorem dJx4a65c_add_9ea2d_17 : decode cJx4a65c_add_9ea2d 17 = .ok (.getfield 48, 3) := by decide +kernel
theorem dJx4a65c_add_9ea2d_20 : decode cJx4a65c_add_9ea2d 20 = .ok (.invokevirtual 131, 3) := by decide +kernel
theorem dJx4a65c_add_9ea2d_23 : decode cJx4a65c_add_9ea2d 23 = .ok (.iconst 1, 1) := by decide +kernel
theorem dJx4a65c_add_9ea2d_24 : decode cJx4a65c_add_9ea2d 24 = .ok (.ireturn, 1) := by decide +kernel
theorem dJx4a65c_clear_da8c8_0 : decode cJx4a65c_clear_da8c8 0 = .ok (.aload_n 0, 1) := by decide +kernel
theorem dJx4a65c_clear_da8c8_1 : decode cJx4a65c_clear_da8c8 1 = .ok (.dup, 1) := by decide +kernel
theorem dJx4a65c_clear_da8c8_2 : decode cJx4a65c_clear_da8c8 2 = .ok (.getfield 63, 3) := by decide +kernel
theorem dJx4a65c_clear_da8c8_5 : decode cJx4a65c_clear_da8c8 5 = .ok (.iconst 1, 1) := by decide +kernel
theorem dJx4a65c_clear_da8c8_6 : decode cJx4a65c_clear_da8c8 6 = .ok (.iadd, 1) := by decide +kernel
theorem dJx4a65c_clear_da8c8_7 : decode cJx4a65c_clear_da8c8 7 = .ok (.putfield 63, 3) := by decide +kernel
theorem dJx4a65c_clear_da8c8_10 : decode cJx4a65c_clear_da8c8 10 = .ok (.aload_n 0, 1) := by decide +kernel
theorem dJx4a65c_clear_da8c8_11 : decode cJx4a65c_clear_da8c8 11 = .ok (.getfield 9, 3) := by decide +kernel
theorem dJx4a65c_clear_da8c8_14 : decode cJx4a65c_clear_da8c8 14 = .ok (.astore_n 1, 1) := by decide +kernel
theorem dJx4a65c_clear_da8c8_15 : decode cJx4a65c_clear_da8c8 15 = .ok (.aload_n 0, 1) := by decide +kernel
theorem dJx4a65c_clear_da8c8_16 : decode cJx4a65c_clear_da8c8 16 = .ok (.getfield 48, 3) := by decide +kernel
theorem dJx4a65c_clear_da8c8_19 : decode cJx4a65c_clear_da8c8 19 = .ok (.istore_n 2, 1) := by decide +kernel
theorem dJx4a65c_clear_da8c8_20 : decode cJx4a65c_clear_da8c8 20 = .ok (.aload_n 0, 1) := by decide +kernel
theorem dJx4a65c_clear_da8c8_21 : decode cJx4a65c_clear_da8c8 21 = .ok (.iconst 0, 1) := by decide +kernel
theorem dJx4a65c_clear_da8c8_22 : decode cJx4a65c_clear_da8c8 22 = .ok (.dup_x1, 1) := by decide +kernel
theorem dJx4a65c_clear_da8c8_23 : decode cJx4a65c_clear_da8c8 23 = .ok (.putfield 48, 3) := by decide +kernel
theorem dJx4a65c_clear_da8c8_26 : decode cJx4a65c_clear_da8c8 26 = .ok (.istore_n 3, 1) := by decide +kernel
theorem dJx4a65c_clear_da8c8_27 : decode cJx4a65c_clear_da8c8 27 = .ok (.iload_n 3, 1) := by decide +kernel
theorem dJx4a65c_clear_da8c8_28 : decode cJx4a65c_clear_da8c8 28 = .ok (.iload_n 2, 1) := by decide +kernel
theorem dJx4a65c_clear_da8c8_29 : decode cJx4a65c_clear_da8c8 29 = .ok (.if_icmp .ge 13, 3) := by decide +kernel
theorem dJx4a65c_clear_da8c8_32 : decode cJx4a65c_clear_da8c8 32 = .ok (.aload_n 1, 1) := by decide +kernel
theorem dJx4a65c_clear_da8c8_33 : decode cJx4a65c_clear_da8c8 33 = .ok (.iload_n 3, 1) := by decide +kernel
theorem dJx4a65c_clear_da8c8_34 : decode cJx4a65c_clear_da8c8 34 = .ok (.aconst_null, 1) := by decide +kernel
theorem dJx4a65c_clear_da8c8_35 : decode cJx4a65c_clear_da8c8 35 = .ok (.aastore, 1) := by decide +kernel
theorem dJx4a65c_clear_da8c8_36 : decode cJx4a65c_clear_da8c8 36 = .ok (.iinc 3 1, 3) := by decide +kernel
theorem dJx4a65c_clear_da8c8_39 : decode cJx4a65c_clear_da8c8 39 = .ok (.goto (-12), 3) := by decide +kernel
theorem dJx4a65c_clear_da8c8_42 : decode cJx4a65c_clear_da8c8 42 = .ok (.return_, 1) := by decide +kernel
theorem dJ7_fill_d0a16_0 : decode cJ7_fill_d0a16 0 = .ok (.iconst 0, 1) := by decide +kernel
theorem dJ7_fill_d0a16_1 : decode cJ7_fill_d0a16 1 = .ok (.istore_n 3, 1) := by decide +kernel
theorem dJ7_fill_d0a16_2 : decode cJ7_fill_d0a16 2 = .ok (.aload_n 0, 1) := by decide +kernel
theorem dJ7_fill_d0a16_3 : decode cJ7_fill_d0a16 3 = .ok (.arraylength, 1) := by decide +kernel
theorem dJ7_fill_d0a16_4 : decode cJ7_fill_d0a16 4 = .ok (.istore 4, 2) := by decide +kernel
theorem dJ7_fill_d0a16_6 : decode cJ7_fill_d0a16 6 = .ok (.iload_n 3, 1) := by decide +kernel
theorem dJ7_fill_d0a16_7 : decode cJ7_fill_d0a16 7 = .ok (.iload 4, 2) := by decide +kernel
theorem dJ7_fill_d0a16_9 : decode cJ7_fill_d0a16 9 = .ok (.if_icmp .ge 13, 3) := by decide +kernel
theorem dJ7_fill_d0a16_12 : decode cJ7_fill_d0a16 12 = .ok (.aload_n 0, 1) := by decide +kernel
theorem dJ7_fill_d0a16_13 : decode cJ7_fill_d0a16 13 = .ok (.iload_n 3, 1) := by decide +kernel
theorem dJ7_fill_d0a16_14 : decode cJ7_fill_d0a16 14 = .ok (.lload_n 1, 1) := by decide +kernel
theorem dJ7_fill_d0a16_15 : decode cJ7_fill_d0a16 15 = .ok (.lastore, 1) := by decide +kernel
theorem dJ7_fill_d0a16_16 : decode cJ7_fill_d0a16 16 = .ok (.iinc 3 1, 3) := by decide +kernel
theorem dJ7_fill_d0a16_19 : decode cJ7_fill_d0a16 19 = .ok (.goto (-13), 3) := by decide +kernel
theorem dJ7_fill_d0a16_22 : decode cJ7_fill_d0a16 22 = .ok (.return_, 1) := by decide +kernel
theorem dJ7_fill_53178_0 : decode cJ7_fill_53178 0 = .ok (.iconst 0, 1) := by decide +kernel
theorem dJ7_fill_53178_1 : decode cJ7_fill_53178 1 = .ok (.istore_n 2, 1) := by decide +kernel
theorem dJ7_fill_53178_2 : decode cJ7_fill_53178 2 = .ok (.aload_n 0, 1) := by decide +kernel
theorem dJ7_fill_53178_3 : decode cJ7_fill_53178 3 = .ok (.arraylength, 1) := by decide +kernel
theorem dJ7_fill_53178_4 : decode cJ7_fill_53178 4 = .ok (.istore_n 3, 1) := by decide +kernel
theorem dJ7_fill_53178_5 : decode cJ7_fill_53178 5 = .ok (.iload_n 2, 1) := by decide +kernel
theorem dJ7_fill_53178_6 : decode cJ7_fill_53178 6 = .ok (.iload_n 3, 1) := by decide +kernel
theorem dJ7_fill_53178_7 : decode cJ7_fill_53178 7 = .ok (.if_icmp .ge 13, 3) := by decide +kernel
theorem dJ7_fill_53178_10 : decode cJ7_fill_53178 10 = .ok (.aload_n 0, 1) := by decide +kernel
theorem dJ7_fill_53178_11 : decode cJ7_fill_53178 11 = .ok (.iload_n 2, 1) := by decide +kernel
theorem dJ7_fill_53178_12 : decode cJ7_fill_53178 12 = .ok (.iload_n 1, 1) := by decide +kernel
theorem dJ7_fill_53178_13 : decode cJ7_fill_53178 13 = .ok (.iastore, 1) := by decide +kernel
theorem dJ7_fill_53178_14 : decode cJ7_fill_53178 14 = .ok (.iinc 2 1, 3) := by decide +kernel
theorem dJ7_fill_53178_17 : decode cJ7_fill_53178 17 = .ok (.goto (-12), 3) := by decide +kernel
theorem dJ7_fill_53178_20 : decode cJ7_fill_53178 20 = .ok (.return_, 1) := by decide +kernel
theorem dJ7_copyOf_1904c_0 : decode cJ7_copyOf_1904c 0 = .ok (.aload_n 0, 1) := by decide +kernel
theorem dJ7_copyOf_1904c_1 : decode cJ7_copyOf_1904c 1 = .ok (.iload_n 1, 1) := by decide +kernel
theorem dJ7_copyOf_1904c_2 : decode cJ7_copyOf_1904c 2 = .ok (.aload_n 0, 1) := by decide +kernel
theorem dJ7_copyOf_1904c_3 : decode cJ7_copyOf_1904c 3 = .ok (.invokevirtual 86, 3) := by decide +kernel
theorem dJ7_copyOf_1904c_6 : decode cJ7_copyOf_1904c 6 = .ok (.invokestatic 300, 3) := by decide +kernel
theorem dJ7_copyOf_1904c_9 : decode cJ7_copyOf_1904c 9 = .ok (.areturn, 1) := by decide +kernel
theorem dJ7_copyOf_6403c_0 : decode cJ7_copyOf_6403c 0 = .ok (.aload_n 2, 1) := by decide +kernel
theorem dJ7_copyOf_6403c_1 : decode cJ7_copyOf_6403c 1 = .ok (.ldc 110, 2) := by decide +kernel
theorem dJ7_copyOf_6403c_3 : decode cJ7_copyOf_6403c 3 = .ok (.if_acmp .ne 10, 3) := by decide +kernel
theorem dJ7_copyOf_6403c_6 : decode cJ7_copyOf_6403c 6 = .ok (.iload_n 1, 1) := by decide +kernel
theorem dJ7_copyOf_6403c_7 : decode cJ7_copyOf_6403c 7 = .ok (.anewarray 2, 3) := by decide +kernel
theorem dJ7_copyOf_6403c_10 : decode cJ7_copyOf_6403c 10 = .ok (.goto 14, 3) := by decide +kernel
theorem dJ7_copyOf_6403c_13 : decode cJ7_copyOf_6403c 13 = .ok (.aload_n 2, 1) := by decide +kernel
theorem dJ7_copyOf_6403c_14 : decode cJ7_copyOf_6403c 14 = .ok (.invokevirtual 90, 3) := by decide +kernel
theorem dJ7_copyOf_6403c_17 : decode cJ7_copyOf_6403c 17 = .ok (.iload_n 1, 1) := by decide +kernel
theorem dJ7_copyOf_6403c_18 : decode cJ7_copyOf_6403c 18 = .ok (.invokestatic 95, 3) := by decide +kernel
theorem dJ7_copyOf_6403c_21 : decode cJ7_copyOf_6403c 21 = .ok (.checkcast 110, 3) := by decide +kernel
theorem dJ7_copyOf_6403c_24 : decode cJ7_copyOf_6403c 24 = .ok (.astore_n 3, 1) := by decide +kernel
theorem dJ7_copyOf_6403c_25 : decode cJ7_copyOf_6403c 25 = .ok (.aload_n 0, 1) := by decide +kernel
theorem dJ7_copyOf_6403c_26 : decode cJ7_copyOf_6403c 26 = .ok (.iconst 0, 1) := by decide +kernel
theorem dJ7_copyOf_6403c_27 : decode cJ7_copyOf_6403c 27 = .ok (.aload_n 3, 1) := by decide +kernel
theorem dJ7_copyOf_6403c_28 : decode cJ7_copyOf_6403c 28 = .ok (.iconst 0, 1) := by decide +kernel
theorem dJ7_copyOf_6403c_29 : decode cJ7_copyOf_6403c 29 = .ok (.aload_n 0, 1) := by decide +kernel
theorem dJ7_copyOf_6403c_30 : decode cJ7_copyOf_6403c 30 = .ok (.arraylength, 1) := by decide +kernel
theorem dJ7_copyOf_6403c_31 : decode cJ7_copyOf_6403c 31 = .ok (.iload_n 1, 1) := by decide +kernel
theorem dJ7_copyOf_6403c_32 : decode cJ7_copyOf_6403c 32 = .ok (.invokestatic 304, 3) := by decide +kernel
theorem dJ7_copyOf_6403c_35 : decode cJ7_copyOf_6403c 35 = .ok (.invokestatic 150, 3) := by decide +kernel
theorem dJ7_copyOf_6403c_38 : decode cJ7_copyOf_6403c 38 = .ok (.aload_n 3, 1) := by decide +kernel
theorem dJ7_copyOf_6403c_39 : decode cJ7_copyOf_6403c 39 = .ok (.areturn, 1) := by decide +kernel
theorem dJ15_checkIndex_7cf53_0 : decode cJ15_checkIndex_7cf53 0 = .ok (.iload_n 0, 1) := by decide +kernel
theorem dJ15_checkIndex_7cf53_1 : decode cJ15_checkIndex_7cf53 1 = .ok (.iload_n 1, 1) := by decide +kernel
theorem dJ15_checkIndex_7cf53_2 : decode cJ15_checkIndex_7cf53 2 = .ok (.aconst_null, 1) := by decide +kernel
theorem dJ15_checkIndex_7cf53_3 : decode cJ15_checkIndex_7cf53 3 = .ok (.invokestatic 105, 3) := by decide +kernel
theorem dJ15_checkIndex_7cf53_6 : decode cJ15_checkIndex_7cf53 6 = .ok (.ireturn, 1) := by decide +kernel
theorem dJ8_newLength_cabcc_0 : decode cJ8_newLength_cabcc 0 = .ok (.iload_n 0, 1) := by decide +kernel
theorem dJ8_newLength_cabcc_1 : decode cJ8_newLength_cabcc 1 = .ok (.iload_n 1, 1) := by decide +kernel
theorem dJ8_newLength_cabcc_2 : decode cJ8_newLength_cabcc 2 = .ok (.iload_n 2, 1) := by decide +kernel
theorem dJ8_newLength_cabcc_3 : decode cJ8_newLength_cabcc 3 = .ok (.invokestatic 194, 3) := by decide +kernel
theorem dJ8_newLength_cabcc_6 : decode cJ8_newLength_cabcc 6 = .ok (.iadd, 1) := by decide +kernel
theorem dJ8_newLength_cabcc_7 : decode cJ8_newLength_cabcc 7 = .ok (.istore_n 3, 1) := by decide +kernel
theorem dJ8_newLength_cabcc_8 : decode cJ8_newLength_cabcc 8 = .ok (.iconst 0, 1) := by decide +kernel
theorem dJ8_newLength_cabcc_9 : decode cJ8_newLength_cabcc 9 = .ok (.iload_n 3, 1) := by decide +kernel
theorem dJ8_newLength_cabcc_10 : decode cJ8_newLength_cabcc 10 = .ok (.if_icmp .ge 11, 3) := by decide +kernel
theorem dJ8_newLength_cabcc_13 : decode cJ8_newLength_cabcc 13 = .ok (.iload_n 3, 1) := by decide +kernel
theorem dJ8_newLength_cabcc_14 : decode cJ8_newLength_cabcc 14 = .ok (.ldc 200, 2) := by decide +kernel
theorem dJ8_newLength_cabcc_16 : decode cJ8_newLength_cabcc 16 = .ok (.if_icmp .gt 5, 3) := by decide +kernel
theorem dJ8_newLength_cabcc_19 : decode cJ8_newLength_cabcc 19 = .ok (.iload_n 3, 1) := by decide +kernel
theorem dJ8_newLength_cabcc_20 : decode cJ8_newLength_cabcc 20 = .ok (.ireturn, 1) := by decide +kernel
theorem dJ8_newLength_cabcc_21 : decode cJ8_newLength_cabcc 21 = .ok (.iload_n 0, 1) := by decide +kernel
theorem dJ8_newLength_cabcc_22 : decode cJ8_newLength_cabcc 22 = .ok (.iload_n 1, 1) := by decide +kernel
theorem dJ8_newLength_cabcc_23 : decode cJ8_newLength_cabcc 23 = .ok (.invokestatic 201, 3) := by decide +kernel
theorem dJ8_newLength_cabcc_26 : decode cJ8_newLength_cabcc 26 = .ok (.ireturn, 1) := by decide +kernel
theorem dJ8_hugeLength_7cf53_0 : decode cJ8_hugeLength_7cf53 0 = .ok (.iload_n 0, 1) := by decide +kernel
theorem dJ8_hugeLength_7cf53_1 : decode cJ8_hugeLength_7cf53 1 = .ok (.iload_n 1, 1) := by decide +kernel
theorem dJ8_hugeLength_7cf53_2 : decode cJ8_hugeLength_7cf53 2 = .ok (.iadd, 1) := by decide +kernel
theorem dJ8_hugeLength_7cf53_3 : decode cJ8_hugeLength_7cf53 3 = .ok (.istore_n 2, 1) := by decide +kernel
theorem dJ8_hugeLength_7cf53_4 : decode cJ8_hugeLength_7cf53 4 = .ok (.iload_n 2, 1) := by decide +kernel
theorem dJ8_hugeLength_7cf53_5 : decode cJ8_hugeLength_7cf53 5 = .ok (.ifCond .ge 44, 3) := by decide +kernel
theorem dJ8_hugeLength_7cf53_8 : decode cJ8_hugeLength_7cf53 8 = .ok (.new 204, 3) := by decide +kernel
theorem dJ8_hugeLength_7cf53_11 : decode cJ8_hugeLength_7cf53 11 = .ok (.dup, 1) := by decide +kernel
theorem dJ8_hugeLength_7cf53_12 : decode cJ8_hugeLength_7cf53 12 = .ok (.new 89, 3) := by decide +kernel
theorem dJ8_hugeLength_7cf53_15 : decode cJ8_hugeLength_7cf53 15 = .ok (.dup, 1) := by decide +kernel
theorem dJ8_hugeLength_7cf53_16 : decode cJ8_hugeLength_7cf53 16 = .ok (.invokespecial 91, 3) := by decide +kernel
theorem dJ8_hugeLength_7cf53_19 : decode cJ8_hugeLength_7cf53 19 = .ok (.ldc 206, 2) := by decide +kernel
theorem dJ8_hugeLength_7cf53_21 : decode cJ8_hugeLength_7cf53 21 = .ok (.invokevirtual 94, 3) := by decide +kernel
theorem dJ8_hugeLength_7cf53_24 : decode cJ8_hugeLength_7cf53 24 = .ok (.iload_n 0, 1) := by decide +kernel
theorem dJ8_hugeLength_7cf53_25 : decode cJ8_hugeLength_7cf53 25 = .ok (.invokevirtual 98, 3) := by decide +kernel
theorem dJ8_hugeLength_7cf53_28 : decode cJ8_hugeLength_7cf53 28 = .ok (.ldc 208, 2) := by decide +kernel
theorem dJ8_hugeLength_7cf53_30 : decode cJ8_hugeLength_7cf53 30 = .ok (.invokevirtual 94, 3) := by decide +kernel
theorem dJ8_hugeLength_7cf53_33 : decode cJ8_hugeLength_7cf53 33 = .ok (.iload_n 1, 1) := by decide +kernel
theorem dJ8_hugeLength_7cf53_34 : decode cJ8_hugeLength_7cf53 34 = .ok (.invokevirtual 98, 3) := by decide +kernel
theorem dJ8_hugeLength_7cf53_37 : decode cJ8_hugeLength_7cf53 37 = .ok (.ldc 210, 2) := by decide +kernel
theorem dJ8_hugeLength_7cf53_39 : decode cJ8_hugeLength_7cf53 39 = .ok (.invokevirtual 94, 3) := by decide +kernel
theorem dJ8_hugeLength_7cf53_42 : decode cJ8_hugeLength_7cf53 42 = .ok (.invokevirtual 101, 3) := by decide +kernel
theorem dJ8_hugeLength_7cf53_45 : decode cJ8_hugeLength_7cf53 45 = .ok (.invokespecial 212, 3) := by decide +kernel
theorem dJ8_hugeLength_7cf53_48 : decode cJ8_hugeLength_7cf53 48 = .ok (.athrow, 1) := by decide +kernel
theorem dJ8_hugeLength_7cf53_49 : decode cJ8_hugeLength_7cf53 49 = .ok (.iload_n 2, 1) := by decide +kernel
theorem dJ8_hugeLength_7cf53_50 : decode cJ8_hugeLength_7cf53 50 = .ok (.ldc 200, 2) := by decide +kernel
theorem dJ8_hugeLength_7cf53_52 : decode cJ8_hugeLength_7cf53 52 = .ok (.if_icmp .gt 6, 3) := by decide +kernel
theorem dJ8_hugeLength_7cf53_55 : decode cJ8_hugeLength_7cf53 55 = .ok (.ldc 200, 2) := by decide +kernel
theorem dJ8_hugeLength_7cf53_57 : decode cJ8_hugeLength_7cf53 57 = .ok (.ireturn, 1) := by decide +kernel
theorem dJ8_hugeLength_7cf53_58 : decode cJ8_hugeLength_7cf53 58 = .ok (.iload_n 2, 1) := by decide +kernel
theorem dJ8_hugeLength_7cf53_59 : decode cJ8_hugeLength_7cf53 59 = .ok (.ireturn, 1) := by decide +kernel
theorem dJ3_checkIndex_8e157_0 : decode cJ3_checkIndex_8e157 0 = .ok (.iload_n 0, 1) := by decide +kernel
theorem dJ3_checkIndex_8e157_1 : decode cJ3_checkIndex_8e157 1 = .ok (.ifCond .lt 8, 3) := by decide +kernel
theorem dJ3_checkIndex_8e157_4 : decode cJ3_checkIndex_8e157 4 = .ok (.iload_n 0, 1) := by decide +kernel
theorem dJ3_checkIndex_8e157_5 : decode cJ3_checkIndex_8e157 5 = .ok (.iload_n 1, 1) := by decide +kernel
theorem dJ3_checkIndex_8e157_6 : decode cJ3_checkIndex_8e157 6 = .ok (.if_icmp .lt 10, 3) := by decide +kernel
theorem dJ3_checkIndex_8e157_9 : decode cJ3_checkIndex_8e157 9 = .ok (.aload_n 2, 1) := by decide +kernel
theorem dJ3_checkIndex_8e157_10 : decode cJ3_checkIndex_8e157 10 = .ok (.iload_n 0, 1) := by decide +kernel
theorem dJ3_checkIndex_8e157_11 : decode cJ3_checkIndex_8e157 11 = .ok (.iload_n 1, 1) := by decide +kernel
theorem dJ3_checkIndex_8e157_12 : decode cJ3_checkIndex_8e157 12 = .ok (.invokestatic 95, 3) := by decide +kernel
theorem dJ3_checkIndex_8e157_15 : decode cJ3_checkIndex_8e157 15 = .ok (.athrow, 1) := by decide +kernel
theorem dJ3_checkIndex_8e157_16 : decode cJ3_checkIndex_8e157 16 = .ok (.iload_n 0, 1) := by decide +kernel
theorem dJ3_checkIndex_8e157_17 : decode cJ3_checkIndex_8e157 17 = .ok (.ireturn, 1) := by decide +kernel
theorem dL_law_0 : decode cL_law 0 = .ok (.new 7, 3) := by decide +kernel
theorem dL_law_3 : decode cL_law 3 = .ok (.dup, 1) := by decide +kernel
theorem dL_law_4 : decode cL_law 4 = .ok (.invokespecial 9, 3) := by decide +kernel
theorem dL_law_7 : decode cL_law 7 = .ok (.astore_n 1, 1) := by decide +kernel
theorem dL_law_8 : decode cL_law 8 = .ok (.new 10, 3) := by decide +kernel
theorem dL_law_11 : decode cL_law 11 = .ok (.dup, 1) := by decide +kernel
theorem dL_law_12 : decode cL_law 12 = .ok (.invokespecial 12, 3) := by decide +kernel
theorem dL_law_15 : decode cL_law 15 = .ok (.astore_n 2, 1) := by decide +kernel
theorem dL_law_16 : decode cL_law 16 = .ok (.iconst 0, 1) := by decide +kernel
theorem dL_law_17 : decode cL_law 17 = .ok (.istore_n 3, 1) := by decide +kernel
theorem dL_law_18 : decode cL_law 18 = .ok (.iload_n 3, 1) := by decide +kernel
theorem dL_law_19 : decode cL_law 19 = .ok (.aload_n 0, 1) := by decide +kernel
theorem dL_law_20 : decode cL_law 20 = .ok (.arraylength, 1) := by decide +kernel
theorem dL_law_21 : decode cL_law 21 = .ok (.bipush 6, 2) := by decide +kernel
theorem dL_law_23 : decode cL_law 23 = .ok (.isub, 1) := by decide +kernel
theorem dL_law_24 : decode cL_law 24 = .ok (.if_icmp .gt 1409, 3) := by decide +kernel
theorem dL_law_27 : decode cL_law 27 = .ok (.aload_n 0, 1) := by decide +kernel
theorem dL_law_28 : decode cL_law 28 = .ok (.iload_n 3, 1) := by decide +kernel
theorem dL_law_29 : decode cL_law 29 = .ok (.iaload, 1) := by decide +kernel
theorem dL_law_30 : decode cL_law 30 = .ok (.bipush 63, 2) := by decide +kernel
theorem dL_law_32 : decode cL_law 32 = .ok (.iand, 1) := by decide +kernel
theorem dL_law_33 : decode cL_law 33 = .ok (.tableswitch 1394 0 36 #[163, 226, 259, 302, 335, 358, 381, 414, 437, 480, 523, 556, 589, 622, 645, 678, 721, 744, 777, 810, 853, 896, 939, 972, 985, 1018, 1041, 1084, 1137, 1170, 1203, 1246, 1269, 1312, 1335, 1348, 1371], 163) := by decide +kernel
theorem dL_law_196 : decode cL_law 196 = .ok (.aload_n 1, 1) := by decide +kernel
theorem dL_law_197 : decode cL_law 197 = .ok (.aload_n 0, 1) := by decide +kernel
theorem dL_law_198 : decode cL_law 198 = .ok (.iload_n 3, 1) := by decide +kernel
theorem dL_law_199 : decode cL_law 199 = .ok (.iconst 1, 1) := by decide +kernel
theorem dL_law_200 : decode cL_law 200 = .ok (.iadd, 1) := by decide +kernel
theorem dL_law_201 : decode cL_law 201 = .ok (.iaload, 1) := by decide +kernel
theorem dL_law_202 : decode cL_law 202 = .ok (.aload_n 0, 1) := by decide +kernel
theorem dL_law_203 : decode cL_law 203 = .ok (.iload_n 3, 1) := by decide +kernel
theorem dL_law_204 : decode cL_law 204 = .ok (.iconst 2, 1) := by decide +kernel
theorem dL_law_205 : decode cL_law 205 = .ok (.iadd, 1) := by decide +kernel
theorem dL_law_206 : decode cL_law 206 = .ok (.iaload, 1) := by decide +kernel
theorem dL_law_207 : decode cL_law 207 = .ok (.aload_n 0, 1) := by decide +kernel
theorem dL_law_208 : decode cL_law 208 = .ok (.iload_n 3, 1) := by decide +kernel
theorem dL_law_209 : decode cL_law 209 = .ok (.iconst 3, 1) := by decide +kernel
theorem dL_law_210 : decode cL_law 210 = .ok (.iadd, 1) := by decide +kernel
theorem dL_law_211 : decode cL_law 211 = .ok (.iaload, 1) := by decide +kernel
theorem dL_law_212 : decode cL_law 212 = .ok (.aload_n 0, 1) := by decide +kernel
theorem dL_law_213 : decode cL_law 213 = .ok (.iload_n 3, 1) := by decide +kernel
theorem dL_law_214 : decode cL_law 214 = .ok (.iconst 4, 1) := by decide +kernel
theorem dL_law_215 : decode cL_law 215 = .ok (.iadd, 1) := by decide +kernel
theorem dL_law_216 : decode cL_law 216 = .ok (.iaload, 1) := by decide +kernel
theorem dL_law_217 : decode cL_law 217 = .ok (.aload_n 0, 1) := by decide +kernel
theorem dL_law_218 : decode cL_law 218 = .ok (.iload_n 3, 1) := by decide +kernel
theorem dL_law_219 : decode cL_law 219 = .ok (.iconst 5, 1) := by decide +kernel
theorem dL_law_220 : decode cL_law 220 = .ok (.iadd, 1) := by decide +kernel
theorem dL_law_221 : decode cL_law 221 = .ok (.iaload, 1) := by decide +kernel
theorem dL_law_222 : decode cL_law 222 = .ok (.invokevirtual 13, 3) := by decide +kernel
theorem dL_law_225 : decode cL_law 225 = .ok (.aload_n 2, 1) := by decide +kernel
theorem dL_law_226 : decode cL_law 226 = .ok (.aload_n 0, 1) := by decide +kernel
theorem dL_law_227 : decode cL_law 227 = .ok (.iload_n 3, 1) := by decide +kernel
theorem dL_law_228 : decode cL_law 228 = .ok (.iconst 1, 1) := by decide +kernel
theorem dL_law_229 : decode cL_law 229 = .ok (.iadd, 1) := by decide +kernel
theorem dL_law_230 : decode cL_law 230 = .ok (.iaload, 1) := by decide +kernel
theorem dL_law_231 : decode cL_law 231 = .ok (.aload_n 0, 1) := by decide +kernel
theorem dL_law_232 : decode cL_law 232 = .ok (.iload_n 3, 1) := by decide +kernel
theorem dL_law_233 : decode cL_law 233 = .ok (.iconst 2, 1) := by decide +kernel
theorem dL_law_234 : decode cL_law 234 = .ok (.iadd, 1) := by decide +kernel
theorem dL_law_235 : decode cL_law 235 = .ok (.iaload, 1) := by decide +kernel
theorem dL_law_236 : decode cL_law 236 = .ok (.aload_n 0, 1) := by decide +kernel
theorem dL_law_237 : decode cL_law 237 = .ok (.iload_n 3, 1) := by decide +kernel
theorem dL_law_238 : decode cL_law 238 = .ok (.iconst 3, 1) := by decide +kernel
theorem dL_law_239 : decode cL_law 239 = .ok (.iadd, 1) := by decide +kernel
theorem dL_law_240 : decode cL_law 240 = .ok (.iaload, 1) := by decide +kernel
theorem dL_law_241 : decode cL_law 241 = .ok (.aload_n 0, 1) := by decide +kernel
theorem dL_law_242 : decode cL_law 242 = .ok (.iload_n 3, 1) := by decide +kernel
theorem dL_law_243 : decode cL_law 243 = .ok (.iconst 4, 1) := by decide +kernel
theorem dL_law_244 : decode cL_law 244 = .ok (.iadd, 1) := by decide +kernel
theorem dL_law_245 : decode cL_law 245 = .ok (.iaload, 1) := by decide +kernel
theorem dL_law_246 : decode cL_law 246 = .ok (.aload_n 0, 1) := by decide +kernel
theorem dL_law_247 : decode cL_law 247 = .ok (.iload_n 3, 1) := by decide +kernel
theorem dL_law_248 : decode cL_law 248 = .ok (.iconst 5, 1) := by decide +kernel
theorem dL_law_249 : decode cL_law 249 = .ok (.iadd, 1) := by decide +kernel
theorem dL_law_250 : decode cL_law 250 = .ok (.iaload, 1) := by decide +kernel
theorem dL_law_251 : decode cL_law 251 = .ok (.invokevirtual 17, 3) := by decide +kernel
theorem dL_law_254 : decode cL_law 254 = .ok (.if_icmp .eq 1173, 3) := by decide +kernel
theorem dL_law_257 : decode cL_law 257 = .ok (.iconst 0, 1) := by decide +kernel
theorem dL_law_258 : decode cL_law 258 = .ok (.ireturn, 1) := by decide +kernel
theorem dL_law_259 : decode cL_law 259 = .ok (.aload_n 1, 1) := by decide +kernel
theorem dL_law_260 : decode cL_law 260 = .ok (.aload_n 0, 1) := by decide +kernel
theorem dL_law_261 : decode cL_law 261 = .ok (.iload_n 3, 1) := by decide +kernel
theorem dL_law_262 : decode cL_law 262 = .ok (.iconst 1, 1) := by decide +kernel
theorem dL_law_263 : decode cL_law 263 = .ok (.iadd, 1) := by decide +kernel
theorem dL_law_264 : decode cL_law 264 = .ok (.iaload, 1) := by decide +kernel
theorem dL_law_265 : decode cL_law 265 = .ok (.aload_n 0, 1) := by decide +kernel
theorem dL_law_266 : decode cL_law 266 = .ok (.iload_n 3, 1) := by decide +kernel
theorem dL_law_267 : decode cL_law 267 = .ok (.iconst 2, 1) := by decide +kernel
theorem dL_law_268 : decode cL_law 268 = .ok (.iadd, 1) := by decide +kernel
theorem dL_law_269 : decode cL_law 269 = .ok (.iaload, 1) := by decide +kernel
theorem dL_law_270 : decode cL_law 270 = .ok (.invokevirtual 18, 3) := by decide +kernel
theorem dL_law_273 : decode cL_law 273 = .ok (.aload_n 2, 1) := by decide +kernel
theorem dL_law_274 : decode cL_law 274 = .ok (.aload_n 0, 1) := by decide +kernel
theorem dL_law_275 : decode cL_law 275 = .ok (.iload_n 3, 1) := by decide +kernel
theorem dL_law_276 : decode cL_law 276 = .ok (.iconst 1, 1) := by decide +kernel
theorem dL_law_277 : decode cL_law 277 = .ok (.iadd, 1) := by decide +kernel
theorem dL_law_278 : decode cL_law 278 = .ok (.iaload, 1) := by decide +kernel
theorem dL_law_279 : decode cL_law 279 = .ok (.aload_n 0, 1) := by decide +kernel
theorem dL_law_280 : decode cL_law 280 = .ok (.iload_n 3, 1) := by decide +kernel
theorem dL_law_281 : decode cL_law 281 = .ok (.iconst 2, 1) := by decide +kernel
theorem dL_law_282 : decode cL_law 282 = .ok (.iadd, 1) := by decide +kernel
theorem dL_law_283 : decode cL_law 283 = .ok (.iaload, 1) := by decide +kernel
theorem dL_law_284 : decode cL_law 284 = .ok (.invokevirtual 22, 3) := by decide +kernel
theorem dL_law_287 : decode cL_law 287 = .ok (.if_icmp .eq 1140, 3) := by decide +kernel
theorem dL_law_290 : decode cL_law 290 = .ok (.iconst 0, 1) := by decide +kernel
theorem dL_law_291 : decode cL_law 291 = .ok (.ireturn, 1) := by decide +kernel
theorem dL_law_292 : decode cL_law 292 = .ok (.aload_n 1, 1) := by decide +kernel
theorem dL_law_293 : decode cL_law 293 = .ok (.aload_n 0, 1) := by decide +kernel
theorem dL_law_294 : decode cL_law 294 = .ok (.iload_n 3, 1) := by decide +kernel
theorem dL_law_295 : decode cL_law 295 = .ok (.iconst 1, 1) := by decide +kernel
theorem dL_law_296 : decode cL_law 296 = .ok (.iadd, 1) := by decide +kernel
theorem dL_law_297 : decode cL_law 297 = .ok (.iaload, 1) := by decide +kernel
theorem dL_law_298 : decode cL_law 298 = .ok (.aload_n 0, 1) := by decide +kernel
theorem dL_law_299 : decode cL_law 299 = .ok (.iload_n 3, 1) := by decide +kernel
theorem dL_law_300 : decode cL_law 300 = .ok (.iconst 2, 1) := by decide +kernel
theorem dL_law_301 : decode cL_law 301 = .ok (.iadd, 1) := by decide +kernel
theorem dL_law_302 : decode cL_law 302 = .ok (.iaload, 1) := by decide +kernel
theorem dL_law_303 : decode cL_law 303 = .ok (.aload_n 0, 1) := by decide +kernel
theorem dL_law_304 : decode cL_law 304 = .ok (.iload_n 3, 1) := by decide +kernel
theorem dL_law_305 : decode cL_law 305 = .ok (.iconst 3, 1) := by decide +kernel
theorem dL_law_306 : decode cL_law 306 = .ok (.iadd, 1) := by decide +kernel
theorem dL_law_307 : decode cL_law 307 = .ok (.iaload, 1) := by decide +kernel
theorem dL_law_308 : decode cL_law 308 = .ok (.invokevirtual 23, 3) := by decide +kernel
theorem dL_law_311 : decode cL_law 311 = .ok (.aload_n 2, 1) := by decide +kernel
theorem dL_law_312 : decode cL_law 312 = .ok (.aload_n 0, 1) := by decide +kernel
theorem dL_law_313 : decode cL_law 313 = .ok (.iload_n 3, 1) := by decide +kernel
theorem dL_law_314 : decode cL_law 314 = .ok (.iconst 1, 1) := by decide +kernel
theorem dL_law_315 : decode cL_law 315 = .ok (.iadd, 1) := by decide +kernel
theorem dL_law_316 : decode cL_law 316 = .ok (.iaload, 1) := by decide +kernel
theorem dL_law_317 : decode cL_law 317 = .ok (.aload_n 0, 1) := by decide +kernel
theorem dL_law_318 : decode cL_law 318 = .ok (.iload_n 3, 1) := by decide +kernel
theorem dL_law_319 : decode cL_law 319 = .ok (.iconst 2, 1) := by decide +kernel
theorem dL_law_320 : decode cL_law 320 = .ok (.iadd, 1) := by decide +kernel
theorem dL_law_321 : decode cL_law 321 = .ok (.iaload, 1) := by decide +kernel
theorem dL_law_322 : decode cL_law 322 = .ok (.aload_n 0, 1) := by decide +kernel
theorem dL_law_323 : decode cL_law 323 = .ok (.iload_n 3, 1) := by decide +kernel
theorem dL_law_324 : decode cL_law 324 = .ok (.iconst 3, 1) := by decide +kernel
theorem dL_law_325 : decode cL_law 325 = .ok (.iadd, 1) := by decide +kernel
theorem dL_law_326 : decode cL_law 326 = .ok (.iaload, 1) := by decide +kernel
theorem dL_law_327 : decode cL_law 327 = .ok (.invokevirtual 27, 3) := by decide +kernel
theorem dL_law_330 : decode cL_law 330 = .ok (.if_icmp .eq 1097, 3) := by decide +kernel
theorem dL_law_333 : decode cL_law 333 = .ok (.iconst 0, 1) := by decide +kernel
theorem dL_law_334 : decode cL_law 334 = .ok (.ireturn, 1) := by decide +kernel
theorem dL_law_335 : decode cL_law 335 = .ok (.aload_n 1, 1) := by decide +kernel
theorem dL_law_336 : decode cL_law 336 = .ok (.aload_n 0, 1) := by decide +kernel
theorem dL_law_337 : decode cL_law 337 = .ok (.iload_n 3, 1) := by decide +kernel
theorem dL_law_338 : decode cL_law 338 = .ok (.iconst 1, 1) := by decide +kernel
theorem dL_law_339 : decode cL_law 339 = .ok (.iadd, 1) := by decide +kernel
theorem dL_law_340 : decode cL_law 340 = .ok (.iaload, 1) := by decide +kernel
theorem dL_law_341 : decode cL_law 341 = .ok (.aload_n 0, 1) := by decide +kernel
theorem dL_law_342 : decode cL_law 342 = .ok (.iload_n 3, 1) := by decide +kernel
theorem dL_law_343 : decode cL_law 343 = .ok (.iconst 2, 1) := by decide +kernel
theorem dL_law_344 : decode cL_law 344 = .ok (.iadd, 1) := by decide +kernel
theorem dL_law_345 : decode cL_law 345 = .ok (.iaload, 1) := by decide +kernel
theorem dL_law_346 : decode cL_law 346 = .ok (.invokevirtual 28, 3) := by decide +kernel
theorem dL_law_349 : decode cL_law 349 = .ok (.aload_n 2, 1) := by decide +kernel
theorem dL_law_350 : decode cL_law 350 = .ok (.aload_n 0, 1) := by decide +kernel
theorem dL_law_351 : decode cL_law 351 = .ok (.iload_n 3, 1) := by decide +kernel
theorem dL_law_352 : decode cL_law 352 = .ok (.iconst 1, 1) := by decide +kernel
theorem dL_law_353 : decode cL_law 353 = .ok (.iadd, 1) := by decide +kernel
theorem dL_law_354 : decode cL_law 354 = .ok (.iaload, 1) := by decide +kernel
theorem dL_law_355 : decode cL_law 355 = .ok (.aload_n 0, 1) := by decide +kernel
theorem dL_law_356 : decode cL_law 356 = .ok (.iload_n 3, 1) := by decide +kernel
theorem dL_law_357 : decode cL_law 357 = .ok (.iconst 2, 1) := by decide +kernel
theorem dL_law_358 : decode cL_law 358 = .ok (.iadd, 1) := by decide +kernel
theorem dL_law_359 : decode cL_law 359 = .ok (.iaload, 1) := by decide +kernel
theorem dL_law_360 : decode cL_law 360 = .ok (.invokevirtual 31, 3) := by decide +kernel
theorem dL_law_363 : decode cL_law 363 = .ok (.if_icmp .eq 1064, 3) := by decide +kernel
theorem dL_law_366 : decode cL_law 366 = .ok (.iconst 0, 1) := by decide +kernel
theorem dL_law_367 : decode cL_law 367 = .ok (.ireturn, 1) := by decide +kernel
theorem dL_law_368 : decode cL_law 368 = .ok (.aload_n 1, 1) := by decide +kernel
theorem dL_law_369 : decode cL_law 369 = .ok (.aload_n 0, 1) := by decide +kernel
theorem dL_law_370 : decode cL_law 370 = .ok (.iload_n 3, 1) := by decide +kernel
theorem dL_law_371 : decode cL_law 371 = .ok (.iconst 1, 1) := by decide +kernel
theorem dL_law_372 : decode cL_law 372 = .ok (.iadd, 1) := by decide +kernel
theorem dL_law_373 : decode cL_law 373 = .ok (.iaload, 1) := by decide +kernel
theorem dL_law_374 : decode cL_law 374 = .ok (.invokevirtual 32, 3) := by decide +kernel
theorem dL_law_377 : decode cL_law 377 = .ok (.aload_n 2, 1) := by decide +kernel
theorem dL_law_378 : decode cL_law 378 = .ok (.aload_n 0, 1) := by decide +kernel
theorem dL_law_379 : decode cL_law 379 = .ok (.iload_n 3, 1) := by decide +kernel
theorem dL_law_380 : decode cL_law 380 = .ok (.iconst 1, 1) := by decide +kernel
theorem dL_law_381 : decode cL_law 381 = .ok (.iadd, 1) := by decide +kernel
theorem dL_law_382 : decode cL_law 382 = .ok (.iaload, 1) := by decide +kernel
theorem dL_law_383 : decode cL_law 383 = .ok (.invokevirtual 36, 3) := by decide +kernel
theorem dL_law_386 : decode cL_law 386 = .ok (.if_icmp .eq 1041, 3) := by decide +kernel
theorem dL_law_389 : decode cL_law 389 = .ok (.iconst 0, 1) := by decide +kernel
theorem dL_law_390 : decode cL_law 390 = .ok (.ireturn, 1) := by decide +kernel
theorem dL_law_391 : decode cL_law 391 = .ok (.aload_n 1, 1) := by decide +kernel
theorem dL_law_392 : decode cL_law 392 = .ok (.aload_n 0, 1) := by decide +kernel
theorem dL_law_393 : decode cL_law 393 = .ok (.iload_n 3, 1) := by decide +kernel
theorem dL_law_394 : decode cL_law 394 = .ok (.iconst 1, 1) := by decide +kernel
theorem dL_law_395 : decode cL_law 395 = .ok (.iadd, 1) := by decide +kernel
theorem dL_law_396 : decode cL_law 396 = .ok (.iaload, 1) := by decide +kernel
theorem dL_law_397 : decode cL_law 397 = .ok (.invokevirtual 37, 3) := by decide +kernel
theorem dL_law_400 : decode cL_law 400 = .ok (.aload_n 2, 1) := by decide +kernel
theorem dL_law_401 : decode cL_law 401 = .ok (.aload_n 0, 1) := by decide +kernel
theorem dL_law_402 : decode cL_law 402 = .ok (.iload_n 3, 1) := by decide +kernel
theorem dL_law_403 : decode cL_law 403 = .ok (.iconst 1, 1) := by decide +kernel
theorem dL_law_404 : decode cL_law 404 = .ok (.iadd, 1) := by decide +kernel
theorem dL_law_405 : decode cL_law 405 = .ok (.iaload, 1) := by decide +kernel
theorem dL_law_406 : decode cL_law 406 = .ok (.invokevirtual 40, 3) := by decide +kernel
theorem dL_law_409 : decode cL_law 409 = .ok (.if_icmp .eq 1018, 3) := by decide +kernel
theorem dL_law_412 : decode cL_law 412 = .ok (.iconst 0, 1) := by decide +kernel
theorem dL_law_413 : decode cL_law 413 = .ok (.ireturn, 1) := by decide +kernel
theorem dL_law_414 : decode cL_law 414 = .ok (.aload_n 1, 1) := by decide +kernel
theorem dL_law_415 : decode cL_law 415 = .ok (.aload_n 0, 1) := by decide +kernel
theorem dL_law_416 : decode cL_law 416 = .ok (.iload_n 3, 1) := by decide +kernel
theorem dL_law_417 : decode cL_law 417 = .ok (.iconst 1, 1) := by decide +kernel
theorem dL_law_418 : decode cL_law 418 = .ok (.iadd, 1) := by decide +kernel
theorem dL_law_419 : decode cL_law 419 = .ok (.iaload, 1) := by decide +kernel
theorem dL_law_420 : decode cL_law 420 = .ok (.aload_n 0, 1) := by decide +kernel
theorem dL_law_421 : decode cL_law 421 = .ok (.iload_n 3, 1) := by decide +kernel
theorem dL_law_422 : decode cL_law 422 = .ok (.iconst 2, 1) := by decide +kernel
theorem dL_law_423 : decode cL_law 423 = .ok (.iadd, 1) := by decide +kernel
theorem dL_law_424 : decode cL_law 424 = .ok (.iaload, 1) := by decide +kernel
theorem dL_law_425 : decode cL_law 425 = .ok (.invokevirtual 41, 3) := by decide +kernel
theorem dL_law_428 : decode cL_law 428 = .ok (.aload_n 2, 1) := by decide +kernel
theorem dL_law_429 : decode cL_law 429 = .ok (.aload_n 0, 1) := by decide +kernel
theorem dL_law_430 : decode cL_law 430 = .ok (.iload_n 3, 1) := by decide +kernel
theorem dL_law_431 : decode cL_law 431 = .ok (.iconst 1, 1) := by decide +kernel
theorem dL_law_432 : decode cL_law 432 = .ok (.iadd, 1) := by decide +kernel
theorem dL_law_433 : decode cL_law 433 = .ok (.iaload, 1) := by decide +kernel
theorem dL_law_434 : decode cL_law 434 = .ok (.aload_n 0, 1) := by decide +kernel
theorem dL_law_435 : decode cL_law 435 = .ok (.iload_n 3, 1) := by decide +kernel
theorem dL_law_436 : decode cL_law 436 = .ok (.iconst 2, 1) := by decide +kernel
theorem dL_law_437 : decode cL_law 437 = .ok (.iadd, 1) := by decide +kernel
theorem dL_law_438 : decode cL_law 438 = .ok (.iaload, 1) := by decide +kernel
theorem dL_law_439 : decode cL_law 439 = .ok (.invokevirtual 44, 3) := by decide +kernel
theorem dL_law_442 : decode cL_law 442 = .ok (.if_icmp .eq 985, 3) := by decide +kernel
theorem dL_law_445 : decode cL_law 445 = .ok (.iconst 0, 1) := by decide +kernel
theorem dL_law_446 : decode cL_law 446 = .ok (.ireturn, 1) := by decide +kernel
theorem dL_law_447 : decode cL_law 447 = .ok (.aload_n 1, 1) := by decide +kernel
theorem dL_law_448 : decode cL_law 448 = .ok (.aload_n 0, 1) := by decide +kernel
theorem dL_law_449 : decode cL_law 449 = .ok (.iload_n 3, 1) := by decide +kernel
theorem dL_law_450 : decode cL_law 450 = .ok (.iconst 1, 1) := by decide +kernel
theorem dL_law_451 : decode cL_law 451 = .ok (.iadd, 1) := by decide +kernel
theorem dL_law_452 : decode cL_law 452 = .ok (.iaload, 1) := by decide +kernel
theorem dL_law_453 : decode cL_law 453 = .ok (.invokevirtual 45, 3) := by decide +kernel
theorem dL_law_456 : decode cL_law 456 = .ok (.aload_n 2, 1) := by decide +kernel
theorem dL_law_457 : decode cL_law 457 = .ok (.aload_n 0, 1) := by decide +kernel
theorem dL_law_458 : decode cL_law 458 = .ok (.iload_n 3, 1) := by decide +kernel
theorem dL_law_459 : decode cL_law 459 = .ok (.iconst 1, 1) := by decide +kernel
theorem dL_law_460 : decode cL_law 460 = .ok (.iadd, 1) := by decide +kernel
theorem dL_law_461 : decode cL_law 461 = .ok (.iaload, 1) := by decide +kernel
theorem dL_law_462 : decode cL_law 462 = .ok (.invokevirtual 48, 3) := by decide +kernel
theorem dL_law_465 : decode cL_law 465 = .ok (.if_icmp .eq 962, 3) := by decide +kernel
theorem dL_law_468 : decode cL_law 468 = .ok (.iconst 0, 1) := by decide +kernel
theorem dL_law_469 : decode cL_law 469 = .ok (.ireturn, 1) := by decide +kernel
theorem dL_law_470 : decode cL_law 470 = .ok (.aload_n 1, 1) := by decide +kernel
theorem dL_law_471 : decode cL_law 471 = .ok (.aload_n 0, 1) := by decide +kernel
theorem dL_law_472 : decode cL_law 472 = .ok (.iload_n 3, 1) := by decide +kernel
theorem dL_law_473 : decode cL_law 473 = .ok (.iconst 1, 1) := by decide +kernel
theorem dL_law_474 : decode cL_law 474 = .ok (.iadd, 1) := by decide +kernel
theorem dL_law_475 : decode cL_law 475 = .ok (.iaload, 1) := by decide +kernel
theorem dL_law_476 : decode cL_law 476 = .ok (.aload_n 0, 1) := by decide +kernel
theorem dL_law_477 : decode cL_law 477 = .ok (.iload_n 3, 1) := by decide +kernel
theorem dL_law_478 : decode cL_law 478 = .ok (.iconst 2, 1) := by decide +kernel
theorem dL_law_479 : decode cL_law 479 = .ok (.iadd, 1) := by decide +kernel
theorem dL_law_480 : decode cL_law 480 = .ok (.iaload, 1) := by decide +kernel
theorem dL_law_481 : decode cL_law 481 = .ok (.aload_n 0, 1) := by decide +kernel
theorem dL_law_482 : decode cL_law 482 = .ok (.iload_n 3, 1) := by decide +kernel
theorem dL_law_483 : decode cL_law 483 = .ok (.iconst 3, 1) := by decide +kernel
theorem dL_law_484 : decode cL_law 484 = .ok (.iadd, 1) := by decide +kernel
theorem dL_law_485 : decode cL_law 485 = .ok (.iaload, 1) := by decide +kernel
theorem dL_law_486 : decode cL_law 486 = .ok (.invokevirtual 49, 3) := by decide +kernel
theorem dL_law_489 : decode cL_law 489 = .ok (.aload_n 2, 1) := by decide +kernel
theorem dL_law_490 : decode cL_law 490 = .ok (.aload_n 0, 1) := by decide +kernel
theorem dL_law_491 : decode cL_law 491 = .ok (.iload_n 3, 1) := by decide +kernel
theorem dL_law_492 : decode cL_law 492 = .ok (.iconst 1, 1) := by decide +kernel
theorem dL_law_493 : decode cL_law 493 = .ok (.iadd, 1) := by decide +kernel
theorem dL_law_494 : decode cL_law 494 = .ok (.iaload, 1) := by decide +kernel
theorem dL_law_495 : decode cL_law 495 = .ok (.aload_n 0, 1) := by decide +kernel
theorem dL_law_496 : decode cL_law 496 = .ok (.iload_n 3, 1) := by decide +kernel
theorem dL_law_497 : decode cL_law 497 = .ok (.iconst 2, 1) := by decide +kernel
theorem dL_law_498 : decode cL_law 498 = .ok (.iadd, 1) := by decide +kernel
theorem dL_law_499 : decode cL_law 499 = .ok (.iaload, 1) := by decide +kernel
theorem dL_law_500 : decode cL_law 500 = .ok (.aload_n 0, 1) := by decide +kernel
theorem dL_law_501 : decode cL_law 501 = .ok (.iload_n 3, 1) := by decide +kernel
theorem dL_law_502 : decode cL_law 502 = .ok (.iconst 3, 1) := by decide +kernel
theorem dL_law_503 : decode cL_law 503 = .ok (.iadd, 1) := by decide +kernel
theorem dL_law_504 : decode cL_law 504 = .ok (.iaload, 1) := by decide +kernel
theorem dL_law_505 : decode cL_law 505 = .ok (.invokevirtual 52, 3) := by decide +kernel
theorem dL_law_508 : decode cL_law 508 = .ok (.if_icmp .eq 919, 3) := by decide +kernel
theorem dL_law_511 : decode cL_law 511 = .ok (.iconst 0, 1) := by decide +kernel
theorem dL_law_512 : decode cL_law 512 = .ok (.ireturn, 1) := by decide +kernel
theorem dL_law_513 : decode cL_law 513 = .ok (.aload_n 1, 1) := by decide +kernel
theorem dL_law_514 : decode cL_law 514 = .ok (.aload_n 0, 1) := by decide +kernel
theorem dL_law_515 : decode cL_law 515 = .ok (.iload_n 3, 1) := by decide +kernel
theorem dL_law_516 : decode cL_law 516 = .ok (.iconst 1, 1) := by decide +kernel
theorem dL_law_517 : decode cL_law 517 = .ok (.iadd, 1) := by decide +kernel
theorem dL_law_518 : decode cL_law 518 = .ok (.iaload, 1) := by decide +kernel
theorem dL_law_519 : decode cL_law 519 = .ok (.aload_n 0, 1) := by decide +kernel
theorem dL_law_520 : decode cL_law 520 = .ok (.iload_n 3, 1) := by decide +kernel
theorem dL_law_521 : decode cL_law 521 = .ok (.iconst 2, 1) := by decide +kernel
theorem dL_law_522 : decode cL_law 522 = .ok (.iadd, 1) := by decide +kernel
theorem dL_law_523 : decode cL_law 523 = .ok (.iaload, 1) := by decide +kernel
theorem dL_law_524 : decode cL_law 524 = .ok (.aload_n 0, 1) := by decide +kernel
theorem dL_law_525 : decode cL_law 525 = .ok (.iload_n 3, 1) := by decide +kernel
theorem dL_law_526 : decode cL_law 526 = .ok (.iconst 3, 1) := by decide +kernel
theorem dL_law_527 : decode cL_law 527 = .ok (.iadd, 1) := by decide +kernel
theorem dL_law_528 : decode cL_law 528 = .ok (.iaload, 1) := by decide +kernel
theorem dL_law_529 : decode cL_law 529 = .ok (.invokevirtual 53, 3) := by decide +kernel
theorem dL_law_532 : decode cL_law 532 = .ok (.aload_n 2, 1) := by decide +kernel
theorem dL_law_533 : decode cL_law 533 = .ok (.aload_n 0, 1) := by decide +kernel
theorem dL_law_534 : decode cL_law 534 = .ok (.iload_n 3, 1) := by decide +kernel
theorem dL_law_535 : decode cL_law 535 = .ok (.iconst 1, 1) := by decide +kernel
theorem dL_law_536 : decode cL_law 536 = .ok (.iadd, 1) := by decide +kernel
theorem dL_law_537 : decode cL_law 537 = .ok (.iaload, 1) := by decide +kernel
theorem dL_law_538 : decode cL_law 538 = .ok (.aload_n 0, 1) := by decide +kernel
theorem dL_law_539 : decode cL_law 539 = .ok (.iload_n 3, 1) := by decide +kernel
theorem dL_law_540 : decode cL_law 540 = .ok (.iconst 2, 1) := by decide +kernel
theorem dL_law_541 : decode cL_law 541 = .ok (.iadd, 1) := by decide +kernel
theorem dL_law_542 : decode cL_law 542 = .ok (.iaload, 1) := by decide +kernel
theorem dL_law_543 : decode cL_law 543 = .ok (.aload_n 0, 1) := by decide +kernel
theorem dL_law_544 : decode cL_law 544 = .ok (.iload_n 3, 1) := by decide +kernel
theorem dL_law_545 : decode cL_law 545 = .ok (.iconst 3, 1) := by decide +kernel
theorem dL_law_546 : decode cL_law 546 = .ok (.iadd, 1) := by decide +kernel
theorem dL_law_547 : decode cL_law 547 = .ok (.iaload, 1) := by decide +kernel
theorem dL_law_548 : decode cL_law 548 = .ok (.invokevirtual 56, 3) := by decide +kernel
theorem dL_law_551 : decode cL_law 551 = .ok (.if_icmp .eq 876, 3) := by decide +kernel
theorem dL_law_554 : decode cL_law 554 = .ok (.iconst 0, 1) := by decide +kernel
theorem dL_law_555 : decode cL_law 555 = .ok (.ireturn, 1) := by decide +kernel
theorem dL_law_556 : decode cL_law 556 = .ok (.aload_n 1, 1) := by decide +kernel
theorem dL_law_557 : decode cL_law 557 = .ok (.aload_n 0, 1) := by decide +kernel
theorem dL_law_558 : decode cL_law 558 = .ok (.iload_n 3, 1) := by decide +kernel
theorem dL_law_559 : decode cL_law 559 = .ok (.iconst 1, 1) := by decide +kernel
theorem dL_law_560 : decode cL_law 560 = .ok (.iadd, 1) := by decide +kernel
theorem dL_law_561 : decode cL_law 561 = .ok (.iaload, 1) := by decide +kernel
theorem dL_law_562 : decode cL_law 562 = .ok (.aload_n 0, 1) := by decide +kernel
theorem dL_law_563 : decode cL_law 563 = .ok (.iload_n 3, 1) := by decide +kernel
theorem dL_law_564 : decode cL_law 564 = .ok (.iconst 2, 1) := by decide +kernel
theorem dL_law_565 : decode cL_law 565 = .ok (.iadd, 1) := by decide +kernel
theorem dL_law_566 : decode cL_law 566 = .ok (.iaload, 1) := by decide +kernel
theorem dL_law_567 : decode cL_law 567 = .ok (.invokevirtual 57, 3) := by decide +kernel
theorem dL_law_570 : decode cL_law 570 = .ok (.aload_n 2, 1) := by decide +kernel
theorem dL_law_571 : decode cL_law 571 = .ok (.aload_n 0, 1) := by decide +kernel
theorem dL_law_572 : decode cL_law 572 = .ok (.iload_n 3, 1) := by decide +kernel
theorem dL_law_573 : decode cL_law 573 = .ok (.iconst 1, 1) := by decide +kernel
theorem dL_law_574 : decode cL_law 574 = .ok (.iadd, 1) := by decide +kernel
theorem dL_law_575 : decode cL_law 575 = .ok (.iaload, 1) := by decide +kernel
theorem dL_law_576 : decode cL_law 576 = .ok (.aload_n 0, 1) := by decide +kernel
theorem dL_law_577 : decode cL_law 577 = .ok (.iload_n 3, 1) := by decide +kernel
theorem dL_law_578 : decode cL_law 578 = .ok (.iconst 2, 1) := by decide +kernel
theorem dL_law_579 : decode cL_law 579 = .ok (.iadd, 1) := by decide +kernel
theorem dL_law_580 : decode cL_law 580 = .ok (.iaload, 1) := by decide +kernel
theorem dL_law_581 : decode cL_law 581 = .ok (.invokevirtual 60, 3) := by decide +kernel
theorem dL_law_584 : decode cL_law 584 = .ok (.if_icmp .eq 843, 3) := by decide +kernel
theorem dL_law_587 : decode cL_law 587 = .ok (.iconst 0, 1) := by decide +kernel
theorem dL_law_588 : decode cL_law 588 = .ok (.ireturn, 1) := by decide +kernel
theorem dL_law_589 : decode cL_law 589 = .ok (.aload_n 1, 1) := by decide +kernel
theorem dL_law_590 : decode cL_law 590 = .ok (.aload_n 0, 1) := by decide +kernel
theorem dL_law_591 : decode cL_law 591 = .ok (.iload_n 3, 1) := by decide +kernel
theorem dL_law_592 : decode cL_law 592 = .ok (.iconst 1, 1) := by decide +kernel
theorem dL_law_593 : decode cL_law 593 = .ok (.iadd, 1) := by decide +kernel
theorem dL_law_594 : decode cL_law 594 = .ok (.iaload, 1) := by decide +kernel
theorem dL_law_595 : decode cL_law 595 = .ok (.aload_n 0, 1) := by decide +kernel
theorem dL_law_596 : decode cL_law 596 = .ok (.iload_n 3, 1) := by decide +kernel
theorem dL_law_597 : decode cL_law 597 = .ok (.iconst 2, 1) := by decide +kernel
theorem dL_law_598 : decode cL_law 598 = .ok (.iadd, 1) := by decide +kernel
theorem dL_law_599 : decode cL_law 599 = .ok (.iaload, 1) := by decide +kernel
theorem dL_law_600 : decode cL_law 600 = .ok (.invokevirtual 61, 3) := by decide +kernel
theorem dL_law_603 : decode cL_law 603 = .ok (.aload_n 2, 1) := by decide +kernel
theorem dL_law_604 : decode cL_law 604 = .ok (.aload_n 0, 1) := by decide +kernel
theorem dL_law_605 : decode cL_law 605 = .ok (.iload_n 3, 1) := by decide +kernel
theorem dL_law_606 : decode cL_law 606 = .ok (.iconst 1, 1) := by decide +kernel
theorem dL_law_607 : decode cL_law 607 = .ok (.iadd, 1) := by decide +kernel
theorem dL_law_608 : decode cL_law 608 = .ok (.iaload, 1) := by decide +kernel
theorem dL_law_609 : decode cL_law 609 = .ok (.aload_n 0, 1) := by decide +kernel
theorem dL_law_610 : decode cL_law 610 = .ok (.iload_n 3, 1) := by decide +kernel
theorem dL_law_611 : decode cL_law 611 = .ok (.iconst 2, 1) := by decide +kernel
theorem dL_law_612 : decode cL_law 612 = .ok (.iadd, 1) := by decide +kernel
theorem dL_law_613 : decode cL_law 613 = .ok (.iaload, 1) := by decide +kernel
theorem dL_law_614 : decode cL_law 614 = .ok (.invokevirtual 64, 3) := by decide +kernel
theorem dL_law_617 : decode cL_law 617 = .ok (.if_icmp .eq 810, 3) := by decide +kernel
theorem dL_law_620 : decode cL_law 620 = .ok (.iconst 0, 1) := by decide +kernel
theorem dL_law_621 : decode cL_law 621 = .ok (.ireturn, 1) := by decide +kernel
theorem dL_law_622 : decode cL_law 622 = .ok (.aload_n 1, 1) := by decide +kernel
theorem dL_law_623 : decode cL_law 623 = .ok (.aload_n 0, 1) := by decide +kernel
theorem dL_law_624 : decode cL_law 624 = .ok (.iload_n 3, 1) := by decide +kernel
theorem dL_law_625 : decode cL_law 625 = .ok (.iconst 1, 1) := by decide +kernel
theorem dL_law_626 : decode cL_law 626 = .ok (.iadd, 1) := by decide +kernel
theorem dL_law_627 : decode cL_law 627 = .ok (.iaload, 1) := by decide +kernel
theorem dL_law_628 : decode cL_law 628 = .ok (.aload_n 0, 1) := by decide +kernel
theorem dL_law_629 : decode cL_law 629 = .ok (.iload_n 3, 1) := by decide +kernel
theorem dL_law_630 : decode cL_law 630 = .ok (.iconst 2, 1) := by decide +kernel
theorem dL_law_631 : decode cL_law 631 = .ok (.iadd, 1) := by decide +kernel
theorem dL_law_632 : decode cL_law 632 = .ok (.iaload, 1) := by decide +kernel
theorem dL_law_633 : decode cL_law 633 = .ok (.invokevirtual 65, 3) := by decide +kernel
theorem dL_law_636 : decode cL_law 636 = .ok (.aload_n 2, 1) := by decide +kernel
theorem dL_law_637 : decode cL_law 637 = .ok (.aload_n 0, 1) := by decide +kernel
theorem dL_law_638 : decode cL_law 638 = .ok (.iload_n 3, 1) := by decide +kernel
theorem dL_law_639 : decode cL_law 639 = .ok (.iconst 1, 1) := by decide +kernel
theorem dL_law_640 : decode cL_law 640 = .ok (.iadd, 1) := by decide +kernel
theorem dL_law_641 : decode cL_law 641 = .ok (.iaload, 1) := by decide +kernel
theorem dL_law_642 : decode cL_law 642 = .ok (.aload_n 0, 1) := by decide +kernel
theorem dL_law_643 : decode cL_law 643 = .ok (.iload_n 3, 1) := by decide +kernel
theorem dL_law_644 : decode cL_law 644 = .ok (.iconst 2, 1) := by decide +kernel
theorem dL_law_645 : decode cL_law 645 = .ok (.iadd, 1) := by decide +kernel
theorem dL_law_646 : decode cL_law 646 = .ok (.iaload, 1) := by decide +kernel
theorem dL_law_647 : decode cL_law 647 = .ok (.invokevirtual 68, 3) := by decide +kernel
theorem dL_law_650 : decode cL_law 650 = .ok (.if_icmp .eq 777, 3) := by decide +kernel
theorem dL_law_653 : decode cL_law 653 = .ok (.iconst 0, 1) := by decide +kernel
theorem dL_law_654 : decode cL_law 654 = .ok (.ireturn, 1) := by decide +kernel
theorem dL_law_655 : decode cL_law 655 = .ok (.aload_n 1, 1) := by decide +kernel
theorem dL_law_656 : decode cL_law 656 = .ok (.aload_n 0, 1) := by decide +kernel
theorem dL_law_657 : decode cL_law 657 = .ok (.iload_n 3, 1) := by decide +kernel
theorem dL_law_658 : decode cL_law 658 = .ok (.iconst 1, 1) := by decide +kernel
theorem dL_law_659 : decode cL_law 659 = .ok (.iadd, 1) := by decide +kernel
theorem dL_law_660 : decode cL_law 660 = .ok (.iaload, 1) := by decide +kernel
theorem dL_law_661 : decode cL_law 661 = .ok (.invokevirtual 69, 3) := by decide +kernel
theorem dL_law_664 : decode cL_law 664 = .ok (.aload_n 2, 1) := by decide +kernel
theorem dL_law_665 : decode cL_law 665 = .ok (.aload_n 0, 1) := by decide +kernel
theorem dL_law_666 : decode cL_law 666 = .ok (.iload_n 3, 1) := by decide +kernel
theorem dL_law_667 : decode cL_law 667 = .ok (.iconst 1, 1) := by decide +kernel
theorem dL_law_668 : decode cL_law 668 = .ok (.iadd, 1) := by decide +kernel
theorem dL_law_669 : decode cL_law 669 = .ok (.iaload, 1) := by decide +kernel
theorem dL_law_670 : decode cL_law 670 = .ok (.invokevirtual 72, 3) := by decide +kernel
theorem dL_law_673 : decode cL_law 673 = .ok (.if_icmp .eq 754, 3) := by decide +kernel
theorem dL_law_676 : decode cL_law 676 = .ok (.iconst 0, 1) := by decide +kernel
theorem dL_law_677 : decode cL_law 677 = .ok (.ireturn, 1) := by decide +kernel
theorem dL_law_678 : decode cL_law 678 = .ok (.aload_n 1, 1) := by decide +kernel
theorem dL_law_679 : decode cL_law 679 = .ok (.aload_n 0, 1) := by decide +kernel
theorem dL_law_680 : decode cL_law 680 = .ok (.iload_n 3, 1) := by decide +kernel
theorem dL_law_681 : decode cL_law 681 = .ok (.iconst 1, 1) := by decide +kernel
theorem dL_law_682 : decode cL_law 682 = .ok (.iadd, 1) := by decide +kernel
theorem dL_law_683 : decode cL_law 683 = .ok (.iaload, 1) := by decide +kernel
theorem dL_law_684 : decode cL_law 684 = .ok (.aload_n 0, 1) := by decide +kernel
theorem dL_law_685 : decode cL_law 685 = .ok (.iload_n 3, 1) := by decide +kernel
theorem dL_law_686 : decode cL_law 686 = .ok (.iconst 2, 1) := by decide +kernel
theorem dL_law_687 : decode cL_law 687 = .ok (.iadd, 1) := by decide +kernel
theorem dL_law_688 : decode cL_law 688 = .ok (.iaload, 1) := by decide +kernel
theorem dL_law_689 : decode cL_law 689 = .ok (.invokevirtual 73, 3) := by decide +kernel
theorem dL_law_692 : decode cL_law 692 = .ok (.aload_n 2, 1) := by decide +kernel
theorem dL_law_693 : decode cL_law 693 = .ok (.aload_n 0, 1) := by decide +kernel
theorem dL_law_694 : decode cL_law 694 = .ok (.iload_n 3, 1) := by decide +kernel
theorem dL_law_695 : decode cL_law 695 = .ok (.iconst 1, 1) := by decide +kernel
theorem dL_law_696 : decode cL_law 696 = .ok (.iadd, 1) := by decide +kernel
theorem dL_law_697 : decode cL_law 697 = .ok (.iaload, 1) := by decide +kernel
theorem dL_law_698 : decode cL_law 698 = .ok (.aload_n 0, 1) := by decide +kernel
theorem dL_law_699 : decode cL_law 699 = .ok (.iload_n 3, 1) := by decide +kernel
theorem dL_law_700 : decode cL_law 700 = .ok (.iconst 2, 1) := by decide +kernel
theorem dL_law_701 : decode cL_law 701 = .ok (.iadd, 1) := by decide +kernel
theorem dL_law_702 : decode cL_law 702 = .ok (.iaload, 1) := by decide +kernel
theorem dL_law_703 : decode cL_law 703 = .ok (.invokevirtual 76, 3) := by decide +kernel
theorem dL_law_706 : decode cL_law 706 = .ok (.if_icmp .eq 721, 3) := by decide +kernel
theorem dL_law_709 : decode cL_law 709 = .ok (.iconst 0, 1) := by decide +kernel
theorem dL_law_710 : decode cL_law 710 = .ok (.ireturn, 1) := by decide +kernel
theorem dL_law_711 : decode cL_law 711 = .ok (.aload_n 1, 1) := by decide +kernel
theorem dL_law_712 : decode cL_law 712 = .ok (.aload_n 0, 1) := by decide +kernel
theorem dL_law_713 : decode cL_law 713 = .ok (.iload_n 3, 1) := by decide +kernel
theorem dL_law_714 : decode cL_law 714 = .ok (.iconst 1, 1) := by decide +kernel
theorem dL_law_715 : decode cL_law 715 = .ok (.iadd, 1) := by decide +kernel
theorem dL_law_716 : decode cL_law 716 = .ok (.iaload, 1) := by decide +kernel
theorem dL_law_717 : decode cL_law 717 = .ok (.aload_n 0, 1) := by decide +kernel
theorem dL_law_718 : decode cL_law 718 = .ok (.iload_n 3, 1) := by decide +kernel
theorem dL_law_719 : decode cL_law 719 = .ok (.iconst 2, 1) := by decide +kernel
theorem dL_law_720 : decode cL_law 720 = .ok (.iadd, 1) := by decide +kernel
theorem dL_law_721 : decode cL_law 721 = .ok (.iaload, 1) := by decide +kernel
theorem dL_law_722 : decode cL_law 722 = .ok (.aload_n 0, 1) := by decide +kernel
theorem dL_law_723 : decode cL_law 723 = .ok (.iload_n 3, 1) := by decide +kernel
theorem dL_law_724 : decode cL_law 724 = .ok (.iconst 3, 1) := by decide +kernel
theorem dL_law_725 : decode cL_law 725 = .ok (.iadd, 1) := by decide +kernel
theorem dL_law_726 : decode cL_law 726 = .ok (.iaload, 1) := by decide +kernel
theorem dL_law_727 : decode cL_law 727 = .ok (.invokevirtual 77, 3) := by decide +kernel
theorem dL_law_730 : decode cL_law 730 = .ok (.aload_n 2, 1) := by decide +kernel
theorem dL_law_731 : decode cL_law 731 = .ok (.aload_n 0, 1) := by decide +kernel
theorem dL_law_732 : decode cL_law 732 = .ok (.iload_n 3, 1) := by decide +kernel
theorem dL_law_733 : decode cL_law 733 = .ok (.iconst 1, 1) := by decide +kernel
theorem dL_law_734 : decode cL_law 734 = .ok (.iadd, 1) := by decide +kernel
theorem dL_law_735 : decode cL_law 735 = .ok (.iaload, 1) := by decide +kernel
theorem dL_law_736 : decode cL_law 736 = .ok (.aload_n 0, 1) := by decide +kernel
theorem dL_law_737 : decode cL_law 737 = .ok (.iload_n 3, 1) := by decide +kernel
theorem dL_law_738 : decode cL_law 738 = .ok (.iconst 2, 1) := by decide +kernel
theorem dL_law_739 : decode cL_law 739 = .ok (.iadd, 1) := by decide +kernel
theorem dL_law_740 : decode cL_law 740 = .ok (.iaload, 1) := by decide +kernel
theorem dL_law_741 : decode cL_law 741 = .ok (.aload_n 0, 1) := by decide +kernel
theorem dL_law_742 : decode cL_law 742 = .ok (.iload_n 3, 1) := by decide +kernel
theorem dL_law_743 : decode cL_law 743 = .ok (.iconst 3, 1) := by decide +kernel
theorem dL_law_744 : decode cL_law 744 = .ok (.iadd, 1) := by decide +kernel
theorem dL_law_745 : decode cL_law 745 = .ok (.iaload, 1) := by decide +kernel
theorem dL_law_746 : decode cL_law 746 = .ok (.invokevirtual 80, 3) := by decide +kernel
theorem dL_law_749 : decode cL_law 749 = .ok (.if_icmp .eq 678, 3) := by decide +kernel
theorem dL_law_752 : decode cL_law 752 = .ok (.iconst 0, 1) := by decide +kernel
theorem dL_law_753 : decode cL_law 753 = .ok (.ireturn, 1) := by decide +kernel
theorem dL_law_754 : decode cL_law 754 = .ok (.aload_n 1, 1) := by decide +kernel
theorem dL_law_755 : decode cL_law 755 = .ok (.aload_n 0, 1) := by decide +kernel
theorem dL_law_756 : decode cL_law 756 = .ok (.iload_n 3, 1) := by decide +kernel
theorem dL_law_757 : decode cL_law 757 = .ok (.iconst 1, 1) := by decide +kernel
theorem dL_law_758 : decode cL_law 758 = .ok (.iadd, 1) := by decide +kernel
theorem dL_law_759 : decode cL_law 759 = .ok (.iaload, 1) := by decide +kernel
theorem dL_law_760 : decode cL_law 760 = .ok (.invokevirtual 81, 3) := by decide +kernel
theorem dL_law_763 : decode cL_law 763 = .ok (.aload_n 2, 1) := by decide +kernel
theorem dL_law_764 : decode cL_law 764 = .ok (.aload_n 0, 1) := by decide +kernel
theorem dL_law_765 : decode cL_law 765 = .ok (.iload_n 3, 1) := by decide +kernel
theorem dL_law_766 : decode cL_law 766 = .ok (.iconst 1, 1) := by decide +kernel
theorem dL_law_767 : decode cL_law 767 = .ok (.iadd, 1) := by decide +kernel
theorem dL_law_768 : decode cL_law 768 = .ok (.iaload, 1) := by decide +kernel
theorem dL_law_769 : decode cL_law 769 = .ok (.invokevirtual 84, 3) := by decide +kernel
theorem dL_law_772 : decode cL_law 772 = .ok (.if_icmp .eq 655, 3) := by decide +kernel
theorem dL_law_775 : decode cL_law 775 = .ok (.iconst 0, 1) := by decide +kernel
theorem dL_law_776 : decode cL_law 776 = .ok (.ireturn, 1) := by decide +kernel
theorem dL_law_777 : decode cL_law 777 = .ok (.aload_n 1, 1) := by decide +kernel
theorem dL_law_778 : decode cL_law 778 = .ok (.aload_n 0, 1) := by decide +kernel
theorem dL_law_779 : decode cL_law 779 = .ok (.iload_n 3, 1) := by decide +kernel
theorem dL_law_780 : decode cL_law 780 = .ok (.iconst 1, 1) := by decide +kernel
theorem dL_law_781 : decode cL_law 781 = .ok (.iadd, 1) := by decide +kernel
theorem dL_law_782 : decode cL_law 782 = .ok (.iaload, 1) := by decide +kernel
theorem dL_law_783 : decode cL_law 783 = .ok (.aload_n 0, 1) := by decide +kernel
theorem dL_law_784 : decode cL_law 784 = .ok (.iload_n 3, 1) := by decide +kernel
theorem dL_law_785 : decode cL_law 785 = .ok (.iconst 2, 1) := by decide +kernel
theorem dL_law_786 : decode cL_law 786 = .ok (.iadd, 1) := by decide +kernel
theorem dL_law_787 : decode cL_law 787 = .ok (.iaload, 1) := by decide +kernel
theorem dL_law_788 : decode cL_law 788 = .ok (.invokevirtual 85, 3) := by decide +kernel
theorem dL_law_791 : decode cL_law 791 = .ok (.aload_n 2, 1) := by decide +kernel
theorem dL_law_792 : decode cL_law 792 = .ok (.aload_n 0, 1) := by decide +kernel
theorem dL_law_793 : decode cL_law 793 = .ok (.iload_n 3, 1) := by decide +kernel
theorem dL_law_794 : decode cL_law 794 = .ok (.iconst 1, 1) := by decide +kernel
theorem dL_law_795 : decode cL_law 795 = .ok (.iadd, 1) := by decide +kernel
theorem dL_law_796 : decode cL_law 796 = .ok (.iaload, 1) := by decide +kernel
theorem dL_law_797 : decode cL_law 797 = .ok (.aload_n 0, 1) := by decide +kernel
theorem dL_law_798 : decode cL_law 798 = .ok (.iload_n 3, 1) := by decide +kernel
theorem dL_law_799 : decode cL_law 799 = .ok (.iconst 2, 1) := by decide +kernel
theorem dL_law_800 : decode cL_law 800 = .ok (.iadd, 1) := by decide +kernel
theorem dL_law_801 : decode cL_law 801 = .ok (.iaload, 1) := by decide +kernel
theorem dL_law_802 : decode cL_law 802 = .ok (.invokevirtual 88, 3) := by decide +kernel
theorem dL_law_805 : decode cL_law 805 = .ok (.if_icmp .eq 622, 3) := by decide +kernel
theorem dL_law_808 : decode cL_law 808 = .ok (.iconst 0, 1) := by decide +kernel
theorem dL_law_809 : decode cL_law 809 = .ok (.ireturn, 1) := by decide +kernel
theorem dL_law_810 : decode cL_law 810 = .ok (.aload_n 1, 1) := by decide +kernel
theorem dL_law_811 : decode cL_law 811 = .ok (.aload_n 0, 1) := by decide +kernel
theorem dL_law_812 : decode cL_law 812 = .ok (.iload_n 3, 1) := by decide +kernel
theorem dL_law_813 : decode cL_law 813 = .ok (.iconst 1, 1) := by decide +kernel
theorem dL_law_814 : decode cL_law 814 = .ok (.iadd, 1) := by decide +kernel
theorem dL_law_815 : decode cL_law 815 = .ok (.iaload, 1) := by decide +kernel
theorem dL_law_816 : decode cL_law 816 = .ok (.aload_n 0, 1) := by decide +kernel
theorem dL_law_817 : decode cL_law 817 = .ok (.iload_n 3, 1) := by decide +kernel
theorem dL_law_818 : decode cL_law 818 = .ok (.iconst 2, 1) := by decide +kernel
theorem dL_law_819 : decode cL_law 819 = .ok (.iadd, 1) := by decide +kernel
theorem dL_law_820 : decode cL_law 820 = .ok (.iaload, 1) := by decide +kernel
theorem dL_law_821 : decode cL_law 821 = .ok (.invokevirtual 89, 3) := by decide +kernel
theorem dL_law_824 : decode cL_law 824 = .ok (.aload_n 2, 1) := by decide +kernel
theorem dL_law_825 : decode cL_law 825 = .ok (.aload_n 0, 1) := by decide +kernel
theorem dL_law_826 : decode cL_law 826 = .ok (.iload_n 3, 1) := by decide +kernel
theorem dL_law_827 : decode cL_law 827 = .ok (.iconst 1, 1) := by decide +kernel
theorem dL_law_828 : decode cL_law 828 = .ok (.iadd, 1) := by decide +kernel
theorem dL_law_829 : decode cL_law 829 = .ok (.iaload, 1) := by decide +kernel
theorem dL_law_830 : decode cL_law 830 = .ok (.aload_n 0, 1) := by decide +kernel
theorem dL_law_831 : decode cL_law 831 = .ok (.iload_n 3, 1) := by decide +kernel
theorem dL_law_832 : decode cL_law 832 = .ok (.iconst 2, 1) := by decide +kernel
theorem dL_law_833 : decode cL_law 833 = .ok (.iadd, 1) := by decide +kernel
theorem dL_law_834 : decode cL_law 834 = .ok (.iaload, 1) := by decide +kernel
theorem dL_law_835 : decode cL_law 835 = .ok (.invokevirtual 92, 3) := by decide +kernel
theorem dL_law_838 : decode cL_law 838 = .ok (.if_icmp .eq 589, 3) := by decide +kernel
theorem dL_law_841 : decode cL_law 841 = .ok (.iconst 0, 1) := by decide +kernel
theorem dL_law_842 : decode cL_law 842 = .ok (.ireturn, 1) := by decide +kernel
theorem dL_law_843 : decode cL_law 843 = .ok (.aload_n 1, 1) := by decide +kernel
theorem dL_law_844 : decode cL_law 844 = .ok (.aload_n 0, 1) := by decide +kernel
theorem dL_law_845 : decode cL_law 845 = .ok (.iload_n 3, 1) := by decide +kernel
theorem dL_law_846 : decode cL_law 846 = .ok (.iconst 1, 1) := by decide +kernel
theorem dL_law_847 : decode cL_law 847 = .ok (.iadd, 1) := by decide +kernel
theorem dL_law_848 : decode cL_law 848 = .ok (.iaload, 1) := by decide +kernel
theorem dL_law_849 : decode cL_law 849 = .ok (.aload_n 0, 1) := by decide +kernel
theorem dL_law_850 : decode cL_law 850 = .ok (.iload_n 3, 1) := by decide +kernel
theorem dL_law_851 : decode cL_law 851 = .ok (.iconst 2, 1) := by decide +kernel
theorem dL_law_852 : decode cL_law 852 = .ok (.iadd, 1) := by decide +kernel
theorem dL_law_853 : decode cL_law 853 = .ok (.iaload, 1) := by decide +kernel
theorem dL_law_854 : decode cL_law 854 = .ok (.aload_n 0, 1) := by decide +kernel
theorem dL_law_855 : decode cL_law 855 = .ok (.iload_n 3, 1) := by decide +kernel
theorem dL_law_856 : decode cL_law 856 = .ok (.iconst 3, 1) := by decide +kernel
theorem dL_law_857 : decode cL_law 857 = .ok (.iadd, 1) := by decide +kernel
theorem dL_law_858 : decode cL_law 858 = .ok (.iaload, 1) := by decide +kernel
theorem dL_law_859 : decode cL_law 859 = .ok (.invokevirtual 93, 3) := by decide +kernel
theorem dL_law_862 : decode cL_law 862 = .ok (.aload_n 2, 1) := by decide +kernel
theorem dL_law_863 : decode cL_law 863 = .ok (.aload_n 0, 1) := by decide +kernel
theorem dL_law_864 : decode cL_law 864 = .ok (.iload_n 3, 1) := by decide +kernel
theorem dL_law_865 : decode cL_law 865 = .ok (.iconst 1, 1) := by decide +kernel
theorem dL_law_866 : decode cL_law 866 = .ok (.iadd, 1) := by decide +kernel
theorem dL_law_867 : decode cL_law 867 = .ok (.iaload, 1) := by decide +kernel
theorem dL_law_868 : decode cL_law 868 = .ok (.aload_n 0, 1) := by decide +kernel
theorem dL_law_869 : decode cL_law 869 = .ok (.iload_n 3, 1) := by decide +kernel
theorem dL_law_870 : decode cL_law 870 = .ok (.iconst 2, 1) := by decide +kernel
theorem dL_law_871 : decode cL_law 871 = .ok (.iadd, 1) := by decide +kernel
theorem dL_law_872 : decode cL_law 872 = .ok (.iaload, 1) := by decide +kernel
theorem dL_law_873 : decode cL_law 873 = .ok (.aload_n 0, 1) := by decide +kernel
theorem dL_law_874 : decode cL_law 874 = .ok (.iload_n 3, 1) := by decide +kernel
theorem dL_law_875 : decode cL_law 875 = .ok (.iconst 3, 1) := by decide +kernel
theorem dL_law_876 : decode cL_law 876 = .ok (.iadd, 1) := by decide +kernel
theorem dL_law_877 : decode cL_law 877 = .ok (.iaload, 1) := by decide +kernel
theorem dL_law_878 : decode cL_law 878 = .ok (.invokevirtual 96, 3) := by decide +kernel
theorem dL_law_881 : decode cL_law 881 = .ok (.if_icmp .eq 546, 3) := by decide +kernel
theorem dL_law_884 : decode cL_law 884 = .ok (.iconst 0, 1) := by decide +kernel
theorem dL_law_885 : decode cL_law 885 = .ok (.ireturn, 1) := by decide +kernel
theorem dL_law_886 : decode cL_law 886 = .ok (.aload_n 1, 1) := by decide +kernel
theorem dL_law_887 : decode cL_law 887 = .ok (.aload_n 0, 1) := by decide +kernel
theorem dL_law_888 : decode cL_law 888 = .ok (.iload_n 3, 1) := by decide +kernel
theorem dL_law_889 : decode cL_law 889 = .ok (.iconst 1, 1) := by decide +kernel
theorem dL_law_890 : decode cL_law 890 = .ok (.iadd, 1) := by decide +kernel
theorem dL_law_891 : decode cL_law 891 = .ok (.iaload, 1) := by decide +kernel
theorem dL_law_892 : decode cL_law 892 = .ok (.aload_n 0, 1) := by decide +kernel
theorem dL_law_893 : decode cL_law 893 = .ok (.iload_n 3, 1) := by decide +kernel
theorem dL_law_894 : decode cL_law 894 = .ok (.iconst 2, 1) := by decide +kernel
theorem dL_law_895 : decode cL_law 895 = .ok (.iadd, 1) := by decide +kernel
theorem dL_law_896 : decode cL_law 896 = .ok (.iaload, 1) := by decide +kernel
theorem dL_law_897 : decode cL_law 897 = .ok (.aload_n 0, 1) := by decide +kernel
theorem dL_law_898 : decode cL_law 898 = .ok (.iload_n 3, 1) := by decide +kernel
theorem dL_law_899 : decode cL_law 899 = .ok (.iconst 3, 1) := by decide +kernel
theorem dL_law_900 : decode cL_law 900 = .ok (.iadd, 1) := by decide +kernel
theorem dL_law_901 : decode cL_law 901 = .ok (.iaload, 1) := by decide +kernel
theorem dL_law_902 : decode cL_law 902 = .ok (.invokevirtual 97, 3) := by decide +kernel
theorem dL_law_905 : decode cL_law 905 = .ok (.aload_n 2, 1) := by decide +kernel
theorem dL_law_906 : decode cL_law 906 = .ok (.aload_n 0, 1) := by decide +kernel
theorem dL_law_907 : decode cL_law 907 = .ok (.iload_n 3, 1) := by decide +kernel
theorem dL_law_908 : decode cL_law 908 = .ok (.iconst 1, 1) := by decide +kernel
theorem dL_law_909 : decode cL_law 909 = .ok (.iadd, 1) := by decide +kernel
theorem dL_law_910 : decode cL_law 910 = .ok (.iaload, 1) := by decide +kernel
theorem dL_law_911 : decode cL_law 911 = .ok (.aload_n 0, 1) := by decide +kernel
theorem dL_law_912 : decode cL_law 912 = .ok (.iload_n 3, 1) := by decide +kernel
theorem dL_law_913 : decode cL_law 913 = .ok (.iconst 2, 1) := by decide +kernel
theorem dL_law_914 : decode cL_law 914 = .ok (.iadd, 1) := by decide +kernel
theorem dL_law_915 : decode cL_law 915 = .ok (.iaload, 1) := by decide +kernel
theorem dL_law_916 : decode cL_law 916 = .ok (.aload_n 0, 1) := by decide +kernel
theorem dL_law_917 : decode cL_law 917 = .ok (.iload_n 3, 1) := by decide +kernel
theorem dL_law_918 : decode cL_law 918 = .ok (.iconst 3, 1) := by decide +kernel
theorem dL_law_919 : decode cL_law 919 = .ok (.iadd, 1) := by decide +kernel
theorem dL_law_920 : decode cL_law 920 = .ok (.iaload, 1) := by decide +kernel
theorem dL_law_921 : decode cL_law 921 = .ok (.invokevirtual 100, 3) := by decide +kernel
theorem dL_law_924 : decode cL_law 924 = .ok (.if_icmp .eq 503, 3) := by decide +kernel
theorem dL_law_927 : decode cL_law 927 = .ok (.iconst 0, 1) := by decide +kernel
theorem dL_law_928 : decode cL_law 928 = .ok (.ireturn, 1) := by decide +kernel
theorem dL_law_929 : decode cL_law 929 = .ok (.aload_n 1, 1) := by decide +kernel
theorem dL_law_930 : decode cL_law 930 = .ok (.aload_n 0, 1) := by decide +kernel
theorem dL_law_931 : decode cL_law 931 = .ok (.iload_n 3, 1) := by decide +kernel
theorem dL_law_932 : decode cL_law 932 = .ok (.iconst 1, 1) := by decide +kernel
theorem dL_law_933 : decode cL_law 933 = .ok (.iadd, 1) := by decide +kernel
theorem dL_law_934 : decode cL_law 934 = .ok (.iaload, 1) := by decide +kernel
theorem dL_law_935 : decode cL_law 935 = .ok (.aload_n 0, 1) := by decide +kernel
theorem dL_law_936 : decode cL_law 936 = .ok (.iload_n 3, 1) := by decide +kernel
theorem dL_law_937 : decode cL_law 937 = .ok (.iconst 2, 1) := by decide +kernel
theorem dL_law_938 : decode cL_law 938 = .ok (.iadd, 1) := by decide +kernel
theorem dL_law_939 : decode cL_law 939 = .ok (.iaload, 1) := by decide +kernel
theorem dL_law_940 : decode cL_law 940 = .ok (.aload_n 0, 1) := by decide +kernel
theorem dL_law_941 : decode cL_law 941 = .ok (.iload_n 3, 1) := by decide +kernel
theorem dL_law_942 : decode cL_law 942 = .ok (.iconst 3, 1) := by decide +kernel
theorem dL_law_943 : decode cL_law 943 = .ok (.iadd, 1) := by decide +kernel
theorem dL_law_944 : decode cL_law 944 = .ok (.iaload, 1) := by decide +kernel
theorem dL_law_945 : decode cL_law 945 = .ok (.invokevirtual 101, 3) := by decide +kernel
theorem dL_law_948 : decode cL_law 948 = .ok (.aload_n 2, 1) := by decide +kernel
theorem dL_law_949 : decode cL_law 949 = .ok (.aload_n 0, 1) := by decide +kernel
theorem dL_law_950 : decode cL_law 950 = .ok (.iload_n 3, 1) := by decide +kernel
theorem dL_law_951 : decode cL_law 951 = .ok (.iconst 1, 1) := by decide +kernel
theorem dL_law_952 : decode cL_law 952 = .ok (.iadd, 1) := by decide +kernel
theorem dL_law_953 : decode cL_law 953 = .ok (.iaload, 1) := by decide +kernel
theorem dL_law_954 : decode cL_law 954 = .ok (.aload_n 0, 1) := by decide +kernel
theorem dL_law_955 : decode cL_law 955 = .ok (.iload_n 3, 1) := by decide +kernel
theorem dL_law_956 : decode cL_law 956 = .ok (.iconst 2, 1) := by decide +kernel
theorem dL_law_957 : decode cL_law 957 = .ok (.iadd, 1) := by decide +kernel
theorem dL_law_958 : decode cL_law 958 = .ok (.iaload, 1) := by decide +kernel
theorem dL_law_959 : decode cL_law 959 = .ok (.aload_n 0, 1) := by decide +kernel
theorem dL_law_960 : decode cL_law 960 = .ok (.iload_n 3, 1) := by decide +kernel
theorem dL_law_961 : decode cL_law 961 = .ok (.iconst 3, 1) := by decide +kernel
theorem dL_law_962 : decode cL_law 962 = .ok (.iadd, 1) := by decide +kernel
theorem dL_law_963 : decode cL_law 963 = .ok (.iaload, 1) := by decide +kernel
theorem dL_law_964 : decode cL_law 964 = .ok (.invokevirtual 104, 3) := by decide +kernel
theorem dL_law_967 : decode cL_law 967 = .ok (.if_icmp .eq 460, 3) := by decide +kernel
theorem dL_law_970 : decode cL_law 970 = .ok (.iconst 0, 1) := by decide +kernel
theorem dL_law_971 : decode cL_law 971 = .ok (.ireturn, 1) := by decide +kernel
theorem dL_law_972 : decode cL_law 972 = .ok (.aload_n 1, 1) := by decide +kernel
theorem dL_law_973 : decode cL_law 973 = .ok (.aload_n 0, 1) := by decide +kernel
theorem dL_law_974 : decode cL_law 974 = .ok (.iload_n 3, 1) := by decide +kernel
theorem dL_law_975 : decode cL_law 975 = .ok (.iconst 1, 1) := by decide +kernel
theorem dL_law_976 : decode cL_law 976 = .ok (.iadd, 1) := by decide +kernel
theorem dL_law_977 : decode cL_law 977 = .ok (.iaload, 1) := by decide +kernel
theorem dL_law_978 : decode cL_law 978 = .ok (.aload_n 0, 1) := by decide +kernel
theorem dL_law_979 : decode cL_law 979 = .ok (.iload_n 3, 1) := by decide +kernel
theorem dL_law_980 : decode cL_law 980 = .ok (.iconst 2, 1) := by decide +kernel
theorem dL_law_981 : decode cL_law 981 = .ok (.iadd, 1) := by decide +kernel
theorem dL_law_982 : decode cL_law 982 = .ok (.iaload, 1) := by decide +kernel
theorem dL_law_983 : decode cL_law 983 = .ok (.invokevirtual 105, 3) := by decide +kernel
theorem dL_law_986 : decode cL_law 986 = .ok (.aload_n 2, 1) := by decide +kernel
theorem dL_law_987 : decode cL_law 987 = .ok (.aload_n 0, 1) := by decide +kernel
theorem dL_law_988 : decode cL_law 988 = .ok (.iload_n 3, 1) := by decide +kernel
theorem dL_law_989 : decode cL_law 989 = .ok (.iconst 1, 1) := by decide +kernel
theorem dL_law_990 : decode cL_law 990 = .ok (.iadd, 1) := by decide +kernel
theorem dL_law_991 : decode cL_law 991 = .ok (.iaload, 1) := by decide +kernel
theorem dL_law_992 : decode cL_law 992 = .ok (.aload_n 0, 1) := by decide +kernel
theorem dL_law_993 : decode cL_law 993 = .ok (.iload_n 3, 1) := by decide +kernel
theorem dL_law_994 : decode cL_law 994 = .ok (.iconst 2, 1) := by decide +kernel
theorem dL_law_995 : decode cL_law 995 = .ok (.iadd, 1) := by decide +kernel
theorem dL_law_996 : decode cL_law 996 = .ok (.iaload, 1) := by decide +kernel
theorem dL_law_997 : decode cL_law 997 = .ok (.invokevirtual 108, 3) := by decide +kernel
theorem dL_law_1000 : decode cL_law 1000 = .ok (.if_icmp .eq 427, 3) := by decide +kernel
theorem dL_law_1003 : decode cL_law 1003 = .ok (.iconst 0, 1) := by decide +kernel
theorem dL_law_1004 : decode cL_law 1004 = .ok (.ireturn, 1) := by decide +kernel
theorem dL_law_1005 : decode cL_law 1005 = .ok (.aload_n 1, 1) := by decide +kernel
theorem dL_law_1006 : decode cL_law 1006 = .ok (.invokevirtual 109, 3) := by decide +kernel
theorem dL_law_1009 : decode cL_law 1009 = .ok (.aload_n 2, 1) := by decide +kernel
theorem dL_law_1010 : decode cL_law 1010 = .ok (.invokevirtual 113, 3) := by decide +kernel
theorem dL_law_1013 : decode cL_law 1013 = .ok (.if_icmp .eq 414, 3) := by decide +kernel
theorem dL_law_1016 : decode cL_law 1016 = .ok (.iconst 0, 1) := by decide +kernel
theorem dL_law_1017 : decode cL_law 1017 = .ok (.ireturn, 1) := by decide +kernel
theorem dL_law_1018 : decode cL_law 1018 = .ok (.aload_n 1, 1) := by decide +kernel
theorem dL_law_1019 : decode cL_law 1019 = .ok (.aload_n 0, 1) := by decide +kernel
theorem dL_law_1020 : decode cL_law 1020 = .ok (.iload_n 3, 1) := by decide +kernel
theorem dL_law_1021 : decode cL_law 1021 = .ok (.iconst 1, 1) := by decide +kernel
theorem dL_law_1022 : decode cL_law 1022 = .ok (.iadd, 1) := by decide +kernel
theorem dL_law_1023 : decode cL_law 1023 = .ok (.iaload, 1) := by decide +kernel
theorem dL_law_1024 : decode cL_law 1024 = .ok (.aload_n 0, 1) := by decide +kernel
theorem dL_law_1025 : decode cL_law 1025 = .ok (.iload_n 3, 1) := by decide +kernel
theorem dL_law_1026 : decode cL_law 1026 = .ok (.iconst 2, 1) := by decide +kernel
theorem dL_law_1027 : decode cL_law 1027 = .ok (.iadd, 1) := by decide +kernel
theorem dL_law_1028 : decode cL_law 1028 = .ok (.iaload, 1) := by decide +kernel
theorem dL_law_1029 : decode cL_law 1029 = .ok (.invokevirtual 114, 3) := by decide +kernel
theorem dL_law_1032 : decode cL_law 1032 = .ok (.aload_n 2, 1) := by decide +kernel
theorem dL_law_1033 : decode cL_law 1033 = .ok (.aload_n 0, 1) := by decide +kernel
theorem dL_law_1034 : decode cL_law 1034 = .ok (.iload_n 3, 1) := by decide +kernel
theorem dL_law_1035 : decode cL_law 1035 = .ok (.iconst 1, 1) := by decide +kernel
theorem dL_law_1036 : decode cL_law 1036 = .ok (.iadd, 1) := by decide +kernel
theorem dL_law_1037 : decode cL_law 1037 = .ok (.iaload, 1) := by decide +kernel
theorem dL_law_1038 : decode cL_law 1038 = .ok (.aload_n 0, 1) := by decide +kernel
theorem dL_law_1039 : decode cL_law 1039 = .ok (.iload_n 3, 1) := by decide +kernel
theorem dL_law_1040 : decode cL_law 1040 = .ok (.iconst 2, 1) := by decide +kernel
theorem dL_law_1041 : decode cL_law 1041 = .ok (.iadd, 1) := by decide +kernel
theorem dL_law_1042 : decode cL_law 1042 = .ok (.iaload, 1) := by decide +kernel
theorem dL_law_1043 : decode cL_law 1043 = .ok (.invokevirtual 117, 3) := by decide +kernel
theorem dL_law_1046 : decode cL_law 1046 = .ok (.if_icmp .eq 381, 3) := by decide +kernel
theorem dL_law_1049 : decode cL_law 1049 = .ok (.iconst 0, 1) := by decide +kernel
theorem dL_law_1050 : decode cL_law 1050 = .ok (.ireturn, 1) := by decide +kernel
theorem dL_law_1051 : decode cL_law 1051 = .ok (.aload_n 1, 1) := by decide +kernel
theorem dL_law_1052 : decode cL_law 1052 = .ok (.aload_n 0, 1) := by decide +kernel
theorem dL_law_1053 : decode cL_law 1053 = .ok (.iload_n 3, 1) := by decide +kernel
theorem dL_law_1054 : decode cL_law 1054 = .ok (.iconst 1, 1) := by decide +kernel
theorem dL_law_1055 : decode cL_law 1055 = .ok (.iadd, 1) := by decide +kernel
theorem dL_law_1056 : decode cL_law 1056 = .ok (.iaload, 1) := by decide +kernel
theorem dL_law_1057 : decode cL_law 1057 = .ok (.invokevirtual 118, 3) := by decide +kernel
theorem dL_law_1060 : decode cL_law 1060 = .ok (.aload_n 2, 1) := by decide +kernel
theorem dL_law_1061 : decode cL_law 1061 = .ok (.aload_n 0, 1) := by decide +kernel
theorem dL_law_1062 : decode cL_law 1062 = .ok (.iload_n 3, 1) := by decide +kernel
theorem dL_law_1063 : decode cL_law 1063 = .ok (.iconst 1, 1) := by decide +kernel
theorem dL_law_1064 : decode cL_law 1064 = .ok (.iadd, 1) := by decide +kernel
theorem dL_law_1065 : decode cL_law 1065 = .ok (.iaload, 1) := by decide +kernel
theorem dL_law_1066 : decode cL_law 1066 = .ok (.invokevirtual 121, 3) := by decide +kernel
theorem dL_law_1069 : decode cL_law 1069 = .ok (.if_icmp .eq 358, 3) := by decide +kernel
theorem dL_law_1072 : decode cL_law 1072 = .ok (.iconst 0, 1) := by decide +kernel
theorem dL_law_1073 : decode cL_law 1073 = .ok (.ireturn, 1) := by decide +kernel
theorem dL_law_1074 : decode cL_law 1074 = .ok (.aload_n 1, 1) := by decide +kernel
theorem dL_law_1075 : decode cL_law 1075 = .ok (.aload_n 0, 1) := by decide +kernel
theorem dL_law_1076 : decode cL_law 1076 = .ok (.iload_n 3, 1) := by decide +kernel
theorem dL_law_1077 : decode cL_law 1077 = .ok (.iconst 1, 1) := by decide +kernel
theorem dL_law_1078 : decode cL_law 1078 = .ok (.iadd, 1) := by decide +kernel
theorem dL_law_1079 : decode cL_law 1079 = .ok (.iaload, 1) := by decide +kernel
theorem dL_law_1080 : decode cL_law 1080 = .ok (.aload_n 0, 1) := by decide +kernel
theorem dL_law_1081 : decode cL_law 1081 = .ok (.iload_n 3, 1) := by decide +kernel
theorem dL_law_1082 : decode cL_law 1082 = .ok (.iconst 2, 1) := by decide +kernel
theorem dL_law_1083 : decode cL_law 1083 = .ok (.iadd, 1) := by decide +kernel
theorem dL_law_1084 : decode cL_law 1084 = .ok (.iaload, 1) := by decide +kernel
theorem dL_law_1085 : decode cL_law 1085 = .ok (.aload_n 0, 1) := by decide +kernel
theorem dL_law_1086 : decode cL_law 1086 = .ok (.iload_n 3, 1) := by decide +kernel
theorem dL_law_1087 : decode cL_law 1087 = .ok (.iconst 3, 1) := by decide +kernel
theorem dL_law_1088 : decode cL_law 1088 = .ok (.iadd, 1) := by decide +kernel
theorem dL_law_1089 : decode cL_law 1089 = .ok (.iaload, 1) := by decide +kernel
theorem dL_law_1090 : decode cL_law 1090 = .ok (.invokevirtual 122, 3) := by decide +kernel
theorem dL_law_1093 : decode cL_law 1093 = .ok (.aload_n 2, 1) := by decide +kernel
theorem dL_law_1094 : decode cL_law 1094 = .ok (.aload_n 0, 1) := by decide +kernel
theorem dL_law_1095 : decode cL_law 1095 = .ok (.iload_n 3, 1) := by decide +kernel
theorem dL_law_1096 : decode cL_law 1096 = .ok (.iconst 1, 1) := by decide +kernel
theorem dL_law_1097 : decode cL_law 1097 = .ok (.iadd, 1) := by decide +kernel
theorem dL_law_1098 : decode cL_law 1098 = .ok (.iaload, 1) := by decide +kernel
theorem dL_law_1099 : decode cL_law 1099 = .ok (.aload_n 0, 1) := by decide +kernel
theorem dL_law_1100 : decode cL_law 1100 = .ok (.iload_n 3, 1) := by decide +kernel
theorem dL_law_1101 : decode cL_law 1101 = .ok (.iconst 2, 1) := by decide +kernel
theorem dL_law_1102 : decode cL_law 1102 = .ok (.iadd, 1) := by decide +kernel
theorem dL_law_1103 : decode cL_law 1103 = .ok (.iaload, 1) := by decide +kernel
theorem dL_law_1104 : decode cL_law 1104 = .ok (.aload_n 0, 1) := by decide +kernel
theorem dL_law_1105 : decode cL_law 1105 = .ok (.iload_n 3, 1) := by decide +kernel
theorem dL_law_1106 : decode cL_law 1106 = .ok (.iconst 3, 1) := by decide +kernel
theorem dL_law_1107 : decode cL_law 1107 = .ok (.iadd, 1) := by decide +kernel
theorem dL_law_1108 : decode cL_law 1108 = .ok (.iaload, 1) := by decide +kernel
theorem dL_law_1109 : decode cL_law 1109 = .ok (.invokevirtual 125, 3) := by decide +kernel
theorem dL_law_1112 : decode cL_law 1112 = .ok (.if_icmp .eq 315, 3) := by decide +kernel
theorem dL_law_1115 : decode cL_law 1115 = .ok (.iconst 0, 1) := by decide +kernel
theorem dL_law_1116 : decode cL_law 1116 = .ok (.ireturn, 1) := by decide +kernel
theorem dL_law_1117 : decode cL_law 1117 = .ok (.aload_n 1, 1) := by decide +kernel
theorem dL_law_1118 : decode cL_law 1118 = .ok (.aload_n 0, 1) := by decide +kernel
theorem dL_law_1119 : decode cL_law 1119 = .ok (.iload_n 3, 1) := by decide +kernel
theorem dL_law_1120 : decode cL_law 1120 = .ok (.iconst 1, 1) := by decide +kernel
theorem dL_law_1121 : decode cL_law 1121 = .ok (.iadd, 1) := by decide +kernel
theorem dL_law_1122 : decode cL_law 1122 = .ok (.iaload, 1) := by decide +kernel
theorem dL_law_1123 : decode cL_law 1123 = .ok (.aload_n 0, 1) := by decide +kernel
theorem dL_law_1124 : decode cL_law 1124 = .ok (.iload_n 3, 1) := by decide +kernel
theorem dL_law_1125 : decode cL_law 1125 = .ok (.iconst 2, 1) := by decide +kernel
theorem dL_law_1126 : decode cL_law 1126 = .ok (.iadd, 1) := by decide +kernel
theorem dL_law_1127 : decode cL_law 1127 = .ok (.iaload, 1) := by decide +kernel
theorem dL_law_1128 : decode cL_law 1128 = .ok (.aload_n 0, 1) := by decide +kernel
theorem dL_law_1129 : decode cL_law 1129 = .ok (.iload_n 3, 1) := by decide +kernel
theorem dL_law_1130 : decode cL_law 1130 = .ok (.iconst 3, 1) := by decide +kernel
theorem dL_law_1131 : decode cL_law 1131 = .ok (.iadd, 1) := by decide +kernel
theorem dL_law_1132 : decode cL_law 1132 = .ok (.iaload, 1) := by decide +kernel
theorem dL_law_1133 : decode cL_law 1133 = .ok (.aload_n 0, 1) := by decide +kernel
theorem dL_law_1134 : decode cL_law 1134 = .ok (.iload_n 3, 1) := by decide +kernel
theorem dL_law_1135 : decode cL_law 1135 = .ok (.iconst 4, 1) := by decide +kernel
theorem dL_law_1136 : decode cL_law 1136 = .ok (.iadd, 1) := by decide +kernel
theorem dL_law_1137 : decode cL_law 1137 = .ok (.iaload, 1) := by decide +kernel
theorem dL_law_1138 : decode cL_law 1138 = .ok (.invokevirtual 126, 3) := by decide +kernel
theorem dL_law_1141 : decode cL_law 1141 = .ok (.aload_n 2, 1) := by decide +kernel
theorem dL_law_1142 : decode cL_law 1142 = .ok (.aload_n 0, 1) := by decide +kernel
theorem dL_law_1143 : decode cL_law 1143 = .ok (.iload_n 3, 1) := by decide +kernel
theorem dL_law_1144 : decode cL_law 1144 = .ok (.iconst 1, 1) := by decide +kernel
theorem dL_law_1145 : decode cL_law 1145 = .ok (.iadd, 1) := by decide +kernel
theorem dL_law_1146 : decode cL_law 1146 = .ok (.iaload, 1) := by decide +kernel
theorem dL_law_1147 : decode cL_law 1147 = .ok (.aload_n 0, 1) := by decide +kernel
theorem dL_law_1148 : decode cL_law 1148 = .ok (.iload_n 3, 1) := by decide +kernel
theorem dL_law_1149 : decode cL_law 1149 = .ok (.iconst 2, 1) := by decide +kernel
theorem dL_law_1150 : decode cL_law 1150 = .ok (.iadd, 1) := by decide +kernel
theorem dL_law_1151 : decode cL_law 1151 = .ok (.iaload, 1) := by decide +kernel
theorem dL_law_1152 : decode cL_law 1152 = .ok (.aload_n 0, 1) := by decide +kernel
theorem dL_law_1153 : decode cL_law 1153 = .ok (.iload_n 3, 1) := by decide +kernel
theorem dL_law_1154 : decode cL_law 1154 = .ok (.iconst 3, 1) := by decide +kernel
theorem dL_law_1155 : decode cL_law 1155 = .ok (.iadd, 1) := by decide +kernel
theorem dL_law_1156 : decode cL_law 1156 = .ok (.iaload, 1) := by decide +kernel
theorem dL_law_1157 : decode cL_law 1157 = .ok (.aload_n 0, 1) := by decide +kernel
theorem dL_law_1158 : decode cL_law 1158 = .ok (.iload_n 3, 1) := by decide +kernel
theorem dL_law_1159 : decode cL_law 1159 = .ok (.iconst 4, 1) := by decide +kernel
theorem dL_law_1160 : decode cL_law 1160 = .ok (.iadd, 1) := by decide +kernel
theorem dL_law_1161 : decode cL_law 1161 = .ok (.iaload, 1) := by decide +kernel
theorem dL_law_1162 : decode cL_law 1162 = .ok (.invokevirtual 130, 3) := by decide +kernel
theorem dL_law_1165 : decode cL_law 1165 = .ok (.if_icmp .eq 262, 3) := by decide +kernel
theorem dL_law_1168 : decode cL_law 1168 = .ok (.iconst 0, 1) := by decide +kernel
theorem dL_law_1169 : decode cL_law 1169 = .ok (.ireturn, 1) := by decide +kernel
theorem dL_law_1170 : decode cL_law 1170 = .ok (.aload_n 1, 1) := by decide +kernel
theorem dL_law_1171 : decode cL_law 1171 = .ok (.aload_n 0, 1) := by decide +kernel
theorem dL_law_1172 : decode cL_law 1172 = .ok (.iload_n 3, 1) := by decide +kernel
theorem dL_law_1173 : decode cL_law 1173 = .ok (.iconst 1, 1) := by decide +kernel
theorem dL_law_1174 : decode cL_law 1174 = .ok (.iadd, 1) := by decide +kernel
theorem dL_law_1175 : decode cL_law 1175 = .ok (.iaload, 1) := by decide +kernel
theorem dL_law_1176 : decode cL_law 1176 = .ok (.aload_n 0, 1) := by decide +kernel
theorem dL_law_1177 : decode cL_law 1177 = .ok (.iload_n 3, 1) := by decide +kernel
theorem dL_law_1178 : decode cL_law 1178 = .ok (.iconst 2, 1) := by decide +kernel
theorem dL_law_1179 : decode cL_law 1179 = .ok (.iadd, 1) := by decide +kernel
theorem dL_law_1180 : decode cL_law 1180 = .ok (.iaload, 1) := by decide +kernel
theorem dL_law_1181 : decode cL_law 1181 = .ok (.invokevirtual 131, 3) := by decide +kernel
theorem dL_law_1184 : decode cL_law 1184 = .ok (.aload_n 2, 1) := by decide +kernel
theorem dL_law_1185 : decode cL_law 1185 = .ok (.aload_n 0, 1) := by decide +kernel
theorem dL_law_1186 : decode cL_law 1186 = .ok (.iload_n 3, 1) := by decide +kernel
theorem dL_law_1187 : decode cL_law 1187 = .ok (.iconst 1, 1) := by decide +kernel
theorem dL_law_1188 : decode cL_law 1188 = .ok (.iadd, 1) := by decide +kernel
theorem dL_law_1189 : decode cL_law 1189 = .ok (.iaload, 1) := by decide +kernel
theorem dL_law_1190 : decode cL_law 1190 = .ok (.aload_n 0, 1) := by decide +kernel
theorem dL_law_1191 : decode cL_law 1191 = .ok (.iload_n 3, 1) := by decide +kernel
theorem dL_law_1192 : decode cL_law 1192 = .ok (.iconst 2, 1) := by decide +kernel
theorem dL_law_1193 : decode cL_law 1193 = .ok (.iadd, 1) := by decide +kernel
theorem dL_law_1194 : decode cL_law 1194 = .ok (.iaload, 1) := by decide +kernel
theorem dL_law_1195 : decode cL_law 1195 = .ok (.invokevirtual 134, 3) := by decide +kernel
theorem dL_law_1198 : decode cL_law 1198 = .ok (.if_icmp .eq 229, 3) := by decide +kernel
theorem dL_law_1201 : decode cL_law 1201 = .ok (.iconst 0, 1) := by decide +kernel
theorem dL_law_1202 : decode cL_law 1202 = .ok (.ireturn, 1) := by decide +kernel
theorem dL_law_1203 : decode cL_law 1203 = .ok (.aload_n 1, 1) := by decide +kernel
theorem dL_law_1204 : decode cL_law 1204 = .ok (.aload_n 0, 1) := by decide +kernel
theorem dL_law_1205 : decode cL_law 1205 = .ok (.iload_n 3, 1) := by decide +kernel
theorem dL_law_1206 : decode cL_law 1206 = .ok (.iconst 1, 1) := by decide +kernel
theorem dL_law_1207 : decode cL_law 1207 = .ok (.iadd, 1) := by decide +kernel
theorem dL_law_1208 : decode cL_law 1208 = .ok (.iaload, 1) := by decide +kernel
theorem dL_law_1209 : decode cL_law 1209 = .ok (.aload_n 0, 1) := by decide +kernel
theorem dL_law_1210 : decode cL_law 1210 = .ok (.iload_n 3, 1) := by decide +kernel
theorem dL_law_1211 : decode cL_law 1211 = .ok (.iconst 2, 1) := by decide +kernel
theorem dL_law_1212 : decode cL_law 1212 = .ok (.iadd, 1) := by decide +kernel
theorem dL_law_1213 : decode cL_law 1213 = .ok (.iaload, 1) := by decide +kernel
theorem dL_law_1214 : decode cL_law 1214 = .ok (.invokevirtual 135, 3) := by decide +kernel
theorem dL_law_1217 : decode cL_law 1217 = .ok (.aload_n 2, 1) := by decide +kernel
theorem dL_law_1218 : decode cL_law 1218 = .ok (.aload_n 0, 1) := by decide +kernel
theorem dL_law_1219 : decode cL_law 1219 = .ok (.iload_n 3, 1) := by decide +kernel
theorem dL_law_1220 : decode cL_law 1220 = .ok (.iconst 1, 1) := by decide +kernel
theorem dL_law_1221 : decode cL_law 1221 = .ok (.iadd, 1) := by decide +kernel
theorem dL_law_1222 : decode cL_law 1222 = .ok (.iaload, 1) := by decide +kernel
theorem dL_law_1223 : decode cL_law 1223 = .ok (.aload_n 0, 1) := by decide +kernel
theorem dL_law_1224 : decode cL_law 1224 = .ok (.iload_n 3, 1) := by decide +kernel
theorem dL_law_1225 : decode cL_law 1225 = .ok (.iconst 2, 1) := by decide +kernel
theorem dL_law_1226 : decode cL_law 1226 = .ok (.iadd, 1) := by decide +kernel
theorem dL_law_1227 : decode cL_law 1227 = .ok (.iaload, 1) := by decide +kernel
theorem dL_law_1228 : decode cL_law 1228 = .ok (.invokevirtual 138, 3) := by decide +kernel
theorem dL_law_1231 : decode cL_law 1231 = .ok (.if_icmp .eq 196, 3) := by decide +kernel
theorem dL_law_1234 : decode cL_law 1234 = .ok (.iconst 0, 1) := by decide +kernel
theorem dL_law_1235 : decode cL_law 1235 = .ok (.ireturn, 1) := by decide +kernel
theorem dL_law_1236 : decode cL_law 1236 = .ok (.aload_n 1, 1) := by decide +kernel
theorem dL_law_1237 : decode cL_law 1237 = .ok (.aload_n 0, 1) := by decide +kernel
theorem dL_law_1238 : decode cL_law 1238 = .ok (.iload_n 3, 1) := by decide +kernel
theorem dL_law_1239 : decode cL_law 1239 = .ok (.iconst 1, 1) := by decide +kernel
theorem dL_law_1240 : decode cL_law 1240 = .ok (.iadd, 1) := by decide +kernel
theorem dL_law_1241 : decode cL_law 1241 = .ok (.iaload, 1) := by decide +kernel
theorem dL_law_1242 : decode cL_law 1242 = .ok (.aload_n 0, 1) := by decide +kernel
theorem dL_law_1243 : decode cL_law 1243 = .ok (.iload_n 3, 1) := by decide +kernel
theorem dL_law_1244 : decode cL_law 1244 = .ok (.iconst 2, 1) := by decide +kernel
theorem dL_law_1245 : decode cL_law 1245 = .ok (.iadd, 1) := by decide +kernel
theorem dL_law_1246 : decode cL_law 1246 = .ok (.iaload, 1) := by decide +kernel
theorem dL_law_1247 : decode cL_law 1247 = .ok (.aload_n 0, 1) := by decide +kernel
theorem dL_law_1248 : decode cL_law 1248 = .ok (.iload_n 3, 1) := by decide +kernel
theorem dL_law_1249 : decode cL_law 1249 = .ok (.iconst 3, 1) := by decide +kernel
theorem dL_law_1250 : decode cL_law 1250 = .ok (.iadd, 1) := by decide +kernel
theorem dL_law_1251 : decode cL_law 1251 = .ok (.iaload, 1) := by decide +kernel
theorem dL_law_1252 : decode cL_law 1252 = .ok (.invokevirtual 139, 3) := by decide +kernel
theorem dL_law_1255 : decode cL_law 1255 = .ok (.aload_n 2, 1) := by decide +kernel
theorem dL_law_1256 : decode cL_law 1256 = .ok (.aload_n 0, 1) := by decide +kernel
theorem dL_law_1257 : decode cL_law 1257 = .ok (.iload_n 3, 1) := by decide +kernel
theorem dL_law_1258 : decode cL_law 1258 = .ok (.iconst 1, 1) := by decide +kernel
theorem dL_law_1259 : decode cL_law 1259 = .ok (.iadd, 1) := by decide +kernel
theorem dL_law_1260 : decode cL_law 1260 = .ok (.iaload, 1) := by decide +kernel
theorem dL_law_1261 : decode cL_law 1261 = .ok (.aload_n 0, 1) := by decide +kernel
theorem dL_law_1262 : decode cL_law 1262 = .ok (.iload_n 3, 1) := by decide +kernel
theorem dL_law_1263 : decode cL_law 1263 = .ok (.iconst 2, 1) := by decide +kernel
theorem dL_law_1264 : decode cL_law 1264 = .ok (.iadd, 1) := by decide +kernel
theorem dL_law_1265 : decode cL_law 1265 = .ok (.iaload, 1) := by decide +kernel
theorem dL_law_1266 : decode cL_law 1266 = .ok (.aload_n 0, 1) := by decide +kernel
theorem dL_law_1267 : decode cL_law 1267 = .ok (.iload_n 3, 1) := by decide +kernel
theorem dL_law_1268 : decode cL_law 1268 = .ok (.iconst 3, 1) := by decide +kernel
theorem dL_law_1269 : decode cL_law 1269 = .ok (.iadd, 1) := by decide +kernel
theorem dL_law_1270 : decode cL_law 1270 = .ok (.iaload, 1) := by decide +kernel
theorem dL_law_1271 : decode cL_law 1271 = .ok (.invokevirtual 142, 3) := by decide +kernel
theorem dL_law_1274 : decode cL_law 1274 = .ok (.if_icmp .eq 153, 3) := by decide +kernel
theorem dL_law_1277 : decode cL_law 1277 = .ok (.iconst 0, 1) := by decide +kernel
theorem dL_law_1278 : decode cL_law 1278 = .ok (.ireturn, 1) := by decide +kernel
theorem dL_law_1279 : decode cL_law 1279 = .ok (.aload_n 1, 1) := by decide +kernel
theorem dL_law_1280 : decode cL_law 1280 = .ok (.aload_n 0, 1) := by decide +kernel
theorem dL_law_1281 : decode cL_law 1281 = .ok (.iload_n 3, 1) := by decide +kernel
theorem dL_law_1282 : decode cL_law 1282 = .ok (.iconst 1, 1) := by decide +kernel
theorem dL_law_1283 : decode cL_law 1283 = .ok (.iadd, 1) := by decide +kernel
theorem dL_law_1284 : decode cL_law 1284 = .ok (.iaload, 1) := by decide +kernel
theorem dL_law_1285 : decode cL_law 1285 = .ok (.invokevirtual 143, 3) := by decide +kernel
theorem dL_law_1288 : decode cL_law 1288 = .ok (.aload_n 2, 1) := by decide +kernel
theorem dL_law_1289 : decode cL_law 1289 = .ok (.aload_n 0, 1) := by decide +kernel
theorem dL_law_1290 : decode cL_law 1290 = .ok (.iload_n 3, 1) := by decide +kernel
theorem dL_law_1291 : decode cL_law 1291 = .ok (.iconst 1, 1) := by decide +kernel
theorem dL_law_1292 : decode cL_law 1292 = .ok (.iadd, 1) := by decide +kernel
theorem dL_law_1293 : decode cL_law 1293 = .ok (.iaload, 1) := by decide +kernel
theorem dL_law_1294 : decode cL_law 1294 = .ok (.invokevirtual 146, 3) := by decide +kernel
theorem dL_law_1297 : decode cL_law 1297 = .ok (.if_icmp .eq 130, 3) := by decide +kernel
theorem dL_law_1300 : decode cL_law 1300 = .ok (.iconst 0, 1) := by decide +kernel
theorem dL_law_1301 : decode cL_law 1301 = .ok (.ireturn, 1) := by decide +kernel
theorem dL_law_1302 : decode cL_law 1302 = .ok (.aload_n 1, 1) := by decide +kernel
theorem dL_law_1303 : decode cL_law 1303 = .ok (.aload_n 0, 1) := by decide +kernel
theorem dL_law_1304 : decode cL_law 1304 = .ok (.iload_n 3, 1) := by decide +kernel
theorem dL_law_1305 : decode cL_law 1305 = .ok (.iconst 1, 1) := by decide +kernel
theorem dL_law_1306 : decode cL_law 1306 = .ok (.iadd, 1) := by decide +kernel
theorem dL_law_1307 : decode cL_law 1307 = .ok (.iaload, 1) := by decide +kernel
theorem dL_law_1308 : decode cL_law 1308 = .ok (.aload_n 0, 1) := by decide +kernel
theorem dL_law_1309 : decode cL_law 1309 = .ok (.iload_n 3, 1) := by decide +kernel
theorem dL_law_1310 : decode cL_law 1310 = .ok (.iconst 2, 1) := by decide +kernel
theorem dL_law_1311 : decode cL_law 1311 = .ok (.iadd, 1) := by decide +kernel
theorem dL_law_1312 : decode cL_law 1312 = .ok (.iaload, 1) := by decide +kernel
theorem dL_law_1313 : decode cL_law 1313 = .ok (.aload_n 0, 1) := by decide +kernel
theorem dL_law_1314 : decode cL_law 1314 = .ok (.iload_n 3, 1) := by decide +kernel
theorem dL_law_1315 : decode cL_law 1315 = .ok (.iconst 3, 1) := by decide +kernel
theorem dL_law_1316 : decode cL_law 1316 = .ok (.iadd, 1) := by decide +kernel
theorem dL_law_1317 : decode cL_law 1317 = .ok (.iaload, 1) := by decide +kernel
theorem dL_law_1318 : decode cL_law 1318 = .ok (.invokevirtual 147, 3) := by decide +kernel
theorem dL_law_1321 : decode cL_law 1321 = .ok (.aload_n 2, 1) := by decide +kernel
theorem dL_law_1322 : decode cL_law 1322 = .ok (.aload_n 0, 1) := by decide +kernel
theorem dL_law_1323 : decode cL_law 1323 = .ok (.iload_n 3, 1) := by decide +kernel
theorem dL_law_1324 : decode cL_law 1324 = .ok (.iconst 1, 1) := by decide +kernel
theorem dL_law_1325 : decode cL_law 1325 = .ok (.iadd, 1) := by decide +kernel
theorem dL_law_1326 : decode cL_law 1326 = .ok (.iaload, 1) := by decide +kernel
theorem dL_law_1327 : decode cL_law 1327 = .ok (.aload_n 0, 1) := by decide +kernel
theorem dL_law_1328 : decode cL_law 1328 = .ok (.iload_n 3, 1) := by decide +kernel
theorem dL_law_1329 : decode cL_law 1329 = .ok (.iconst 2, 1) := by decide +kernel
theorem dL_law_1330 : decode cL_law 1330 = .ok (.iadd, 1) := by decide +kernel
theorem dL_law_1331 : decode cL_law 1331 = .ok (.iaload, 1) := by decide +kernel
theorem dL_law_1332 : decode cL_law 1332 = .ok (.aload_n 0, 1) := by decide +kernel
theorem dL_law_1333 : decode cL_law 1333 = .ok (.iload_n 3, 1) := by decide +kernel
theorem dL_law_1334 : decode cL_law 1334 = .ok (.iconst 3, 1) := by decide +kernel
theorem dL_law_1335 : decode cL_law 1335 = .ok (.iadd, 1) := by decide +kernel
theorem dL_law_1336 : decode cL_law 1336 = .ok (.iaload, 1) := by decide +kernel
theorem dL_law_1337 : decode cL_law 1337 = .ok (.invokevirtual 150, 3) := by decide +kernel
theorem dL_law_1340 : decode cL_law 1340 = .ok (.if_icmp .eq 87, 3) := by decide +kernel
theorem dL_law_1343 : decode cL_law 1343 = .ok (.iconst 0, 1) := by decide +kernel
theorem dL_law_1344 : decode cL_law 1344 = .ok (.ireturn, 1) := by decide +kernel
theorem dL_law_1345 : decode cL_law 1345 = .ok (.aload_n 1, 1) := by decide +kernel
theorem dL_law_1346 : decode cL_law 1346 = .ok (.aload_n 0, 1) := by decide +kernel
theorem dL_law_1347 : decode cL_law 1347 = .ok (.iload_n 3, 1) := by decide +kernel
theorem dL_law_1348 : decode cL_law 1348 = .ok (.iconst 1, 1) := by decide +kernel
theorem dL_law_1349 : decode cL_law 1349 = .ok (.iadd, 1) := by decide +kernel
theorem dL_law_1350 : decode cL_law 1350 = .ok (.iaload, 1) := by decide +kernel
theorem dL_law_1351 : decode cL_law 1351 = .ok (.invokevirtual 151, 3) := by decide +kernel
theorem dL_law_1354 : decode cL_law 1354 = .ok (.aload_n 2, 1) := by decide +kernel
theorem dL_law_1355 : decode cL_law 1355 = .ok (.aload_n 0, 1) := by decide +kernel
theorem dL_law_1356 : decode cL_law 1356 = .ok (.iload_n 3, 1) := by decide +kernel
theorem dL_law_1357 : decode cL_law 1357 = .ok (.iconst 1, 1) := by decide +kernel
theorem dL_law_1358 : decode cL_law 1358 = .ok (.iadd, 1) := by decide +kernel
theorem dL_law_1359 : decode cL_law 1359 = .ok (.iaload, 1) := by decide +kernel
theorem dL_law_1360 : decode cL_law 1360 = .ok (.invokevirtual 154, 3) := by decide +kernel
theorem dL_law_1363 : decode cL_law 1363 = .ok (.if_icmp .eq 64, 3) := by decide +kernel
theorem dL_law_1366 : decode cL_law 1366 = .ok (.iconst 0, 1) := by decide +kernel
theorem dL_law_1367 : decode cL_law 1367 = .ok (.ireturn, 1) := by decide +kernel
theorem dL_law_1368 : decode cL_law 1368 = .ok (.aload_n 1, 1) := by decide +kernel
theorem dL_law_1369 : decode cL_law 1369 = .ok (.invokevirtual 155, 3) := by decide +kernel
theorem dL_law_1372 : decode cL_law 1372 = .ok (.aload_n 2, 1) := by decide +kernel
theorem dL_law_1373 : decode cL_law 1373 = .ok (.invokevirtual 158, 3) := by decide +kernel
theorem dL_law_1376 : decode cL_law 1376 = .ok (.if_icmp .eq 51, 3) := by decide +kernel
theorem dL_law_1379 : decode cL_law 1379 = .ok (.iconst 0, 1) := by decide +kernel
theorem dL_law_1380 : decode cL_law 1380 = .ok (.ireturn, 1) := by decide +kernel
theorem dL_law_1381 : decode cL_law 1381 = .ok (.aload_n 1, 1) := by decide +kernel
theorem dL_law_1382 : decode cL_law 1382 = .ok (.aload_n 0, 1) := by decide +kernel
theorem dL_law_1383 : decode cL_law 1383 = .ok (.iload_n 3, 1) := by decide +kernel
theorem dL_law_1384 : decode cL_law 1384 = .ok (.iconst 1, 1) := by decide +kernel
theorem dL_law_1385 : decode cL_law 1385 = .ok (.iadd, 1) := by decide +kernel
theorem dL_law_1386 : decode cL_law 1386 = .ok (.iaload, 1) := by decide +kernel
theorem dL_law_1387 : decode cL_law 1387 = .ok (.invokevirtual 159, 3) := by decide +kernel
theorem dL_law_1390 : decode cL_law 1390 = .ok (.aload_n 2, 1) := by decide +kernel
theorem dL_law_1391 : decode cL_law 1391 = .ok (.aload_n 0, 1) := by decide +kernel
theorem dL_law_1392 : decode cL_law 1392 = .ok (.iload_n 3, 1) := by decide +kernel
theorem dL_law_1393 : decode cL_law 1393 = .ok (.iconst 1, 1) := by decide +kernel
theorem dL_law_1394 : decode cL_law 1394 = .ok (.iadd, 1) := by decide +kernel
theorem dL_law_1395 : decode cL_law 1395 = .ok (.iaload, 1) := by decide +kernel
theorem dL_law_1396 : decode cL_law 1396 = .ok (.invokevirtual 162, 3) := by decide +kernel
theorem dL_law_1399 : decode cL_law 1399 = .ok (.if_icmp .eq 28, 3) := by decide +kernel
theorem dL_law_1402 : decode cL_law 1402 = .ok (.iconst 0, 1) := by decide +kernel
theorem dL_law_1403 : decode cL_law 1403 = .ok (.ireturn, 1) := by decide +kernel
theorem dL_law_1404 : decode cL_law 1404 = .ok (.aload_n 1, 1) := by decide +kernel
theorem dL_law_1405 : decode cL_law 1405 = .ok (.aload_n 0, 1) := by decide +kernel
theorem dL_law_1406 : decode cL_law 1406 = .ok (.iload_n 3, 1) := by decide +kernel
theorem dL_law_1407 : decode cL_law 1407 = .ok (.iconst 1, 1) := by decide +kernel
theorem dL_law_1408 : decode cL_law 1408 = .ok (.iadd, 1) := by decide +kernel
theorem dL_law_1409 : decode cL_law 1409 = .ok (.iaload, 1) := by decide +kernel
theorem dL_law_1410 : decode cL_law 1410 = .ok (.invokevirtual 163, 3) := by decide +kernel
theorem dL_law_1413 : decode cL_law 1413 = .ok (.aload_n 2, 1) := by decide +kernel
theorem dL_law_1414 : decode cL_law 1414 = .ok (.aload_n 0, 1) := by decide +kernel
theorem dL_law_1415 : decode cL_law 1415 = .ok (.iload_n 3, 1) := by decide +kernel
theorem dL_law_1416 : decode cL_law 1416 = .ok (.iconst 1, 1) := by decide +kernel
theorem dL_law_1417 : decode cL_law 1417 = .ok (.iadd, 1) := by decide +kernel
theorem dL_law_1418 : decode cL_law 1418 = .ok (.iaload, 1) := by decide +kernel
theorem dL_law_1419 : decode cL_law 1419 = .ok (.invokevirtual 166, 3) := by decide +kernel
theorem dL_law_1422 : decode cL_law 1422 = .ok (.if_icmp .eq 5, 3) := by decide +kernel
theorem dL_law_1425 : decode cL_law 1425 = .ok (.iconst 0, 1) := by decide +kernel
theorem dL_law_1426 : decode cL_law 1426 = .ok (.ireturn, 1) := by decide +kernel
theorem dL_law_1427 : decode cL_law 1427 = .ok (.iinc 3 6, 3) := by decide +kernel
theorem dL_law_1430 : decode cL_law 1430 = .ok (.goto (-1412), 3) := by decide +kernel
theorem dL_law_1433 : decode cL_law 1433 = .ok (.iconst 1, 1) := by decide +kernel
theorem dL_law_1434 : decode cL_law 1434 = .ok (.ireturn, 1) := by decide +kernel
