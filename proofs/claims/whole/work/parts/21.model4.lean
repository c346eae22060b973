theorem zo_181 : zo 181 = 11 := by decide +kernel
theorem zret_181 : zret 181 = none := by decide +kernel
theorem d181_0 : decode (zb 181) 0 = .ok (.aload_n 0, 1) := by decide +kernel
theorem d181_1 : decode (zb 181) 1 = .ok (.iconst 0, 1) := by decide +kernel
theorem d181_2 : decode (zb 181) 2 = .ok (.invokevirtual 205, 3) := by decide +kernel
theorem d181_5 : decode (zb 181) 5 = .ok (.iconst 0, 1) := by decide +kernel
theorem d181_6 : decode (zb 181) 6 = .ok (.istore_n 1, 1) := by decide +kernel
theorem d181_7 : decode (zb 181) 7 = .ok (.iload_n 1, 1) := by decide +kernel
theorem d181_8 : decode (zb 181) 8 = .ok (.sipush 392, 3) := by decide +kernel
theorem d181_11 : decode (zb 181) 11 = .ok (.if_icmp .ge 16, 3) := by decide +kernel
theorem d181_14 : decode (zb 181) 14 = .ok (.aload_n 0, 1) := by decide +kernel
theorem d181_15 : decode (zb 181) 15 = .ok (.getfield 44, 3) := by decide +kernel
theorem d181_18 : decode (zb 181) 18 = .ok (.iload_n 1, 1) := by decide +kernel
theorem d181_19 : decode (zb 181) 19 = .ok (.iconst 0, 1) := by decide +kernel
theorem d181_20 : decode (zb 181) 20 = .ok (.iastore, 1) := by decide +kernel
theorem d181_21 : decode (zb 181) 21 = .ok (.iinc 1 1, 3) := by decide +kernel
theorem d181_24 : decode (zb 181) 24 = .ok (.goto (-17), 3) := by decide +kernel
theorem d181_27 : decode (zb 181) 27 = .ok (.aload_n 0, 1) := by decide +kernel
theorem d181_28 : decode (zb 181) 28 = .ok (.getfield 44, 3) := by decide +kernel
theorem d181_31 : decode (zb 181) 31 = .ok (.bipush 13, 2) := by decide +kernel
theorem d181_33 : decode (zb 181) 33 = .ok (.bipush 16, 2) := by decide +kernel
theorem d181_35 : decode (zb 181) 35 = .ok (.iastore, 1) := by decide +kernel
theorem d181_36 : decode (zb 181) 36 = .ok (.aload_n 0, 1) := by decide +kernel
theorem d181_37 : decode (zb 181) 37 = .ok (.iconst 0, 1) := by decide +kernel
theorem d181_38 : decode (zb 181) 38 = .ok (.invokevirtual 209, 3) := by decide +kernel
theorem d181_41 : decode (zb 181) 41 = .ok (.return_, 1) := by decide +kernel
theorem zo_182 : zo 182 = 11 := by decide +kernel
theorem zret_182 : zret 182 = some .int := by decide +kernel
theorem d182_0 : decode (zb 182) 0 = .ok (.iload_n 1, 1) := by decide +kernel
theorem d182_1 : decode (zb 182) 1 = .ok (.i2l, 1) := by decide +kernel
theorem d182_2 : decode (zb 182) 2 = .ok (.lconst 0, 1) := by decide +kernel
theorem d182_3 : decode (zb 182) 3 = .ok (.ldc2_w 257, 3) := by decide +kernel
theorem d182_6 : decode (zb 182) 6 = .ok (.invokestatic 64, 3) := by decide +kernel
theorem d182_9 : decode (zb 182) 9 = .ok (.ifCond .ne 5, 3) := by decide +kernel
theorem d182_12 : decode (zb 182) 12 = .ok (.iconst (-1), 1) := by decide +kernel
theorem d182_13 : decode (zb 182) 13 = .ok (.ireturn, 1) := by decide +kernel
theorem d182_14 : decode (zb 182) 14 = .ok (.aload_n 0, 1) := by decide +kernel
theorem d182_15 : decode (zb 182) 15 = .ok (.invokevirtual 259, 3) := by decide +kernel
theorem d182_18 : decode (zb 182) 18 = .ok (.iconst 0, 1) := by decide +kernel
theorem d182_19 : decode (zb 182) 19 = .ok (.istore_n 2, 1) := by decide +kernel
theorem d182_20 : decode (zb 182) 20 = .ok (.iload_n 2, 1) := by decide +kernel
theorem d182_21 : decode (zb 182) 21 = .ok (.iload_n 1, 1) := by decide +kernel
theorem d182_22 : decode (zb 182) 22 = .ok (.if_icmp .ge 24, 3) := by decide +kernel
theorem d182_25 : decode (zb 182) 25 = .ok (.aload_n 0, 1) := by decide +kernel
theorem d182_26 : decode (zb 182) 26 = .ok (.getfield 44, 3) := by decide +kernel
theorem d182_29 : decode (zb 182) 29 = .ok (.iconst 0, 1) := by decide +kernel
theorem d182_30 : decode (zb 182) 30 = .ok (.iaload, 1) := by decide +kernel
theorem d182_31 : decode (zb 182) 31 = .ok (.bipush (-4), 2) := by decide +kernel
theorem d182_33 : decode (zb 182) 33 = .ok (.if_icmp .eq 13, 3) := by decide +kernel
theorem d182_36 : decode (zb 182) 36 = .ok (.aload_n 0, 1) := by decide +kernel
theorem d182_37 : decode (zb 182) 37 = .ok (.invokevirtual 236, 3) := by decide +kernel
theorem d182_40 : decode (zb 182) 40 = .ok (.iinc 2 1, 3) := by decide +kernel
theorem d182_43 : decode (zb 182) 43 = .ok (.goto (-23), 3) := by decide +kernel
theorem d182_46 : decode (zb 182) 46 = .ok (.aload_n 0, 1) := by decide +kernel
theorem d182_47 : decode (zb 182) 47 = .ok (.getfield 44, 3) := by decide +kernel
theorem d182_50 : decode (zb 182) 50 = .ok (.iconst 0, 1) := by decide +kernel
theorem d182_51 : decode (zb 182) 51 = .ok (.iaload, 1) := by decide +kernel
theorem d182_52 : decode (zb 182) 52 = .ok (.bipush (-4), 2) := by decide +kernel
theorem d182_54 : decode (zb 182) 54 = .ok (.if_icmp .ne 8, 3) := by decide +kernel
theorem d182_57 : decode (zb 182) 57 = .ok (.bipush (-4), 2) := by decide +kernel
theorem d182_59 : decode (zb 182) 59 = .ok (.goto 7, 3) := by decide +kernel
theorem d182_62 : decode (zb 182) 62 = .ok (.aload_n 0, 1) := by decide +kernel
theorem d182_63 : decode (zb 182) 63 = .ok (.invokevirtual 233, 3) := by decide +kernel
theorem d182_66 : decode (zb 182) 66 = .ok (.ireturn, 1) := by decide +kernel
theorem zo_183 : zo 183 = 11 := by decide +kernel
theorem zret_183 : zret 183 = some .int := by decide +kernel
theorem d183_0 : decode (zb 183) 0 = .ok (.aload_n 0, 1) := by decide +kernel
theorem d183_1 : decode (zb 183) 1 = .ok (.invokevirtual 262, 3) := by decide +kernel
theorem d183_4 : decode (zb 183) 4 = .ok (.ifCond .eq 6, 3) := by decide +kernel
theorem d183_7 : decode (zb 183) 7 = .ok (.bipush (-4), 2) := by decide +kernel
theorem d183_9 : decode (zb 183) 9 = .ok (.ireturn, 1) := by decide +kernel
theorem d183_10 : decode (zb 183) 10 = .ok (.iconst 0, 1) := by decide +kernel
theorem d183_11 : decode (zb 183) 11 = .ok (.istore_n 1, 1) := by decide +kernel
theorem d183_12 : decode (zb 183) 12 = .ok (.iconst 0, 1) := by decide +kernel
theorem d183_13 : decode (zb 183) 13 = .ok (.istore_n 2, 1) := by decide +kernel
theorem d183_14 : decode (zb 183) 14 = .ok (.iload_n 2, 1) := by decide +kernel
theorem d183_15 : decode (zb 183) 15 = .ok (.aload_n 0, 1) := by decide +kernel
theorem d183_16 : decode (zb 183) 16 = .ok (.getfield 7, 3) := by decide +kernel
theorem d183_19 : decode (zb 183) 19 = .ok (.iconst 1, 1) := by decide +kernel
theorem d183_20 : decode (zb 183) 20 = .ok (.iaload, 1) := by decide +kernel
theorem d183_21 : decode (zb 183) 21 = .ok (.if_icmp .ge 88, 3) := by decide +kernel
theorem d183_24 : decode (zb 183) 24 = .ok (.aload_n 0, 1) := by decide +kernel
theorem d183_25 : decode (zb 183) 25 = .ok (.iload_n 2, 1) := by decide +kernel
theorem d183_26 : decode (zb 183) 26 = .ok (.iconst 0, 1) := by decide +kernel
theorem d183_27 : decode (zb 183) 27 = .ok (.invokevirtual 192, 3) := by decide +kernel
theorem d183_30 : decode (zb 183) 30 = .ok (.ifCond .ne 16, 3) := by decide +kernel
theorem d183_33 : decode (zb 183) 33 = .ok (.aload_n 0, 1) := by decide +kernel
theorem d183_34 : decode (zb 183) 34 = .ok (.aload_n 0, 1) := by decide +kernel
theorem d183_35 : decode (zb 183) 35 = .ok (.iload_n 2, 1) := by decide +kernel
theorem d183_36 : decode (zb 183) 36 = .ok (.iconst 1, 1) := by decide +kernel
theorem d183_37 : decode (zb 183) 37 = .ok (.invokevirtual 192, 3) := by decide +kernel
theorem d183_40 : decode (zb 183) 40 = .ok (.invokevirtual 168, 3) := by decide +kernel
theorem d183_43 : decode (zb 183) 43 = .ok (.goto 4, 3) := by decide +kernel
theorem d183_46 : decode (zb 183) 46 = .ok (.iconst 0, 1) := by decide +kernel
theorem d183_47 : decode (zb 183) 47 = .ok (.istore_n 3, 1) := by decide +kernel
theorem d183_48 : decode (zb 183) 48 = .ok (.iconst 0, 1) := by decide +kernel
theorem d183_49 : decode (zb 183) 49 = .ok (.istore 4, 2) := by decide +kernel
theorem d183_51 : decode (zb 183) 51 = .ok (.iload 4, 2) := by decide +kernel
theorem d183_53 : decode (zb 183) 53 = .ok (.iload_n 2, 1) := by decide +kernel
theorem d183_54 : decode (zb 183) 54 = .ok (.if_icmp .ge 45, 3) := by decide +kernel
theorem d183_57 : decode (zb 183) 57 = .ok (.iload_n 3, 1) := by decide +kernel
theorem d183_58 : decode (zb 183) 58 = .ok (.aload_n 0, 1) := by decide +kernel
theorem d183_59 : decode (zb 183) 59 = .ok (.iload 4, 2) := by decide +kernel
theorem d183_61 : decode (zb 183) 61 = .ok (.iconst 0, 1) := by decide +kernel
theorem d183_62 : decode (zb 183) 62 = .ok (.invokevirtual 192, 3) := by decide +kernel
theorem d183_65 : decode (zb 183) 65 = .ok (.iconst 2, 1) := by decide +kernel
theorem d183_66 : decode (zb 183) 66 = .ok (.if_icmp .ne 24, 3) := by decide +kernel
theorem d183_69 : decode (zb 183) 69 = .ok (.aload_n 0, 1) := by decide +kernel
theorem d183_70 : decode (zb 183) 70 = .ok (.iload 4, 2) := by decide +kernel
theorem d183_72 : decode (zb 183) 72 = .ok (.iconst 2, 1) := by decide +kernel
theorem d183_73 : decode (zb 183) 73 = .ok (.invokevirtual 192, 3) := by decide +kernel
theorem d183_76 : decode (zb 183) 76 = .ok (.iload_n 2, 1) := by decide +kernel
theorem d183_77 : decode (zb 183) 77 = .ok (.if_icmp .le 13, 3) := by decide +kernel
theorem d183_80 : decode (zb 183) 80 = .ok (.aload_n 0, 1) := by decide +kernel
theorem d183_81 : decode (zb 183) 81 = .ok (.iload 4, 2) := by decide +kernel
theorem d183_83 : decode (zb 183) 83 = .ok (.iconst 1, 1) := by decide +kernel
theorem d183_84 : decode (zb 183) 84 = .ok (.invokevirtual 192, 3) := by decide +kernel
theorem d183_87 : decode (zb 183) 87 = .ok (.goto 4, 3) := by decide +kernel
theorem d183_90 : decode (zb 183) 90 = .ok (.iconst 1, 1) := by decide +kernel
theorem d183_91 : decode (zb 183) 91 = .ok (.imul, 1) := by decide +kernel
theorem d183_92 : decode (zb 183) 92 = .ok (.istore_n 3, 1) := by decide +kernel
theorem d183_93 : decode (zb 183) 93 = .ok (.iinc 4 1, 3) := by decide +kernel
theorem d183_96 : decode (zb 183) 96 = .ok (.goto (-45), 3) := by decide +kernel
theorem d183_99 : decode (zb 183) 99 = .ok (.iload_n 1, 1) := by decide +kernel
theorem d183_100 : decode (zb 183) 100 = .ok (.iload_n 3, 1) := by decide +kernel
theorem d183_101 : decode (zb 183) 101 = .ok (.iadd, 1) := by decide +kernel
theorem d183_102 : decode (zb 183) 102 = .ok (.istore_n 1, 1) := by decide +kernel
theorem d183_103 : decode (zb 183) 103 = .ok (.iinc 2 1, 3) := by decide +kernel
theorem d183_106 : decode (zb 183) 106 = .ok (.goto (-92), 3) := by decide +kernel
theorem d183_109 : decode (zb 183) 109 = .ok (.iload_n 1, 1) := by decide +kernel
theorem d183_110 : decode (zb 183) 110 = .ok (.ireturn, 1) := by decide +kernel
theorem zo_184 : zo 184 = 11 := by decide +kernel
theorem zret_184 : zret 184 = some .int := by decide +kernel
theorem d184_0 : decode (zb 184) 0 = .ok (.aload_n 0, 1) := by decide +kernel
theorem d184_1 : decode (zb 184) 1 = .ok (.getfield 25, 3) := by decide +kernel
theorem d184_4 : decode (zb 184) 4 = .ok (.bipush 9, 2) := by decide +kernel
theorem d184_6 : decode (zb 184) 6 = .ok (.iaload, 1) := by decide +kernel
theorem d184_7 : decode (zb 184) 7 = .ok (.aload_n 0, 1) := by decide +kernel
theorem d184_8 : decode (zb 184) 8 = .ok (.getfield 25, 3) := by decide +kernel
theorem d184_11 : decode (zb 184) 11 = .ok (.bipush 10, 2) := by decide +kernel
theorem d184_13 : decode (zb 184) 13 = .ok (.iaload, 1) := by decide +kernel
theorem d184_14 : decode (zb 184) 14 = .ok (.iadd, 1) := by decide +kernel
theorem d184_15 : decode (zb 184) 15 = .ok (.aload_n 0, 1) := by decide +kernel
theorem d184_16 : decode (zb 184) 16 = .ok (.getfield 25, 3) := by decide +kernel
theorem d184_19 : decode (zb 184) 19 = .ok (.bipush 11, 2) := by decide +kernel
theorem d184_21 : decode (zb 184) 21 = .ok (.iaload, 1) := by decide +kernel
theorem d184_22 : decode (zb 184) 22 = .ok (.iadd, 1) := by decide +kernel
theorem d184_23 : decode (zb 184) 23 = .ok (.aload_n 0, 1) := by decide +kernel
theorem d184_24 : decode (zb 184) 24 = .ok (.getfield 25, 3) := by decide +kernel
theorem d184_27 : decode (zb 184) 27 = .ok (.bipush 12, 2) := by decide +kernel
theorem d184_29 : decode (zb 184) 29 = .ok (.iaload, 1) := by decide +kernel
theorem d184_30 : decode (zb 184) 30 = .ok (.iadd, 1) := by decide +kernel
theorem d184_31 : decode (zb 184) 31 = .ok (.ireturn, 1) := by decide +kernel
theorem zo_185 : zo 185 = 11 := by decide +kernel
theorem zret_185 : zret 185 = some .int := by decide +kernel
theorem d185_0 : decode (zb 185) 0 = .ok (.iload_n 1, 1) := by decide +kernel
theorem d185_1 : decode (zb 185) 1 = .ok (.i2l, 1) := by decide +kernel
theorem d185_2 : decode (zb 185) 2 = .ok (.lconst 0, 1) := by decide +kernel
theorem d185_3 : decode (zb 185) 3 = .ok (.ldc2_w 265, 3) := by decide +kernel
theorem d185_6 : decode (zb 185) 6 = .ok (.invokestatic 64, 3) := by decide +kernel
theorem d185_9 : decode (zb 185) 9 = .ok (.ifCond .ne 5, 3) := by decide +kernel
theorem d185_12 : decode (zb 185) 12 = .ok (.iconst (-1), 1) := by decide +kernel
theorem d185_13 : decode (zb 185) 13 = .ok (.ireturn, 1) := by decide +kernel
theorem d185_14 : decode (zb 185) 14 = .ok (.iload_n 1, 1) := by decide +kernel
theorem d185_15 : decode (zb 185) 15 = .ok (.bipush 9, 2) := by decide +kernel
theorem d185_17 : decode (zb 185) 17 = .ok (.if_icmp .ne 10, 3) := by decide +kernel
theorem d185_20 : decode (zb 185) 20 = .ok (.aload_n 0, 1) := by decide +kernel
theorem d185_21 : decode (zb 185) 21 = .ok (.invokevirtual 267, 3) := by decide +kernel
theorem d185_24 : decode (zb 185) 24 = .ok (.goto 9, 3) := by decide +kernel
theorem d185_27 : decode (zb 185) 27 = .ok (.aload_n 0, 1) := by decide +kernel
theorem d185_28 : decode (zb 185) 28 = .ok (.getfield 25, 3) := by decide +kernel
theorem d185_31 : decode (zb 185) 31 = .ok (.iload_n 1, 1) := by decide +kernel
theorem d185_32 : decode (zb 185) 32 = .ok (.iaload, 1) := by decide +kernel
theorem d185_33 : decode (zb 185) 33 = .ok (.ireturn, 1) := by decide +kernel
theorem zo_186 : zo 186 = 11 := by decide +kernel
theorem zret_186 : zret 186 = some .int := by decide +kernel
theorem d186_0 : decode (zb 186) 0 = .ok (.aload_n 0, 1) := by decide +kernel
theorem d186_1 : decode (zb 186) 1 = .ok (.iload_n 1, 1) := by decide +kernel
theorem d186_2 : decode (zb 186) 2 = .ok (.invokevirtual 187, 3) := by decide +kernel
theorem d186_5 : decode (zb 186) 5 = .ok (.ifCond .eq 25, 3) := by decide +kernel
theorem d186_8 : decode (zb 186) 8 = .ok (.aload_n 0, 1) := by decide +kernel
theorem d186_9 : decode (zb 186) 9 = .ok (.iload_n 1, 1) := by decide +kernel
theorem d186_10 : decode (zb 186) 10 = .ok (.iconst 0, 1) := by decide +kernel
theorem d186_11 : decode (zb 186) 11 = .ok (.invokevirtual 192, 3) := by decide +kernel
theorem d186_14 : decode (zb 186) 14 = .ok (.iconst 2, 1) := by decide +kernel
theorem d186_15 : decode (zb 186) 15 = .ok (.if_icmp .ne 15, 3) := by decide +kernel
theorem d186_18 : decode (zb 186) 18 = .ok (.aload_n 0, 1) := by decide +kernel
theorem d186_19 : decode (zb 186) 19 = .ok (.getfield 25, 3) := by decide +kernel
theorem d186_22 : decode (zb 186) 22 = .ok (.bipush 18, 2) := by decide +kernel
theorem d186_24 : decode (zb 186) 24 = .ok (.iload_n 1, 1) := by decide +kernel
theorem d186_25 : decode (zb 186) 25 = .ok (.iadd, 1) := by decide +kernel
theorem d186_26 : decode (zb 186) 26 = .ok (.iaload, 1) := by decide +kernel
theorem d186_27 : decode (zb 186) 27 = .ok (.goto 4, 3) := by decide +kernel
theorem d186_30 : decode (zb 186) 30 = .ok (.iconst (-1), 1) := by decide +kernel
theorem d186_31 : decode (zb 186) 31 = .ok (.ireturn, 1) := by decide +kernel
theorem zo_187 : zo 187 = 11 := by decide +kernel
theorem zret_187 : zret 187 = some .int := by decide +kernel
theorem d187_0 : decode (zb 187) 0 = .ok (.iload_n 1, 1) := by decide +kernel
theorem d187_1 : decode (zb 187) 1 = .ok (.i2l, 1) := by decide +kernel
theorem d187_2 : decode (zb 187) 2 = .ok (.lconst 1, 1) := by decide +kernel
theorem d187_3 : decode (zb 187) 3 = .ok (.ldc2_w 270, 3) := by decide +kernel
theorem d187_6 : decode (zb 187) 6 = .ok (.invokestatic 64, 3) := by decide +kernel
theorem d187_9 : decode (zb 187) 9 = .ok (.ifCond .ne 5, 3) := by decide +kernel
theorem d187_12 : decode (zb 187) 12 = .ok (.iconst (-1), 1) := by decide +kernel
theorem d187_13 : decode (zb 187) 13 = .ok (.ireturn, 1) := by decide +kernel
theorem d187_14 : decode (zb 187) 14 = .ok (.iconst 0, 1) := by decide +kernel
theorem d187_15 : decode (zb 187) 15 = .ok (.istore_n 2, 1) := by decide +kernel
theorem d187_16 : decode (zb 187) 16 = .ok (.iload_n 2, 1) := by decide +kernel
theorem d187_17 : decode (zb 187) 17 = .ok (.iload_n 1, 1) := by decide +kernel
theorem d187_18 : decode (zb 187) 18 = .ok (.if_icmp .ge 13, 3) := by decide +kernel
theorem d187_21 : decode (zb 187) 21 = .ok (.aload_n 0, 1) := by decide +kernel
theorem d187_22 : decode (zb 187) 22 = .ok (.invokevirtual 272, 3) := by decide +kernel
theorem d187_25 : decode (zb 187) 25 = .ok (.iinc 2 1, 3) := by decide +kernel
theorem d187_28 : decode (zb 187) 28 = .ok (.goto (-12), 3) := by decide +kernel
theorem d187_31 : decode (zb 187) 31 = .ok (.aload_n 0, 1) := by decide +kernel
theorem d187_32 : decode (zb 187) 32 = .ok (.getfield 25, 3) := by decide +kernel
theorem d187_35 : decode (zb 187) 35 = .ok (.iconst 3, 1) := by decide +kernel
theorem d187_36 : decode (zb 187) 36 = .ok (.iaload, 1) := by decide +kernel
theorem d187_37 : decode (zb 187) 37 = .ok (.ireturn, 1) := by decide +kernel
theorem zo_188 : zo 188 = 11 := by decide +kernel
theorem zret_188 : zret 188 = some .int := by decide +kernel
theorem d188_0 : decode (zb 188) 0 = .ok (.iload_n 1, 1) := by decide +kernel
theorem d188_1 : decode (zb 188) 1 = .ok (.ifCond .ge 5, 3) := by decide +kernel
theorem d188_4 : decode (zb 188) 4 = .ok (.iconst (-1), 1) := by decide +kernel
theorem d188_5 : decode (zb 188) 5 = .ok (.ireturn, 1) := by decide +kernel
theorem d188_6 : decode (zb 188) 6 = .ok (.iload_n 1, 1) := by decide +kernel
theorem d188_7 : decode (zb 188) 7 = .ok (.aload_n 0, 1) := by decide +kernel
theorem d188_8 : decode (zb 188) 8 = .ok (.getfield 25, 3) := by decide +kernel
theorem d188_11 : decode (zb 188) 11 = .ok (.iconst 4, 1) := by decide +kernel
theorem d188_12 : decode (zb 188) 12 = .ok (.iaload, 1) := by decide +kernel
theorem d188_13 : decode (zb 188) 13 = .ok (.if_icmp .ge 22, 3) := by decide +kernel
theorem d188_16 : decode (zb 188) 16 = .ok (.iload_n 1, 1) := by decide +kernel
theorem d188_17 : decode (zb 188) 17 = .ok (.sipush 200, 3) := by decide +kernel
theorem d188_20 : decode (zb 188) 20 = .ok (.if_icmp .ge 15, 3) := by decide +kernel
theorem d188_23 : decode (zb 188) 23 = .ok (.aload_n 0, 1) := by decide +kernel
theorem d188_24 : decode (zb 188) 24 = .ok (.getfield 25, 3) := by decide +kernel
theorem d188_27 : decode (zb 188) 27 = .ok (.bipush 112, 2) := by decide +kernel
theorem d188_29 : decode (zb 188) 29 = .ok (.iload_n 1, 1) := by decide +kernel
theorem d188_30 : decode (zb 188) 30 = .ok (.iadd, 1) := by decide +kernel
theorem d188_31 : decode (zb 188) 31 = .ok (.iaload, 1) := by decide +kernel
theorem d188_32 : decode (zb 188) 32 = .ok (.goto 5, 3) := by decide +kernel
theorem d188_35 : decode (zb 188) 35 = .ok (.bipush (-4), 2) := by decide +kernel
theorem d188_37 : decode (zb 188) 37 = .ok (.ireturn, 1) := by decide +kernel
theorem zo_189 : zo 189 = 11 := by decide +kernel
theorem zret_189 : zret 189 = some .int := by decide +kernel
theorem d189_0 : decode (zb 189) 0 = .ok (.iload_n 1, 1) := by decide +kernel
theorem d189_1 : decode (zb 189) 1 = .ok (.ifCond .lt 13, 3) := by decide +kernel
theorem d189_4 : decode (zb 189) 4 = .ok (.iload_n 2, 1) := by decide +kernel
theorem d189_5 : decode (zb 189) 5 = .ok (.i2l, 1) := by decide +kernel
theorem d189_6 : decode (zb 189) 6 = .ok (.lconst 0, 1) := by decide +kernel
theorem d189_7 : decode (zb 189) 7 = .ok (.lconst 1, 1) := by decide +kernel
theorem d189_8 : decode (zb 189) 8 = .ok (.invokestatic 64, 3) := by decide +kernel
theorem d189_11 : decode (zb 189) 11 = .ok (.ifCond .ne 5, 3) := by decide +kernel
theorem d189_14 : decode (zb 189) 14 = .ok (.iconst (-1), 1) := by decide +kernel
theorem d189_15 : decode (zb 189) 15 = .ok (.ireturn, 1) := by decide +kernel
theorem d189_16 : decode (zb 189) 16 = .ok (.iload_n 1, 1) := by decide +kernel
theorem d189_17 : decode (zb 189) 17 = .ok (.aload_n 0, 1) := by decide +kernel
theorem d189_18 : decode (zb 189) 18 = .ok (.getfield 25, 3) := by decide +kernel
theorem d189_21 : decode (zb 189) 21 = .ok (.bipush 6, 2) := by decide +kernel
theorem d189_23 : decode (zb 189) 23 = .ok (.iaload, 1) := by decide +kernel
theorem d189_24 : decode (zb 189) 24 = .ok (.if_icmp .ge 26, 3) := by decide +kernel
theorem d189_27 : decode (zb 189) 27 = .ok (.iload_n 1, 1) := by decide +kernel
theorem d189_28 : decode (zb 189) 28 = .ok (.bipush 40, 2) := by decide +kernel
theorem d189_30 : decode (zb 189) 30 = .ok (.if_icmp .ge 20, 3) := by decide +kernel
theorem d189_33 : decode (zb 189) 33 = .ok (.aload_n 0, 1) := by decide +kernel
theorem d189_34 : decode (zb 189) 34 = .ok (.getfield 25, 3) := by decide +kernel
theorem d189_37 : decode (zb 189) 37 = .ok (.sipush 312, 3) := by decide +kernel
theorem d189_40 : decode (zb 189) 40 = .ok (.iconst 2, 1) := by decide +kernel
theorem d189_41 : decode (zb 189) 41 = .ok (.iload_n 1, 1) := by decide +kernel
theorem d189_42 : decode (zb 189) 42 = .ok (.imul, 1) := by decide +kernel
theorem d189_43 : decode (zb 189) 43 = .ok (.iadd, 1) := by decide +kernel
theorem d189_44 : decode (zb 189) 44 = .ok (.iload_n 2, 1) := by decide +kernel
theorem d189_45 : decode (zb 189) 45 = .ok (.iadd, 1) := by decide +kernel
theorem d189_46 : decode (zb 189) 46 = .ok (.iaload, 1) := by decide +kernel
theorem d189_47 : decode (zb 189) 47 = .ok (.goto 5, 3) := by decide +kernel
theorem d189_50 : decode (zb 189) 50 = .ok (.bipush (-4), 2) := by decide +kernel
theorem d189_52 : decode (zb 189) 52 = .ok (.ireturn, 1) := by decide +kernel
theorem zo_190 : zo 190 = 11 := by decide +kernel
theorem zret_190 : zret 190 = some .int := by decide +kernel
theorem d190_0 : decode (zb 190) 0 = .ok (.iload_n 1, 1) := by decide +kernel
theorem d190_1 : decode (zb 190) 1 = .ok (.ifCond .lt 15, 3) := by decide +kernel
theorem d190_4 : decode (zb 190) 4 = .ok (.iload_n 2, 1) := by decide +kernel
theorem d190_5 : decode (zb 190) 5 = .ok (.i2l, 1) := by decide +kernel
theorem d190_6 : decode (zb 190) 6 = .ok (.lconst 0, 1) := by decide +kernel
theorem d190_7 : decode (zb 190) 7 = .ok (.ldc2_w 275, 3) := by decide +kernel
theorem d190_10 : decode (zb 190) 10 = .ok (.invokestatic 64, 3) := by decide +kernel
theorem d190_13 : decode (zb 190) 13 = .ok (.ifCond .ne 5, 3) := by decide +kernel
theorem d190_16 : decode (zb 190) 16 = .ok (.iconst (-1), 1) := by decide +kernel
theorem d190_17 : decode (zb 190) 17 = .ok (.ireturn, 1) := by decide +kernel
theorem d190_18 : decode (zb 190) 18 = .ok (.iload_n 1, 1) := by decide +kernel
theorem d190_19 : decode (zb 190) 19 = .ok (.iload_n 2, 1) := by decide +kernel
theorem d190_20 : decode (zb 190) 20 = .ok (.ifCond .ne 13, 3) := by decide +kernel
theorem d190_23 : decode (zb 190) 23 = .ok (.aload_n 0, 1) := by decide +kernel
theorem d190_24 : decode (zb 190) 24 = .ok (.getfield 25, 3) := by decide +kernel
theorem d190_27 : decode (zb 190) 27 = .ok (.bipush 7, 2) := by decide +kernel
theorem d190_29 : decode (zb 190) 29 = .ok (.iaload, 1) := by decide +kernel
theorem d190_30 : decode (zb 190) 30 = .ok (.goto 10, 3) := by decide +kernel
theorem d190_33 : decode (zb 190) 33 = .ok (.aload_n 0, 1) := by decide +kernel
theorem d190_34 : decode (zb 190) 34 = .ok (.getfield 25, 3) := by decide +kernel
theorem d190_37 : decode (zb 190) 37 = .ok (.bipush 8, 2) := by decide +kernel
theorem d190_39 : decode (zb 190) 39 = .ok (.iaload, 1) := by decide +kernel
theorem d190_40 : decode (zb 190) 40 = .ok (.if_icmp .lt 6, 3) := by decide +kernel
theorem d190_43 : decode (zb 190) 43 = .ok (.bipush (-4), 2) := by decide +kernel
theorem d190_45 : decode (zb 190) 45 = .ok (.ireturn, 1) := by decide +kernel
theorem d190_46 : decode (zb 190) 46 = .ok (.aload_n 0, 1) := by decide +kernel
theorem d190_47 : decode (zb 190) 47 = .ok (.getfield 25, 3) := by decide +kernel
theorem d190_50 : decode (zb 190) 50 = .ok (.iload_n 2, 1) := by decide +kernel
theorem d190_51 : decode (zb 190) 51 = .ok (.ifCond .ne 8, 3) := by decide +kernel
theorem d190_54 : decode (zb 190) 54 = .ok (.bipush 42, 2) := by decide +kernel
theorem d190_56 : decode (zb 190) 56 = .ok (.goto 15, 3) := by decide +kernel
theorem d190_59 : decode (zb 190) 59 = .ok (.iload_n 2, 1) := by decide +kernel
theorem d190_60 : decode (zb 190) 60 = .ok (.iconst 1, 1) := by decide +kernel
theorem d190_61 : decode (zb 190) 61 = .ok (.if_icmp .ne 8, 3) := by decide +kernel
theorem d190_64 : decode (zb 190) 64 = .ok (.bipush 48, 2) := by decide +kernel
theorem d190_66 : decode (zb 190) 66 = .ok (.goto 5, 3) := by decide +kernel
theorem d190_69 : decode (zb 190) 69 = .ok (.bipush 80, 2) := by decide +kernel
theorem d190_71 : decode (zb 190) 71 = .ok (.iload_n 1, 1) := by decide +kernel
theorem d190_72 : decode (zb 190) 72 = .ok (.iadd, 1) := by decide +kernel
theorem d190_73 : decode (zb 190) 73 = .ok (.iaload, 1) := by decide +kernel
theorem d190_74 : decode (zb 190) 74 = .ok (.ireturn, 1) := by decide +kernel
theorem zo_191 : zo 191 = 11 := by decide +kernel
theorem zret_191 : zret 191 = some .int := by decide +kernel
theorem d191_0 : decode (zb 191) 0 = .ok (.iload_n 1, 1) := by decide +kernel
theorem d191_1 : decode (zb 191) 1 = .ok (.i2l, 1) := by decide +kernel
theorem d191_2 : decode (zb 191) 2 = .ok (.lconst 0, 1) := by decide +kernel
theorem d191_3 : decode (zb 191) 3 = .ok (.ldc2_w 190, 3) := by decide +kernel
theorem d191_6 : decode (zb 191) 6 = .ok (.invokestatic 64, 3) := by decide +kernel
theorem d191_9 : decode (zb 191) 9 = .ok (.ifCond .ne 5, 3) := by decide +kernel
theorem d191_12 : decode (zb 191) 12 = .ok (.iconst (-1), 1) := by decide +kernel
theorem d191_13 : decode (zb 191) 13 = .ok (.ireturn, 1) := by decide +kernel
theorem d191_14 : decode (zb 191) 14 = .ok (.aload_n 0, 1) := by decide +kernel
theorem d191_15 : decode (zb 191) 15 = .ok (.getfield 25, 3) := by decide +kernel
theorem d191_18 : decode (zb 191) 18 = .ok (.bipush 9, 2) := by decide +kernel
theorem d191_20 : decode (zb 191) 20 = .ok (.iload_n 1, 1) := by decide +kernel
theorem d191_21 : decode (zb 191) 21 = .ok (.iadd, 1) := by decide +kernel
theorem d191_22 : decode (zb 191) 22 = .ok (.iaload, 1) := by decide +kernel
theorem d191_23 : decode (zb 191) 23 = .ok (.istore_n 2, 1) := by decide +kernel
theorem d191_24 : decode (zb 191) 24 = .ok (.aload_n 0, 1) := by decide +kernel
theorem d191_25 : decode (zb 191) 25 = .ok (.getfield 25, 3) := by decide +kernel
theorem d191_28 : decode (zb 191) 28 = .ok (.bipush 9, 2) := by decide +kernel
theorem d191_30 : decode (zb 191) 30 = .ok (.iload_n 1, 1) := by decide +kernel
theorem d191_31 : decode (zb 191) 31 = .ok (.iadd, 1) := by decide +kernel
theorem d191_32 : decode (zb 191) 32 = .ok (.iconst 1, 1) := by decide +kernel
theorem d191_33 : decode (zb 191) 33 = .ok (.iastore, 1) := by decide +kernel
theorem d191_34 : decode (zb 191) 34 = .ok (.iload_n 2, 1) := by decide +kernel
theorem d191_35 : decode (zb 191) 35 = .ok (.ireturn, 1) := by decide +kernel
theorem zo_192 : zo 192 = 11 := by decide +kernel
theorem zret_192 : zret 192 = some .int := by decide +kernel
theorem d192_0 : decode (zb 192) 0 = .ok (.iload_n 0, 1) := by decide +kernel
theorem d192_1 : decode (zb 192) 1 = .ok (.bipush 6, 2) := by decide +kernel
theorem d192_3 : decode (zb 192) 3 = .ok (.if_icmp .eq 9, 3) := by decide +kernel
theorem d192_6 : decode (zb 192) 6 = .ok (.iload_n 0, 1) := by decide +kernel
theorem d192_7 : decode (zb 192) 7 = .ok (.bipush 8, 2) := by decide +kernel
theorem d192_9 : decode (zb 192) 9 = .ok (.if_icmp .ne 7, 3) := by decide +kernel
theorem d192_12 : decode (zb 192) 12 = .ok (.iconst 1, 1) := by decide +kernel
theorem d192_13 : decode (zb 192) 13 = .ok (.goto 4, 3) := by decide +kernel
theorem d192_16 : decode (zb 192) 16 = .ok (.iconst 0, 1) := by decide +kernel
theorem d192_17 : decode (zb 192) 17 = .ok (.ireturn, 1) := by decide +kernel
theorem zo_193 : zo 193 = 11 := by decide +kernel
theorem zret_193 : zret 193 = some .int := by decide +kernel
theorem d193_0 : decode (zb 193) 0 = .ok (.iload_n 0, 1) := by decide +kernel
theorem d193_1 : decode (zb 193) 1 = .ok (.bipush 6, 2) := by decide +kernel
theorem d193_3 : decode (zb 193) 3 = .ok (.if_icmp .ne 8, 3) := by decide +kernel
theorem d193_6 : decode (zb 193) 6 = .ok (.bipush 64, 2) := by decide +kernel
theorem d193_8 : decode (zb 193) 8 = .ok (.goto 37, 3) := by decide +kernel
theorem d193_11 : decode (zb 193) 11 = .ok (.iload_n 0, 1) := by decide +kernel
theorem d193_12 : decode (zb 193) 12 = .ok (.bipush 7, 2) := by decide +kernel
theorem d193_14 : decode (zb 193) 14 = .ok (.if_icmp .ne 7, 3) := by decide +kernel
theorem d193_17 : decode (zb 193) 17 = .ok (.iconst 2, 1) := by decide +kernel
theorem d193_18 : decode (zb 193) 18 = .ok (.goto 27, 3) := by decide +kernel
theorem d193_21 : decode (zb 193) 21 = .ok (.iload_n 0, 1) := by decide +kernel
theorem d193_22 : decode (zb 193) 22 = .ok (.bipush 8, 2) := by decide +kernel
theorem d193_24 : decode (zb 193) 24 = .ok (.if_icmp .ne 8, 3) := by decide +kernel
theorem d193_27 : decode (zb 193) 27 = .ok (.bipush 6, 2) := by decide +kernel
theorem d193_29 : decode (zb 193) 29 = .ok (.goto 16, 3) := by decide +kernel
theorem d193_32 : decode (zb 193) 32 = .ok (.iload_n 0, 1) := by decide +kernel
theorem d193_33 : decode (zb 193) 33 = .ok (.bipush 9, 2) := by decide +kernel
theorem d193_35 : decode (zb 193) 35 = .ok (.if_icmp .ne 8, 3) := by decide +kernel
theorem d193_38 : decode (zb 193) 38 = .ok (.bipush 9, 2) := by decide +kernel
theorem d193_40 : decode (zb 193) 40 = .ok (.goto 5, 3) := by decide +kernel
theorem d193_43 : decode (zb 193) 43 = .ok (.bipush 16, 2) := by decide +kernel
theorem d193_45 : decode (zb 193) 45 = .ok (.ireturn, 1) := by decide +kernel
theorem zo_194 : zo 194 = 11 := by decide +kernel
theorem zret_194 : zret 194 = some .int := by decide +kernel
theorem d194_0 : decode (zb 194) 0 = .ok (.iload_n 1, 1) := by decide +kernel
theorem d194_1 : decode (zb 194) 1 = .ok (.i2l, 1) := by decide +kernel
theorem d194_2 : decode (zb 194) 2 = .ok (.ldc2_w 277, 3) := by decide +kernel
theorem d194_5 : decode (zb 194) 5 = .ok (.ldc2_w 279, 3) := by decide +kernel
theorem d194_8 : decode (zb 194) 8 = .ok (.invokestatic 64, 3) := by decide +kernel
theorem d194_11 : decode (zb 194) 11 = .ok (.ifCond .eq 21, 3) := by decide +kernel
theorem d194_14 : decode (zb 194) 14 = .ok (.iload_n 2, 1) := by decide +kernel
theorem d194_15 : decode (zb 194) 15 = .ok (.i2l, 1) := by decide +kernel
theorem d194_16 : decode (zb 194) 16 = .ok (.iload_n 1, 1) := by decide +kernel
theorem d194_17 : decode (zb 194) 17 = .ok (.invokestatic 281, 3) := by decide +kernel
theorem d194_20 : decode (zb 194) 20 = .ok (.i2l, 1) := by decide +kernel
theorem d194_21 : decode (zb 194) 21 = .ok (.iload_n 1, 1) := by decide +kernel
theorem d194_22 : decode (zb 194) 22 = .ok (.invokestatic 284, 3) := by decide +kernel
theorem d194_25 : decode (zb 194) 25 = .ok (.i2l, 1) := by decide +kernel
theorem d194_26 : decode (zb 194) 26 = .ok (.invokestatic 64, 3) := by decide +kernel
theorem d194_29 : decode (zb 194) 29 = .ok (.ifCond .ne 5, 3) := by decide +kernel
theorem d194_32 : decode (zb 194) 32 = .ok (.iconst (-1), 1) := by decide +kernel
theorem d194_33 : decode (zb 194) 33 = .ok (.ireturn, 1) := by decide +kernel
theorem d194_34 : decode (zb 194) 34 = .ok (.aload_n 0, 1) := by decide +kernel
theorem d194_35 : decode (zb 194) 35 = .ok (.getfield 25, 3) := by decide +kernel
theorem d194_38 : decode (zb 194) 38 = .ok (.bipush 13, 2) := by decide +kernel
theorem d194_40 : decode (zb 194) 40 = .ok (.iload_n 1, 1) := by decide +kernel
theorem d194_41 : decode (zb 194) 41 = .ok (.iadd, 1) := by decide +kernel
theorem d194_42 : decode (zb 194) 42 = .ok (.bipush 6, 2) := by decide +kernel
theorem d194_44 : decode (zb 194) 44 = .ok (.isub, 1) := by decide +kernel
theorem d194_45 : decode (zb 194) 45 = .ok (.iaload, 1) := by decide +kernel
theorem d194_46 : decode (zb 194) 46 = .ok (.istore_n 3, 1) := by decide +kernel
theorem d194_47 : decode (zb 194) 47 = .ok (.aload_n 0, 1) := by decide +kernel
theorem d194_48 : decode (zb 194) 48 = .ok (.iconst 1, 1) := by decide +kernel
theorem d194_49 : decode (zb 194) 49 = .ok (.invokevirtual 205, 3) := by decide +kernel
theorem d194_52 : decode (zb 194) 52 = .ok (.aload_n 0, 1) := by decide +kernel
theorem d194_53 : decode (zb 194) 53 = .ok (.getfield 44, 3) := by decide +kernel
theorem d194_56 : decode (zb 194) 56 = .ok (.bipush 13, 2) := by decide +kernel
theorem d194_58 : decode (zb 194) 58 = .ok (.iload_n 1, 1) := by decide +kernel
theorem d194_59 : decode (zb 194) 59 = .ok (.iadd, 1) := by decide +kernel
theorem d194_60 : decode (zb 194) 60 = .ok (.bipush 6, 2) := by decide +kernel
theorem d194_62 : decode (zb 194) 62 = .ok (.isub, 1) := by decide +kernel
theorem d194_63 : decode (zb 194) 63 = .ok (.iload_n 2, 1) := by decide +kernel
theorem d194_64 : decode (zb 194) 64 = .ok (.iastore, 1) := by decide +kernel
theorem d194_65 : decode (zb 194) 65 = .ok (.aload_n 0, 1) := by decide +kernel
theorem d194_66 : decode (zb 194) 66 = .ok (.getfield 44, 3) := by decide +kernel
theorem d194_69 : decode (zb 194) 69 = .ok (.bipush 7, 2) := by decide +kernel
theorem d194_71 : decode (zb 194) 71 = .ok (.iaload, 1) := by decide +kernel
theorem d194_72 : decode (zb 194) 72 = .ok (.aload_n 0, 1) := by decide +kernel
theorem d194_73 : decode (zb 194) 73 = .ok (.getfield 44, 3) := by decide +kernel
theorem d194_76 : decode (zb 194) 76 = .ok (.bipush 15, 2) := by decide +kernel
theorem d194_78 : decode (zb 194) 78 = .ok (.iaload, 1) := by decide +kernel
theorem d194_79 : decode (zb 194) 79 = .ok (.if_icmp .le 11, 3) := by decide +kernel
theorem d194_82 : decode (zb 194) 82 = .ok (.aload_n 0, 1) := by decide +kernel
theorem d194_83 : decode (zb 194) 83 = .ok (.iconst 0, 1) := by decide +kernel
theorem d194_84 : decode (zb 194) 84 = .ok (.invokevirtual 218, 3) := by decide +kernel
theorem d194_87 : decode (zb 194) 87 = .ok (.goto (-22), 3) := by decide +kernel
theorem d194_90 : decode (zb 194) 90 = .ok (.aload_n 0, 1) := by decide +kernel
theorem d194_91 : decode (zb 194) 91 = .ok (.invokevirtual 212, 3) := by decide +kernel
theorem d194_94 : decode (zb 194) 94 = .ok (.iload_n 3, 1) := by decide +kernel
theorem d194_95 : decode (zb 194) 95 = .ok (.ireturn, 1) := by decide +kernel
theorem run181 {h : zH} : zrun 181 [vR 87] h = zX 181 0 [vR 87, none] [] h := rfl
theorem e181_0 {I : Nat → Int → Int} {b : Bool} {S : Nat} : zX 181 0 [vR 87, none] [] (I, zRs b, 103, S) = (zrun 160 [vR 87, vI 0] (I, zRs b, 103, S)).bind (fun q => zX 181 5 [vR 87, none] (zpush q.1 []) q.2) := (xAload_n d181_0 rfl).trans ((xIconst d181_1).trans (xInvV [vR 87, vI 0] [] d181_2 zo_181 zml_11_205 rfl rfl rfl (Or.inl ⟨rfl, (Nat.le_of_ble_eq_true rfl)⟩)))
theorem e181_5 {I : Nat → Int → Int} {b : Bool} {S : Nat} : zX 181 5 [vR 87, none] [] (I, zRs b, 103, S) = zX 181 7 [vR 87, vI 0] [] (I, zRs b, 103, S) := (xIconst d181_5).trans (xIstore_n d181_6 rfl rfl)
theorem e181_7 {I : Nat → Int → Int} {b : Bool} {S : Nat} {a1 : Int} : zX 181 7 [vR 87, vI a1] [] (I, zRs b, 103, S) = if 392 ≤ a1 then (zrun 164 [vR 87, vI 0] ((sI I 99 13 16), zRs b, 103, S)).bind (fun q => zX 181 41 [vR 87, vI a1] (zpush q.1 []) q.2) else if 0 ≤ a1 ∧ a1 < 392 then zX 181 7 [vR 87, vI (wr (a1 + 1))] [] ((sI I 99 a1 0), zRs b, 103, S) else none := (xIload_n d181_7 rfl).trans ((xSipush d181_8).trans ((xIcmpGe (t := 27) d181_11 rfl).trans (ziteC ((xAload_n d181_27 rfl).trans ((xGetR 20 99 d181_28 zo_181 zfl_11_44 rfl rfl rfl (Or.inl (Nat.le_of_ble_eq_true rfl))).trans ((xBipush d181_31).trans ((xBipush d181_33).trans ((xIast (N := 392) d181_35 rfl (Nat.le_of_ble_eq_true rfl) rfl).trans ((if_pos (by decide)).trans ((xAload_n d181_36 rfl).trans ((xIconst d181_37).trans (xInvV [vR 87, vI 0] [] d181_38 zo_181 zml_11_209 rfl rfl rfl (Or.inl ⟨rfl, (Nat.le_of_ble_eq_true rfl)⟩)))))))))) ((xAload_n d181_14 rfl).trans ((xGetR 20 99 d181_15 zo_181 zfl_11_44 rfl rfl rfl (Or.inl (Nat.le_of_ble_eq_true rfl))).trans ((xIload_n d181_18 rfl).trans ((xIconst d181_19).trans ((xIast (N := 392) d181_20 rfl (Nat.le_of_ble_eq_true rfl) rfl).trans (ziteC ((xIinc d181_21 rfl rfl rfl).trans (xGoto (t := 7) d181_24 rfl)) rfl)))))))))
theorem e181_41 {I : Nat → Int → Int} {b : Bool} {S : Nat} {a1 : Int} : zX 181 41 [vR 87, vI a1] [] (I, zRs b, 103, S) = some (none, (I, zRs b, 103, S)) := xVret d181_41 zret_181
theorem run182 {h : zH} {x0 : Int} : zrun 182 [vR 87, vI x0] h = zX 182 0 [vR 87, vI x0, none] [] h := rfl
theorem e182_0 {I : Nat → Int → Int} {b : Bool} {S : Nat} {x0 : Int} : zX 182 0 [vR 87, vI x0, none] [] (I, zRs b, 103, S) = (zrun 125 [vL x0, vL 0, vL 9999] (I, zRs b, 103, S)).bind (fun q => zX 182 9 [vR 87, vI x0, none] (zpush q.1 []) q.2) := (xIload_n d182_0 rfl).trans ((xI2l d182_1).trans ((xLconst d182_2).trans ((xLdc2 d182_3 zo_182 zcl_11_257 (by decide)).trans (xInvS [vL x0, vL 0, vL 9999] [] d182_6 zo_182 zml_11_64 rfl rfl))))
theorem e182_9 {I : Nat → Int → Int} {b : Bool} {S : Nat} {a1 t0 : Int} : zX 182 9 [vR 87, vI a1, none] [vI t0] (I, zRs b, 103, S) = if t0 = 0 then some (some (vI (-1)), (I, zRs b, 103, S)) else (zrun 181 [vR 87] (I, zRs b, 103, S)).bind (fun q => zX 182 18 [vR 87, vI a1, none] (zpush q.1 []) q.2) := (xIfNe (t := 14) d182_9 rfl).trans (ziteC ((xIconst d182_12).trans (xIret d182_13 zret_182)) ((xAload_n d182_14 rfl).trans (xInvV [vR 87] [] d182_15 zo_182 zml_11_259 rfl rfl rfl (Or.inl ⟨rfl, (Nat.le_of_ble_eq_true rfl)⟩))))
theorem e182_18 {I : Nat → Int → Int} {b : Bool} {S : Nat} {a1 : Int} : zX 182 18 [vR 87, vI a1, none] [] (I, zRs b, 103, S) = zX 182 20 [vR 87, vI a1, vI 0] [] (I, zRs b, 103, S) := (xIconst d182_18).trans (xIstore_n d182_19 rfl rfl)
theorem e182_20 {I : Nat → Int → Int} {b : Bool} {S : Nat} {a1 a2 : Int} : zX 182 20 [vR 87, vI a1, vI a2] [] (I, zRs b, 103, S) = if a1 ≤ a2 then if (I 99 0) = (-4) then zX 182 66 [vR 87, vI a1, vI a2] [vI (-4)] (I, zRs b, 103, S) else (zrun 169 [vR 87] (I, zRs b, 103, S)).bind (fun q => zX 182 66 [vR 87, vI a1, vI a2] (zpush q.1 []) q.2) else if (I 99 0) = (-4) then if (I 99 0) = (-4) then zX 182 66 [vR 87, vI a1, vI a2] [vI (-4)] (I, zRs b, 103, S) else (zrun 169 [vR 87] (I, zRs b, 103, S)).bind (fun q => zX 182 66 [vR 87, vI a1, vI a2] (zpush q.1 []) q.2) else (zrun 168 [vR 87] (I, zRs b, 103, S)).bind (fun q => zX 182 40 [vR 87, vI a1, vI a2] (zpush q.1 []) q.2) := (xIload_n d182_20 rfl).trans ((xIload_n d182_21 rfl).trans ((xIcmpGe (t := 46) d182_22 rfl).trans (ziteC ((xAload_n d182_46 rfl).trans ((xGetR 20 99 d182_47 zo_182 zfl_11_44 rfl rfl rfl (Or.inl (Nat.le_of_ble_eq_true rfl))).trans ((xIconst d182_50).trans ((xIald (N := 392) (I 99 0) rfl d182_51 rfl (Or.inl (Nat.le_of_ble_eq_true rfl)) rfl).trans ((if_pos (by decide)).trans ((xBipush d182_52).trans ((xIcmpNe (t := 62) d182_54 rfl).trans (ziteC ((xBipush d182_57).trans (xGoto (t := 66) d182_59 rfl)) ((xAload_n d182_62 rfl).trans (xInvV [vR 87] [] d182_63 zo_182 zml_11_233 rfl rfl rfl (Or.inl ⟨rfl, (Nat.le_of_ble_eq_true rfl)⟩))))))))))) ((xAload_n d182_25 rfl).trans ((xGetR 20 99 d182_26 zo_182 zfl_11_44 rfl rfl rfl (Or.inl (Nat.le_of_ble_eq_true rfl))).trans ((xIconst d182_29).trans ((xIald (N := 392) (I 99 0) rfl d182_30 rfl (Or.inl (Nat.le_of_ble_eq_true rfl)) rfl).trans ((if_pos (by decide)).trans ((xBipush d182_31).trans ((xIcmpEq (t := 46) d182_33 rfl).trans (ziteC ((xAload_n d182_46 rfl).trans ((xGetR 20 99 d182_47 zo_182 zfl_11_44 rfl rfl rfl (Or.inl (Nat.le_of_ble_eq_true rfl))).trans ((xIconst d182_50).trans ((xIald (N := 392) (I 99 0) rfl d182_51 rfl (Or.inl (Nat.le_of_ble_eq_true rfl)) rfl).trans ((if_pos (by decide)).trans ((xBipush d182_52).trans ((xIcmpNe (t := 62) d182_54 rfl).trans (ziteC ((xBipush d182_57).trans (xGoto (t := 66) d182_59 rfl)) ((xAload_n d182_62 rfl).trans (xInvV [vR 87] [] d182_63 zo_182 zml_11_233 rfl rfl rfl (Or.inl ⟨rfl, (Nat.le_of_ble_eq_true rfl)⟩))))))))))) ((xAload_n d182_36 rfl).trans (xInvV [vR 87] [] d182_37 zo_182 zml_11_236 rfl rfl rfl (Or.inl ⟨rfl, (Nat.le_of_ble_eq_true rfl)⟩))))))))))))))
theorem e182_40 {I : Nat → Int → Int} {b : Bool} {S : Nat} {a1 a2 : Int} : zX 182 40 [vR 87, vI a1, vI a2] [] (I, zRs b, 103, S) = zX 182 20 [vR 87, vI a1, vI (wr (a2 + 1))] [] (I, zRs b, 103, S) := (xIinc d182_40 rfl rfl rfl).trans (xGoto (t := 20) d182_43 rfl)
theorem e182_66 {I : Nat → Int → Int} {b : Bool} {S : Nat} {a1 a2 t0 : Int} : zX 182 66 [vR 87, vI a1, vI a2] [vI t0] (I, zRs b, 103, S) = some (some (vI t0), (I, zRs b, 103, S)) := xIret d182_66 zret_182
theorem run183 {h : zH} : zrun 183 [vR 87] h = zX 183 0 [vR 87, none, none, none, none] [] h := rfl
theorem e183_0 {I : Nat → Int → Int} {b : Bool} {S : Nat} : zX 183 0 [vR 87, none, none, none, none] [] (I, zRs b, 103, S) = (zrun 180 [vR 87] (I, zRs b, 103, S)).bind (fun q => zX 183 4 [vR 87, none, none, none, none] (zpush q.1 []) q.2) := (xAload_n d183_0 rfl).trans (xInvV [vR 87] [] d183_1 zo_183 zml_11_262 rfl rfl rfl (Or.inl ⟨rfl, (Nat.le_of_ble_eq_true rfl)⟩))
theorem e183_4 {I : Nat → Int → Int} {b : Bool} {S : Nat} {t0 : Int} : zX 183 4 [vR 87, none, none, none, none] [vI t0] (I, zRs b, 103, S) = if t0 = 0 then zX 183 14 [vR 87, vI 0, vI 0, none, none] [] (I, zRs b, 103, S) else some (some (vI (-4)), (I, zRs b, 103, S)) := (xIfEq (t := 10) d183_4 rfl).trans (ziteC ((xIconst d183_10).trans ((xIstore_n d183_11 rfl rfl).trans ((xIconst d183_12).trans (xIstore_n d183_13 rfl rfl)))) ((xBipush d183_7).trans (xIret d183_9 zret_183)))
theorem e183_14 {I : Nat → Int → Int} {b : Bool} {S : Nat} {a1 a2 : Int} {w3 w4 : zV} : zX 183 14 [vR 87, vI a1, vI a2, w3, w4] [] (I, zRs b, 103, S) = if (I 88 1) ≤ a2 then some (some (vI a1), (I, zRs b, 103, S)) else (zrun 158 [vR 87, vI a2, vI 0] (I, zRs b, 103, S)).bind (fun q => zX 183 30 [vR 87, vI a1, vI a2, w3, w4] (zpush q.1 []) q.2) := (xIload_n d183_14 rfl).trans ((xAload_n d183_15 rfl).trans ((xGetR 0 88 d183_16 zo_183 zfl_11_7 rfl rfl rfl (Or.inl (Nat.le_of_ble_eq_true rfl))).trans ((xIconst d183_19).trans ((xIald (N := 234) (I 88 1) rfl d183_20 rfl (Or.inl (Nat.le_of_ble_eq_true rfl)) rfl).trans ((if_pos (by decide)).trans ((xIcmpGe (t := 109) d183_21 rfl).trans (ziteC ((xIload_n d183_109 rfl).trans (xIret d183_110 zret_183)) ((xAload_n d183_24 rfl).trans ((xIload_n d183_25 rfl).trans ((xIconst d183_26).trans (xInvV [vR 87, vI a2, vI 0] [] d183_27 zo_183 zml_11_192 rfl rfl rfl (Or.inl ⟨rfl, (Nat.le_of_ble_eq_true rfl)⟩))))))))))))
theorem e183_30 {I : Nat → Int → Int} {b : Bool} {S : Nat} {a1 a2 t0 : Int} {w3 w4 : zV} : zX 183 30 [vR 87, vI a1, vI a2, w3, w4] [vI t0] (I, zRs b, 103, S) = if t0 = 0 then (zrun 158 [vR 87, vI a2, vI 1] (I, zRs b, 103, S)).bind (fun q => zX 183 40 [vR 87, vI a1, vI a2, w3, w4] (zpush q.1 [vR 87]) q.2) else zX 183 51 [vR 87, vI a1, vI a2, vI 0, vI 0] [] (I, zRs b, 103, S) := (xIfNe (t := 46) d183_30 rfl).trans (ziteC ((xAload_n d183_33 rfl).trans ((xAload_n d183_34 rfl).trans ((xIload_n d183_35 rfl).trans ((xIconst d183_36).trans (xInvV [vR 87, vI a2, vI 1] [vR 87] d183_37 zo_183 zml_11_192 rfl rfl rfl (Or.inl ⟨rfl, (Nat.le_of_ble_eq_true rfl)⟩)))))) ((xIconst d183_46).trans ((xIstore_n d183_47 rfl rfl).trans ((xIconst d183_48).trans (xIstore d183_49 rfl rfl)))))
theorem e183_40 {I : Nat → Int → Int} {b : Bool} {S : Nat} {a1 a2 t1 : Int} {w3 w4 : zV} : zX 183 40 [vR 87, vI a1, vI a2, w3, w4] [vI t1, vR 87] (I, zRs b, 103, S) = (zrun 148 [vR 87, vI t1] (I, zRs b, 103, S)).bind (fun q => zX 183 43 [vR 87, vI a1, vI a2, w3, w4] (zpush q.1 []) q.2) := xInvV [vR 87, vI t1] [] d183_40 zo_183 zml_11_168 rfl rfl rfl (Or.inl ⟨rfl, (Nat.le_of_ble_eq_true rfl)⟩)
theorem e183_43 {I : Nat → Int → Int} {b : Bool} {S : Nat} {a1 a2 t0 : Int} {w3 w4 : zV} : zX 183 43 [vR 87, vI a1, vI a2, w3, w4] [vI t0] (I, zRs b, 103, S) = zX 183 51 [vR 87, vI a1, vI a2, vI t0, vI 0] [] (I, zRs b, 103, S) := (xGoto (t := 47) d183_43 rfl).trans ((xIstore_n d183_47 rfl rfl).trans ((xIconst d183_48).trans (xIstore d183_49 rfl rfl)))
theorem e183_51 {I : Nat → Int → Int} {b : Bool} {S : Nat} {a1 a2 a3 a4 : Int} : zX 183 51 [vR 87, vI a1, vI a2, vI a3, vI a4] [] (I, zRs b, 103, S) = if a2 ≤ a4 then zX 183 14 [vR 87, vI (wr (a1 + a3)), vI (wr (a2 + 1)), vI a3, vI a4] [] (I, zRs b, 103, S) else (zrun 158 [vR 87, vI a4, vI 0] (I, zRs b, 103, S)).bind (fun q => zX 183 65 [vR 87, vI a1, vI a2, vI a3, vI a4] (zpush q.1 [vI a3]) q.2) := (xIload d183_51 rfl).trans ((xIload_n d183_53 rfl).trans ((xIcmpGe (t := 99) d183_54 rfl).trans (ziteC ((xIload_n d183_99 rfl).trans ((xIload_n d183_100 rfl).trans ((xIadd d183_101).trans ((xIstore_n d183_102 rfl rfl).trans ((xIinc d183_103 rfl rfl rfl).trans (xGoto (t := 14) d183_106 rfl)))))) ((xIload_n d183_57 rfl).trans ((xAload_n d183_58 rfl).trans ((xIload d183_59 rfl).trans ((xIconst d183_61).trans (xInvV [vR 87, vI a4, vI 0] [vI a3] d183_62 zo_183 zml_11_192 rfl rfl rfl (Or.inl ⟨rfl, (Nat.le_of_ble_eq_true rfl)⟩)))))))))
theorem e183_65 {I : Nat → Int → Int} {b : Bool} {S : Nat} {a1 a2 a3 a4 t0 t1 : Int} : zX 183 65 [vR 87, vI a1, vI a2, vI a3, vI a4] [vI t1, vI t0] (I, zRs b, 103, S) = if t1 = 2 then (zrun 158 [vR 87, vI a4, vI 2] (I, zRs b, 103, S)).bind (fun q => zX 183 76 [vR 87, vI a1, vI a2, vI a3, vI a4] (zpush q.1 [vI t0]) q.2) else zX 183 51 [vR 87, vI a1, vI a2, vI (wr (t0 * 1)), vI (wr (a4 + 1))] [] (I, zRs b, 103, S) := (xIconst d183_65).trans ((xIcmpNe (t := 90) d183_66 rfl).trans (ziteC ((xAload_n d183_69 rfl).trans ((xIload d183_70 rfl).trans ((xIconst d183_72).trans (xInvV [vR 87, vI a4, vI 2] [vI t0] d183_73 zo_183 zml_11_192 rfl rfl rfl (Or.inl ⟨rfl, (Nat.le_of_ble_eq_true rfl)⟩))))) ((xIconst d183_90).trans ((xImul d183_91).trans ((xIstore_n d183_92 rfl rfl).trans ((xIinc d183_93 rfl rfl rfl).trans (xGoto (t := 51) d183_96 rfl)))))))
theorem e183_76 {I : Nat → Int → Int} {b : Bool} {S : Nat} {a1 a2 a3 a4 t0 t1 : Int} : zX 183 76 [vR 87, vI a1, vI a2, vI a3, vI a4] [vI t1, vI t0] (I, zRs b, 103, S) = if t1 ≤ a2 then zX 183 51 [vR 87, vI a1, vI a2, vI (wr (t0 * 1)), vI (wr (a4 + 1))] [] (I, zRs b, 103, S) else (zrun 158 [vR 87, vI a4, vI 1] (I, zRs b, 103, S)).bind (fun q => zX 183 87 [vR 87, vI a1, vI a2, vI a3, vI a4] (zpush q.1 [vI t0]) q.2) := (xIload_n d183_76 rfl).trans ((xIcmpLe (t := 90) d183_77 rfl).trans (ziteC ((xIconst d183_90).trans ((xImul d183_91).trans ((xIstore_n d183_92 rfl rfl).trans ((xIinc d183_93 rfl rfl rfl).trans (xGoto (t := 51) d183_96 rfl))))) ((xAload_n d183_80 rfl).trans ((xIload d183_81 rfl).trans ((xIconst d183_83).trans (xInvV [vR 87, vI a4, vI 1] [vI t0] d183_84 zo_183 zml_11_192 rfl rfl rfl (Or.inl ⟨rfl, (Nat.le_of_ble_eq_true rfl)⟩)))))))
theorem e183_87 {I : Nat → Int → Int} {b : Bool} {S : Nat} {a1 a2 a3 a4 t0 t1 : Int} : zX 183 87 [vR 87, vI a1, vI a2, vI a3, vI a4] [vI t1, vI t0] (I, zRs b, 103, S) = zX 183 51 [vR 87, vI a1, vI a2, vI (wr (t0 * t1)), vI (wr (a4 + 1))] [] (I, zRs b, 103, S) := (xGoto (t := 91) d183_87 rfl).trans ((xImul d183_91).trans ((xIstore_n d183_92 rfl rfl).trans ((xIinc d183_93 rfl rfl rfl).trans (xGoto (t := 51) d183_96 rfl))))
theorem run184 {h : zH} : zrun 184 [vR 87] h = zX 184 0 [vR 87] [] h := rfl
theorem e184_0 {I : Nat → Int → Int} {b : Bool} {S : Nat} : zX 184 0 [vR 87] [] (I, zRs b, 103, S) = some (some (vI (wr ((wr ((wr ((I 93 9) + (I 93 10))) + (I 93 11))) + (I 93 12)))), (I, zRs b, 103, S)) := (xAload_n d184_0 rfl).trans ((xGetR 6 93 d184_1 zo_184 zfl_11_25 rfl rfl rfl (Or.inl (Nat.le_of_ble_eq_true rfl))).trans ((xBipush d184_4).trans ((xIald (N := 392) (I 93 9) rfl d184_6 rfl (Or.inl (Nat.le_of_ble_eq_true rfl)) rfl).trans ((if_pos (by decide)).trans ((xAload_n d184_7 rfl).trans ((xGetR 6 93 d184_8 zo_184 zfl_11_25 rfl rfl rfl (Or.inl (Nat.le_of_ble_eq_true rfl))).trans ((xBipush d184_11).trans ((xIald (N := 392) (I 93 10) rfl d184_13 rfl (Or.inl (Nat.le_of_ble_eq_true rfl)) rfl).trans ((if_pos (by decide)).trans ((xIadd d184_14).trans ((xAload_n d184_15 rfl).trans ((xGetR 6 93 d184_16 zo_184 zfl_11_25 rfl rfl rfl (Or.inl (Nat.le_of_ble_eq_true rfl))).trans ((xBipush d184_19).trans ((xIald (N := 392) (I 93 11) rfl d184_21 rfl (Or.inl (Nat.le_of_ble_eq_true rfl)) rfl).trans ((if_pos (by decide)).trans ((xIadd d184_22).trans ((xAload_n d184_23 rfl).trans ((xGetR 6 93 d184_24 zo_184 zfl_11_25 rfl rfl rfl (Or.inl (Nat.le_of_ble_eq_true rfl))).trans ((xBipush d184_27).trans ((xIald (N := 392) (I 93 12) rfl d184_29 rfl (Or.inl (Nat.le_of_ble_eq_true rfl)) rfl).trans ((if_pos (by decide)).trans ((xIadd d184_30).trans (xIret d184_31 zret_184)))))))))))))))))))))))
theorem run185 {h : zH} {x0 : Int} : zrun 185 [vR 87, vI x0] h = zX 185 0 [vR 87, vI x0] [] h := rfl
theorem e185_0 {I : Nat → Int → Int} {b : Bool} {S : Nat} {x0 : Int} : zX 185 0 [vR 87, vI x0] [] (I, zRs b, 103, S) = (zrun 125 [vL x0, vL 0, vL 9] (I, zRs b, 103, S)).bind (fun q => zX 185 9 [vR 87, vI x0] (zpush q.1 []) q.2) := (xIload_n d185_0 rfl).trans ((xI2l d185_1).trans ((xLconst d185_2).trans ((xLdc2 d185_3 zo_185 zcl_11_265 (by decide)).trans (xInvS [vL x0, vL 0, vL 9] [] d185_6 zo_185 zml_11_64 rfl rfl))))
theorem e185_9 {I : Nat → Int → Int} {b : Bool} {S : Nat} {a1 t0 : Int} : zX 185 9 [vR 87, vI a1] [vI t0] (I, zRs b, 103, S) = if t0 = 0 then some (some (vI (-1)), (I, zRs b, 103, S)) else if a1 = 9 then (zrun 184 [vR 87] (I, zRs b, 103, S)).bind (fun q => zX 185 24 [vR 87, vI a1] (zpush q.1 []) q.2) else if 0 ≤ a1 ∧ a1 < 392 then some (some (vI (I 93 a1)), (I, zRs b, 103, S)) else none := (xIfNe (t := 14) d185_9 rfl).trans (ziteC ((xIconst d185_12).trans (xIret d185_13 zret_185)) ((xIload_n d185_14 rfl).trans ((xBipush d185_15).trans ((xIcmpNe (t := 27) d185_17 rfl).trans (ziteC ((xAload_n d185_20 rfl).trans (xInvV [vR 87] [] d185_21 zo_185 zml_11_267 rfl rfl rfl (Or.inl ⟨rfl, (Nat.le_of_ble_eq_true rfl)⟩))) ((xAload_n d185_27 rfl).trans ((xGetR 6 93 d185_28 zo_185 zfl_11_25 rfl rfl rfl (Or.inl (Nat.le_of_ble_eq_true rfl))).trans ((xIload_n d185_31 rfl).trans ((xIald (N := 392) (I 93 a1) rfl d185_32 rfl (Or.inl (Nat.le_of_ble_eq_true rfl)) rfl).trans (ziteC (xIret d185_33 zret_185) rfl))))))))))
theorem e185_24 {I : Nat → Int → Int} {b : Bool} {S : Nat} {a1 t0 : Int} : zX 185 24 [vR 87, vI a1] [vI t0] (I, zRs b, 103, S) = some (some (vI t0), (I, zRs b, 103, S)) := (xGoto (t := 33) d185_24 rfl).trans (xIret d185_33 zret_185)
theorem run186 {h : zH} {x0 : Int} : zrun 186 [vR 87, vI x0] h = zX 186 0 [vR 87, vI x0] [] h := rfl
theorem e186_0 {I : Nat → Int → Int} {b : Bool} {S : Nat} {x0 : Int} : zX 186 0 [vR 87, vI x0] [] (I, zRs b, 103, S) = (zrun 157 [vR 87, vI x0] (I, zRs b, 103, S)).bind (fun q => zX 186 5 [vR 87, vI x0] (zpush q.1 []) q.2) := (xAload_n d186_0 rfl).trans ((xIload_n d186_1 rfl).trans (xInvV [vR 87, vI x0] [] d186_2 zo_186 zml_11_187 rfl rfl rfl (Or.inl ⟨rfl, (Nat.le_of_ble_eq_true rfl)⟩)))
theorem e186_5 {I : Nat → Int → Int} {b : Bool} {S : Nat} {a1 t0 : Int} : zX 186 5 [vR 87, vI a1] [vI t0] (I, zRs b, 103, S) = if t0 = 0 then some (some (vI (-1)), (I, zRs b, 103, S)) else (zrun 158 [vR 87, vI a1, vI 0] (I, zRs b, 103, S)).bind (fun q => zX 186 14 [vR 87, vI a1] (zpush q.1 []) q.2) := (xIfEq (t := 30) d186_5 rfl).trans (ziteC ((xIconst d186_30).trans (xIret d186_31 zret_186)) ((xAload_n d186_8 rfl).trans ((xIload_n d186_9 rfl).trans ((xIconst d186_10).trans (xInvV [vR 87, vI a1, vI 0] [] d186_11 zo_186 zml_11_192 rfl rfl rfl (Or.inl ⟨rfl, (Nat.le_of_ble_eq_true rfl)⟩))))))
theorem e186_14 {I : Nat → Int → Int} {b : Bool} {S : Nat} {a1 t0 : Int} : zX 186 14 [vR 87, vI a1] [vI t0] (I, zRs b, 103, S) = if t0 = 2 then if 0 ≤ (wr (18 + a1)) ∧ (wr (18 + a1)) < 392 then some (some (vI (I 93 (wr (18 + a1)))), (I, zRs b, 103, S)) else none else some (some (vI (-1)), (I, zRs b, 103, S)) := (xIconst d186_14).trans ((xIcmpNe (t := 30) d186_15 rfl).trans (ziteC ((xAload_n d186_18 rfl).trans ((xGetR 6 93 d186_19 zo_186 zfl_11_25 rfl rfl rfl (Or.inl (Nat.le_of_ble_eq_true rfl))).trans ((xBipush d186_22).trans ((xIload_n d186_24 rfl).trans ((xIadd d186_25).trans ((xIald (N := 392) (I 93 (wr (18 + a1))) rfl d186_26 rfl (Or.inl (Nat.le_of_ble_eq_true rfl)) rfl).trans (ziteC ((xGoto (t := 31) d186_27 rfl).trans (xIret d186_31 zret_186)) rfl))))))) ((xIconst d186_30).trans (xIret d186_31 zret_186))))
theorem run187 {h : zH} {x0 : Int} : zrun 187 [vR 87, vI x0] h = zX 187 0 [vR 87, vI x0, none] [] h := rfl
theorem e187_0 {I : Nat → Int → Int} {b : Bool} {S : Nat} {x0 : Int} : zX 187 0 [vR 87, vI x0, none] [] (I, zRs b, 103, S) = (zrun 125 [vL x0, vL 1, vL 30] (I, zRs b, 103, S)).bind (fun q => zX 187 9 [vR 87, vI x0, none] (zpush q.1 []) q.2) := (xIload_n d187_0 rfl).trans ((xI2l d187_1).trans ((xLconst d187_2).trans ((xLdc2 d187_3 zo_187 zcl_11_270 (by decide)).trans (xInvS [vL x0, vL 1, vL 30] [] d187_6 zo_187 zml_11_64 rfl rfl))))
theorem e187_9 {I : Nat → Int → Int} {b : Bool} {S : Nat} {a1 t0 : Int} : zX 187 9 [vR 87, vI a1, none] [vI t0] (I, zRs b, 103, S) = if t0 = 0 then some (some (vI (-1)), (I, zRs b, 103, S)) else zX 187 16 [vR 87, vI a1, vI 0] [] (I, zRs b, 103, S) := (xIfNe (t := 14) d187_9 rfl).trans (ziteC ((xIconst d187_12).trans (xIret d187_13 zret_187)) ((xIconst d187_14).trans (xIstore_n d187_15 rfl rfl)))
theorem e187_16 {I : Nat → Int → Int} {b : Bool} {S : Nat} {a1 a2 : Int} : zX 187 16 [vR 87, vI a1, vI a2] [] (I, zRs b, 103, S) = if a1 ≤ a2 then some (some (vI (I 93 3)), (I, zRs b, 103, S)) else (zrun 179 [vR 87] (I, zRs b, 103, S)).bind (fun q => zX 187 25 [vR 87, vI a1, vI a2] (zpush q.1 []) q.2) := (xIload_n d187_16 rfl).trans ((xIload_n d187_17 rfl).trans ((xIcmpGe (t := 31) d187_18 rfl).trans (ziteC ((xAload_n d187_31 rfl).trans ((xGetR 6 93 d187_32 zo_187 zfl_11_25 rfl rfl rfl (Or.inl (Nat.le_of_ble_eq_true rfl))).trans ((xIconst d187_35).trans ((xIald (N := 392) (I 93 3) rfl d187_36 rfl (Or.inl (Nat.le_of_ble_eq_true rfl)) rfl).trans ((if_pos (by decide)).trans (xIret d187_37 zret_187)))))) ((xAload_n d187_21 rfl).trans (xInvV [vR 87] [] d187_22 zo_187 zml_11_272 rfl rfl rfl (Or.inl ⟨rfl, (Nat.le_of_ble_eq_true rfl)⟩))))))
theorem e187_25 {I : Nat → Int → Int} {b : Bool} {S : Nat} {a1 a2 : Int} : zX 187 25 [vR 87, vI a1, vI a2] [] (I, zRs b, 103, S) = zX 187 16 [vR 87, vI a1, vI (wr (a2 + 1))] [] (I, zRs b, 103, S) := (xIinc d187_25 rfl rfl rfl).trans (xGoto (t := 16) d187_28 rfl)
theorem run188 {h : zH} {x0 : Int} : zrun 188 [vR 87, vI x0] h = zX 188 0 [vR 87, vI x0] [] h := rfl
theorem e188_0 {I : Nat → Int → Int} {b : Bool} {S : Nat} {x0 : Int} : zX 188 0 [vR 87, vI x0] [] (I, zRs b, 103, S) = if 0 ≤ x0 then if (I 93 4) ≤ x0 then some (some (vI (-4)), (I, zRs b, 103, S)) else if 200 ≤ x0 then some (some (vI (-4)), (I, zRs b, 103, S)) else if 0 ≤ (wr (112 + x0)) ∧ (wr (112 + x0)) < 392 then some (some (vI (I 93 (wr (112 + x0)))), (I, zRs b, 103, S)) else none else some (some (vI (-1)), (I, zRs b, 103, S)) := (xIload_n d188_0 rfl).trans ((xIfGe (t := 6) d188_1 rfl).trans (ziteC ((xIload_n d188_6 rfl).trans ((xAload_n d188_7 rfl).trans ((xGetR 6 93 d188_8 zo_188 zfl_11_25 rfl rfl rfl (Or.inl (Nat.le_of_ble_eq_true rfl))).trans ((xIconst d188_11).trans ((xIald (N := 392) (I 93 4) rfl d188_12 rfl (Or.inl (Nat.le_of_ble_eq_true rfl)) rfl).trans ((if_pos (by decide)).trans ((xIcmpGe (t := 35) d188_13 rfl).trans (ziteC ((xBipush d188_35).trans (xIret d188_37 zret_188)) ((xIload_n d188_16 rfl).trans ((xSipush d188_17).trans ((xIcmpGe (t := 35) d188_20 rfl).trans (ziteC ((xBipush d188_35).trans (xIret d188_37 zret_188)) ((xAload_n d188_23 rfl).trans ((xGetR 6 93 d188_24 zo_188 zfl_11_25 rfl rfl rfl (Or.inl (Nat.le_of_ble_eq_true rfl))).trans ((xBipush d188_27).trans ((xIload_n d188_29 rfl).trans ((xIadd d188_30).trans ((xIald (N := 392) (I 93 (wr (112 + x0))) rfl d188_31 rfl (Or.inl (Nat.le_of_ble_eq_true rfl)) rfl).trans (ziteC ((xGoto (t := 37) d188_32 rfl).trans (xIret d188_37 zret_188)) rfl))))))))))))))))))) ((xIconst d188_4).trans (xIret d188_5 zret_188))))
theorem run189 {h : zH} {x0 x1 : Int} : zrun 189 [vR 87, vI x0, vI x1] h = zX 189 0 [vR 87, vI x0, vI x1] [] h := rfl
theorem e189_0 {I : Nat → Int → Int} {b : Bool} {S : Nat} {x0 x1 : Int} : zX 189 0 [vR 87, vI x0, vI x1] [] (I, zRs b, 103, S) = if x0 < 0 then some (some (vI (-1)), (I, zRs b, 103, S)) else (zrun 125 [vL x1, vL 0, vL 1] (I, zRs b, 103, S)).bind (fun q => zX 189 11 [vR 87, vI x0, vI x1] (zpush q.1 []) q.2) := (xIload_n d189_0 rfl).trans ((xIfLt (t := 14) d189_1 rfl).trans (ziteC ((xIconst d189_14).trans (xIret d189_15 zret_189)) ((xIload_n d189_4 rfl).trans ((xI2l d189_5).trans ((xLconst d189_6).trans ((xLconst d189_7).trans (xInvS [vL x1, vL 0, vL 1] [] d189_8 zo_189 zml_11_64 rfl rfl)))))))
theorem e189_11 {I : Nat → Int → Int} {b : Bool} {S : Nat} {a1 a2 t0 : Int} : zX 189 11 [vR 87, vI a1, vI a2] [vI t0] (I, zRs b, 103, S) = if t0 = 0 then some (some (vI (-1)), (I, zRs b, 103, S)) else if (I 93 6) ≤ a1 then some (some (vI (-4)), (I, zRs b, 103, S)) else if 40 ≤ a1 then some (some (vI (-4)), (I, zRs b, 103, S)) else if 0 ≤ (wr ((wr (312 + (wr (2 * a1)))) + a2)) ∧ (wr ((wr (312 + (wr (2 * a1)))) + a2)) < 392 then some (some (vI (I 93 (wr ((wr (312 + (wr (2 * a1)))) + a2)))), (I, zRs b, 103, S)) else none := (xIfNe (t := 16) d189_11 rfl).trans (ziteC ((xIconst d189_14).trans (xIret d189_15 zret_189)) ((xIload_n d189_16 rfl).trans ((xAload_n d189_17 rfl).trans ((xGetR 6 93 d189_18 zo_189 zfl_11_25 rfl rfl rfl (Or.inl (Nat.le_of_ble_eq_true rfl))).trans ((xBipush d189_21).trans ((xIald (N := 392) (I 93 6) rfl d189_23 rfl (Or.inl (Nat.le_of_ble_eq_true rfl)) rfl).trans ((if_pos (by decide)).trans ((xIcmpGe (t := 50) d189_24 rfl).trans (ziteC ((xBipush d189_50).trans (xIret d189_52 zret_189)) ((xIload_n d189_27 rfl).trans ((xBipush d189_28).trans ((xIcmpGe (t := 50) d189_30 rfl).trans (ziteC ((xBipush d189_50).trans (xIret d189_52 zret_189)) ((xAload_n d189_33 rfl).trans ((xGetR 6 93 d189_34 zo_189 zfl_11_25 rfl rfl rfl (Or.inl (Nat.le_of_ble_eq_true rfl))).trans ((xSipush d189_37).trans ((xIconst d189_40).trans ((xIload_n d189_41 rfl).trans ((xImul d189_42).trans ((xIadd d189_43).trans ((xIload_n d189_44 rfl).trans ((xIadd d189_45).trans ((xIald (N := 392) (I 93 (wr ((wr (312 + (wr (2 * a1)))) + a2))) rfl d189_46 rfl (Or.inl (Nat.le_of_ble_eq_true rfl)) rfl).trans (ziteC ((xGoto (t := 52) d189_47 rfl).trans (xIret d189_52 zret_189)) rfl))))))))))))))))))))))))
theorem run190 {h : zH} {x0 x1 : Int} : zrun 190 [vR 87, vI x0, vI x1] h = zX 190 0 [vR 87, vI x0, vI x1] [] h := rfl
theorem e190_0 {I : Nat → Int → Int} {b : Bool} {S : Nat} {x0 x1 : Int} : zX 190 0 [vR 87, vI x0, vI x1] [] (I, zRs b, 103, S) = if x0 < 0 then some (some (vI (-1)), (I, zRs b, 103, S)) else (zrun 125 [vL x1, vL 0, vL 2] (I, zRs b, 103, S)).bind (fun q => zX 190 13 [vR 87, vI x0, vI x1] (zpush q.1 []) q.2) := (xIload_n d190_0 rfl).trans ((xIfLt (t := 16) d190_1 rfl).trans (ziteC ((xIconst d190_16).trans (xIret d190_17 zret_190)) ((xIload_n d190_4 rfl).trans ((xI2l d190_5).trans ((xLconst d190_6).trans ((xLdc2 d190_7 zo_190 zcl_11_275 (by decide)).trans (xInvS [vL x1, vL 0, vL 2] [] d190_10 zo_190 zml_11_64 rfl rfl)))))))
theorem e190_13 {I : Nat → Int → Int} {b : Bool} {S : Nat} {a1 a2 t0 : Int} : zX 190 13 [vR 87, vI a1, vI a2] [vI t0] (I, zRs b, 103, S) = if t0 = 0 then some (some (vI (-1)), (I, zRs b, 103, S)) else if a2 = 0 then if a1 < (I 93 7) then if a2 = 0 then if 0 ≤ (wr (42 + a1)) ∧ (wr (42 + a1)) < 392 then some (some (vI (I 93 (wr (42 + a1)))), (I, zRs b, 103, S)) else none else if a2 = 1 then if 0 ≤ (wr (48 + a1)) ∧ (wr (48 + a1)) < 392 then some (some (vI (I 93 (wr (48 + a1)))), (I, zRs b, 103, S)) else none else if 0 ≤ (wr (80 + a1)) ∧ (wr (80 + a1)) < 392 then some (some (vI (I 93 (wr (80 + a1)))), (I, zRs b, 103, S)) else none else some (some (vI (-4)), (I, zRs b, 103, S)) else if a1 < (I 93 8) then if a2 = 0 then if 0 ≤ (wr (42 + a1)) ∧ (wr (42 + a1)) < 392 then some (some (vI (I 93 (wr (42 + a1)))), (I, zRs b, 103, S)) else none else if a2 = 1 then if 0 ≤ (wr (48 + a1)) ∧ (wr (48 + a1)) < 392 then some (some (vI (I 93 (wr (48 + a1)))), (I, zRs b, 103, S)) else none else if 0 ≤ (wr (80 + a1)) ∧ (wr (80 + a1)) < 392 then some (some (vI (I 93 (wr (80 + a1)))), (I, zRs b, 103, S)) else none else some (some (vI (-4)), (I, zRs b, 103, S)) := (xIfNe (t := 18) d190_13 rfl).trans (ziteC ((xIconst d190_16).trans (xIret d190_17 zret_190)) ((xIload_n d190_18 rfl).trans ((xIload_n d190_19 rfl).trans ((xIfNe (t := 33) d190_20 rfl).trans (ziteC ((xAload_n d190_23 rfl).trans ((xGetR 6 93 d190_24 zo_190 zfl_11_25 rfl rfl rfl (Or.inl (Nat.le_of_ble_eq_true rfl))).trans ((xBipush d190_27).trans ((xIald (N := 392) (I 93 7) rfl d190_29 rfl (Or.inl (Nat.le_of_ble_eq_true rfl)) rfl).trans ((if_pos (by decide)).trans ((xGoto (t := 40) d190_30 rfl).trans ((xIcmpLt (t := 46) d190_40 rfl).trans (ziteC ((xAload_n d190_46 rfl).trans ((xGetR 6 93 d190_47 zo_190 zfl_11_25 rfl rfl rfl (Or.inl (Nat.le_of_ble_eq_true rfl))).trans ((xIload_n d190_50 rfl).trans ((xIfNe (t := 59) d190_51 rfl).trans (ziteC ((xBipush d190_54).trans ((xGoto (t := 71) d190_56 rfl).trans ((xIload_n d190_71 rfl).trans ((xIadd d190_72).trans ((xIald (N := 392) (I 93 (wr (42 + a1))) rfl d190_73 rfl (Or.inl (Nat.le_of_ble_eq_true rfl)) rfl).trans (ziteC (xIret d190_74 zret_190) rfl)))))) ((xIload_n d190_59 rfl).trans ((xIconst d190_60).trans ((xIcmpNe (t := 69) d190_61 rfl).trans (ziteC ((xBipush d190_64).trans ((xGoto (t := 71) d190_66 rfl).trans ((xIload_n d190_71 rfl).trans ((xIadd d190_72).trans ((xIald (N := 392) (I 93 (wr (48 + a1))) rfl d190_73 rfl (Or.inl (Nat.le_of_ble_eq_true rfl)) rfl).trans (ziteC (xIret d190_74 zret_190) rfl)))))) ((xBipush d190_69).trans ((xIload_n d190_71 rfl).trans ((xIadd d190_72).trans ((xIald (N := 392) (I 93 (wr (80 + a1))) rfl d190_73 rfl (Or.inl (Nat.le_of_ble_eq_true rfl)) rfl).trans (ziteC (xIret d190_74 zret_190) rfl)))))))))))))) ((xBipush d190_43).trans (xIret d190_45 zret_190)))))))))) ((xAload_n d190_33 rfl).trans ((xGetR 6 93 d190_34 zo_190 zfl_11_25 rfl rfl rfl (Or.inl (Nat.le_of_ble_eq_true rfl))).trans ((xBipush d190_37).trans ((xIald (N := 392) (I 93 8) rfl d190_39 rfl (Or.inl (Nat.le_of_ble_eq_true rfl)) rfl).trans ((if_pos (by decide)).trans ((xIcmpLt (t := 46) d190_40 rfl).trans (ziteC ((xAload_n d190_46 rfl).trans ((xGetR 6 93 d190_47 zo_190 zfl_11_25 rfl rfl rfl (Or.inl (Nat.le_of_ble_eq_true rfl))).trans ((xIload_n d190_50 rfl).trans ((xIfNe (t := 59) d190_51 rfl).trans (ziteC ((xBipush d190_54).trans ((xGoto (t := 71) d190_56 rfl).trans ((xIload_n d190_71 rfl).trans ((xIadd d190_72).trans ((xIald (N := 392) (I 93 (wr (42 + a1))) rfl d190_73 rfl (Or.inl (Nat.le_of_ble_eq_true rfl)) rfl).trans (ziteC (xIret d190_74 zret_190) rfl)))))) ((xIload_n d190_59 rfl).trans ((xIconst d190_60).trans ((xIcmpNe (t := 69) d190_61 rfl).trans (ziteC ((xBipush d190_64).trans ((xGoto (t := 71) d190_66 rfl).trans ((xIload_n d190_71 rfl).trans ((xIadd d190_72).trans ((xIald (N := 392) (I 93 (wr (48 + a1))) rfl d190_73 rfl (Or.inl (Nat.le_of_ble_eq_true rfl)) rfl).trans (ziteC (xIret d190_74 zret_190) rfl)))))) ((xBipush d190_69).trans ((xIload_n d190_71 rfl).trans ((xIadd d190_72).trans ((xIald (N := 392) (I 93 (wr (80 + a1))) rfl d190_73 rfl (Or.inl (Nat.le_of_ble_eq_true rfl)) rfl).trans (ziteC (xIret d190_74 zret_190) rfl)))))))))))))) ((xBipush d190_43).trans (xIret d190_45 zret_190))))))))))))))
theorem run191 {h : zH} {x0 : Int} : zrun 191 [vR 87, vI x0] h = zX 191 0 [vR 87, vI x0, none] [] h := rfl
theorem e191_0 {I : Nat → Int → Int} {b : Bool} {S : Nat} {x0 : Int} : zX 191 0 [vR 87, vI x0, none] [] (I, zRs b, 103, S) = (zrun 125 [vL x0, vL 0, vL 3] (I, zRs b, 103, S)).bind (fun q => zX 191 9 [vR 87, vI x0, none] (zpush q.1 []) q.2) := (xIload_n d191_0 rfl).trans ((xI2l d191_1).trans ((xLconst d191_2).trans ((xLdc2 d191_3 zo_191 zcl_11_190 (by decide)).trans (xInvS [vL x0, vL 0, vL 3] [] d191_6 zo_191 zml_11_64 rfl rfl))))
theorem e191_9 {I : Nat → Int → Int} {b : Bool} {S : Nat} {a1 t0 : Int} : zX 191 9 [vR 87, vI a1, none] [vI t0] (I, zRs b, 103, S) = if t0 = 0 then some (some (vI (-1)), (I, zRs b, 103, S)) else if 0 ≤ (wr (9 + a1)) ∧ (wr (9 + a1)) < 392 then if 0 ≤ (wr (9 + a1)) ∧ (wr (9 + a1)) < 392 then some (some (vI (I 93 (wr (9 + a1)))), ((sI I 93 (wr (9 + a1)) 1), zRs b, 103, S)) else none else none := (xIfNe (t := 14) d191_9 rfl).trans (ziteC ((xIconst d191_12).trans (xIret d191_13 zret_191)) ((xAload_n d191_14 rfl).trans ((xGetR 6 93 d191_15 zo_191 zfl_11_25 rfl rfl rfl (Or.inl (Nat.le_of_ble_eq_true rfl))).trans ((xBipush d191_18).trans ((xIload_n d191_20 rfl).trans ((xIadd d191_21).trans ((xIald (N := 392) (I 93 (wr (9 + a1))) rfl d191_22 rfl (Or.inl (Nat.le_of_ble_eq_true rfl)) rfl).trans (ziteC ((xIstore_n d191_23 rfl rfl).trans ((xAload_n d191_24 rfl).trans ((xGetR 6 93 d191_25 zo_191 zfl_11_25 rfl rfl rfl (Or.inl (Nat.le_of_ble_eq_true rfl))).trans ((xBipush d191_28).trans ((xIload_n d191_30 rfl).trans ((xIadd d191_31).trans ((xIconst d191_32).trans ((xIast (N := 392) d191_33 rfl (Nat.le_of_ble_eq_true rfl) rfl).trans (ziteC ((xIload_n d191_34 rfl).trans (xIret d191_35 zret_191)) rfl))))))))) rfl))))))))
theorem run192 {h : zH} {x0 : Int} : zrun 192 [vI x0] h = zX 192 0 [vI x0] [] h := rfl
theorem e192_0 {I : Nat → Int → Int} {b : Bool} {S : Nat} {x0 : Int} : zX 192 0 [vI x0] [] (I, zRs b, 103, S) = if x0 = 6 then some (some (vI 1), (I, zRs b, 103, S)) else if x0 = 8 then some (some (vI 1), (I, zRs b, 103, S)) else some (some (vI 0), (I, zRs b, 103, S)) := (xIload_n d192_0 rfl).trans ((xBipush d192_1).trans ((xIcmpEq (t := 12) d192_3 rfl).trans (ziteC ((xIconst d192_12).trans ((xGoto (t := 17) d192_13 rfl).trans (xIret d192_17 zret_192))) ((xIload_n d192_6 rfl).trans ((xBipush d192_7).trans ((xIcmpNe (t := 16) d192_9 rfl).trans (ziteC ((xIconst d192_12).trans ((xGoto (t := 17) d192_13 rfl).trans (xIret d192_17 zret_192))) ((xIconst d192_16).trans (xIret d192_17 zret_192)))))))))
theorem run193 {h : zH} {x0 : Int} : zrun 193 [vI x0] h = zX 193 0 [vI x0] [] h := rfl
theorem e193_0 {I : Nat → Int → Int} {b : Bool} {S : Nat} {x0 : Int} : zX 193 0 [vI x0] [] (I, zRs b, 103, S) = if x0 = 6 then some (some (vI 64), (I, zRs b, 103, S)) else if x0 = 7 then some (some (vI 2), (I, zRs b, 103, S)) else if x0 = 8 then some (some (vI 6), (I, zRs b, 103, S)) else if x0 = 9 then some (some (vI 9), (I, zRs b, 103, S)) else some (some (vI 16), (I, zRs b, 103, S)) := (xIload_n d193_0 rfl).trans ((xBipush d193_1).trans ((xIcmpNe (t := 11) d193_3 rfl).trans (ziteC ((xBipush d193_6).trans ((xGoto (t := 45) d193_8 rfl).trans (xIret d193_45 zret_193))) ((xIload_n d193_11 rfl).trans ((xBipush d193_12).trans ((xIcmpNe (t := 21) d193_14 rfl).trans (ziteC ((xIconst d193_17).trans ((xGoto (t := 45) d193_18 rfl).trans (xIret d193_45 zret_193))) ((xIload_n d193_21 rfl).trans ((xBipush d193_22).trans ((xIcmpNe (t := 32) d193_24 rfl).trans (ziteC ((xBipush d193_27).trans ((xGoto (t := 45) d193_29 rfl).trans (xIret d193_45 zret_193))) ((xIload_n d193_32 rfl).trans ((xBipush d193_33).trans ((xIcmpNe (t := 43) d193_35 rfl).trans (ziteC ((xBipush d193_38).trans ((xGoto (t := 45) d193_40 rfl).trans (xIret d193_45 zret_193))) ((xBipush d193_43).trans (xIret d193_45 zret_193)))))))))))))))))
theorem run194 {h : zH} {x0 x1 : Int} : zrun 194 [vR 87, vI x0, vI x1] h = zX 194 0 [vR 87, vI x0, vI x1, none] [] h := rfl
theorem e194_0 {I : Nat → Int → Int} {b : Bool} {S : Nat} {x0 x1 : Int} : zX 194 0 [vR 87, vI x0, vI x1, none] [] (I, zRs b, 103, S) = (zrun 125 [vL x0, vL 6, vL 10] (I, zRs b, 103, S)).bind (fun q => zX 194 11 [vR 87, vI x0, vI x1, none] (zpush q.1 []) q.2) := (xIload_n d194_0 rfl).trans ((xI2l d194_1).trans ((xLdc2 d194_2 zo_194 zcl_11_277 (by decide)).trans ((xLdc2 d194_5 zo_194 zcl_11_279 (by decide)).trans (xInvS [vL x0, vL 6, vL 10] [] d194_8 zo_194 zml_11_64 rfl rfl))))
theorem e194_11 {I : Nat → Int → Int} {b : Bool} {S : Nat} {a1 a2 t0 : Int} : zX 194 11 [vR 87, vI a1, vI a2, none] [vI t0] (I, zRs b, 103, S) = if t0 = 0 then some (some (vI (-1)), (I, zRs b, 103, S)) else (zrun 192 [vI a1] (I, zRs b, 103, S)).bind (fun q => zX 194 20 [vR 87, vI a1, vI a2, none] (zpush q.1 [vL a2]) q.2) := (xIfEq (t := 32) d194_11 rfl).trans (ziteC ((xIconst d194_32).trans (xIret d194_33 zret_194)) ((xIload_n d194_14 rfl).trans ((xI2l d194_15).trans ((xIload_n d194_16 rfl).trans (xInvS [vI a1] [vL a2] d194_17 zo_194 zml_11_281 rfl rfl)))))
theorem e194_20 {I : Nat → Int → Int} {b : Bool} {S : Nat} {a1 a2 t0 t1 : Int} : zX 194 20 [vR 87, vI a1, vI a2, none] [vI t1, vL t0] (I, zRs b, 103, S) = (zrun 193 [vI a1] (I, zRs b, 103, S)).bind (fun q => zX 194 25 [vR 87, vI a1, vI a2, none] (zpush q.1 [vL t1, vL t0]) q.2) := (xI2l d194_20).trans ((xIload_n d194_21 rfl).trans (xInvS [vI a1] [vL t1, vL t0] d194_22 zo_194 zml_11_284 rfl rfl))
theorem e194_25 {I : Nat → Int → Int} {b : Bool} {S : Nat} {a1 a2 t0 t1 t2 : Int} : zX 194 25 [vR 87, vI a1, vI a2, none] [vI t2, vL t1, vL t0] (I, zRs b, 103, S) = (zrun 125 [vL t0, vL t1, vL t2] (I, zRs b, 103, S)).bind (fun q => zX 194 29 [vR 87, vI a1, vI a2, none] (zpush q.1 []) q.2) := (xI2l d194_25).trans (xInvS [vL t0, vL t1, vL t2] [] d194_26 zo_194 zml_11_64 rfl rfl)
theorem e194_29 {I : Nat → Int → Int} {b : Bool} {S : Nat} {a1 a2 t0 : Int} : zX 194 29 [vR 87, vI a1, vI a2, none] [vI t0] (I, zRs b, 103, S) = if t0 = 0 then some (some (vI (-1)), (I, zRs b, 103, S)) else if 0 ≤ (wr ((wr (13 + a1)) - 6)) ∧ (wr ((wr (13 + a1)) - 6)) < 392 then (zrun 160 [vR 87, vI 1] (I, zRs b, 103, S)).bind (fun q => zX 194 52 [vR 87, vI a1, vI a2, vI (I 93 (wr ((wr (13 + a1)) - 6)))] (zpush q.1 []) q.2) else none := (xIfNe (t := 34) d194_29 rfl).trans (ziteC ((xIconst d194_32).trans (xIret d194_33 zret_194)) ((xAload_n d194_34 rfl).trans ((xGetR 6 93 d194_35 zo_194 zfl_11_25 rfl rfl rfl (Or.inl (Nat.le_of_ble_eq_true rfl))).trans ((xBipush d194_38).trans ((xIload_n d194_40 rfl).trans ((xIadd d194_41).trans ((xBipush d194_42).trans ((xIsub d194_44).trans ((xIald (N := 392) (I 93 (wr ((wr (13 + a1)) - 6))) rfl d194_45 rfl (Or.inl (Nat.le_of_ble_eq_true rfl)) rfl).trans (ziteC ((xIstore_n d194_46 rfl rfl).trans ((xAload_n d194_47 rfl).trans ((xIconst d194_48).trans (xInvV [vR 87, vI 1] [] d194_49 zo_194 zml_11_205 rfl rfl rfl (Or.inl ⟨rfl, (Nat.le_of_ble_eq_true rfl)⟩))))) rfl))))))))))
theorem e194_52 {I : Nat → Int → Int} {b : Bool} {S : Nat} {a1 a2 a3 : Int} : zX 194 52 [vR 87, vI a1, vI a2, vI a3] [] (I, zRs b, 103, S) = if 0 ≤ (wr ((wr (13 + a1)) - 6)) ∧ (wr ((wr (13 + a1)) - 6)) < 392 then zX 194 65 [vR 87, vI a1, vI a2, vI a3] [] ((sI I 99 (wr ((wr (13 + a1)) - 6)) a2), zRs b, 103, S) else none := (xAload_n d194_52 rfl).trans ((xGetR 20 99 d194_53 zo_194 zfl_11_44 rfl rfl rfl (Or.inl (Nat.le_of_ble_eq_true rfl))).trans ((xBipush d194_56).trans ((xIload_n d194_58 rfl).trans ((xIadd d194_59).trans ((xBipush d194_60).trans ((xIsub d194_62).trans ((xIload_n d194_63 rfl).trans ((xIast (N := 392) d194_64 rfl (Nat.le_of_ble_eq_true rfl) rfl).trans (ziteC rfl rfl)))))))))
theorem e194_65 {I : Nat → Int → Int} {b : Bool} {S : Nat} {a1 a2 a3 : Int} : zX 194 65 [vR 87, vI a1, vI a2, vI a3] [] (I, zRs b, 103, S) = if (I 99 7) ≤ (I 99 15) then (zrun 161 [vR 87] (I, zRs b, 103, S)).bind (fun q => zX 194 94 [vR 87, vI a1, vI a2, vI a3] (zpush q.1 []) q.2) else (zrun 171 [vR 87, vI 0] (I, zRs b, 103, S)).bind (fun q => zX 194 87 [vR 87, vI a1, vI a2, vI a3] (zpush q.1 []) q.2) := (xAload_n d194_65 rfl).trans ((xGetR 20 99 d194_66 zo_194 zfl_11_44 rfl rfl rfl (Or.inl (Nat.le_of_ble_eq_true rfl))).trans ((xBipush d194_69).trans ((xIald (N := 392) (I 99 7) rfl d194_71 rfl (Or.inl (Nat.le_of_ble_eq_true rfl)) rfl).trans ((if_pos (by decide)).trans ((xAload_n d194_72 rfl).trans ((xGetR 20 99 d194_73 zo_194 zfl_11_44 rfl rfl rfl (Or.inl (Nat.le_of_ble_eq_true rfl))).trans ((xBipush d194_76).trans ((xIald (N := 392) (I 99 15) rfl d194_78 rfl (Or.inl (Nat.le_of_ble_eq_true rfl)) rfl).trans ((if_pos (by decide)).trans ((xIcmpLe (t := 90) d194_79 rfl).trans (ziteC ((xAload_n d194_90 rfl).trans (xInvV [vR 87] [] d194_91 zo_194 zml_11_212 rfl rfl rfl (Or.inl ⟨rfl, (Nat.le_of_ble_eq_true rfl)⟩))) ((xAload_n d194_82 rfl).trans ((xIconst d194_83).trans (xInvV [vR 87, vI 0] [] d194_84 zo_194 zml_11_218 rfl rfl rfl (Or.inl ⟨rfl, (Nat.le_of_ble_eq_true rfl)⟩)))))))))))))))
theorem e194_87 {I : Nat → Int → Int} {b : Bool} {S : Nat} {a1 a2 a3 : Int} : zX 194 87 [vR 87, vI a1, vI a2, vI a3] [] (I, zRs b, 103, S) = zX 194 65 [vR 87, vI a1, vI a2, vI a3] [] (I, zRs b, 103, S) := xGoto (t := 65) d194_87 rfl
theorem e194_94 {I : Nat → Int → Int} {b : Bool} {S : Nat} {a1 a2 a3 : Int} : zX 194 94 [vR 87, vI a1, vI a2, vI a3] [] (I, zRs b, 103, S) = some (some (vI a3), (I, zRs b, 103, S)) := (xIload_n d194_94 rfl).trans (xIret d194_95 zret_194)
