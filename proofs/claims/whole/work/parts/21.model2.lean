theorem zo_153 : zo 153 = 11 := by decide +kernel
theorem zret_153 : zret 153 = some .int := by decide +kernel
theorem d153_0 : decode (zb 153) 0 = .ok (.iconst 0, 1) := by decide +kernel
theorem d153_1 : decode (zb 153) 1 = .ok (.istore_n 1, 1) := by decide +kernel
theorem d153_2 : decode (zb 153) 2 = .ok (.iconst 0, 1) := by decide +kernel
theorem d153_3 : decode (zb 153) 3 = .ok (.istore_n 2, 1) := by decide +kernel
theorem d153_4 : decode (zb 153) 4 = .ok (.iload_n 2, 1) := by decide +kernel
theorem d153_5 : decode (zb 153) 5 = .ok (.aload_n 0, 1) := by decide +kernel
theorem d153_6 : decode (zb 153) 6 = .ok (.getfield 7, 3) := by decide +kernel
theorem d153_9 : decode (zb 153) 9 = .ok (.iconst 0, 1) := by decide +kernel
theorem d153_10 : decode (zb 153) 10 = .ok (.iaload, 1) := by decide +kernel
theorem d153_11 : decode (zb 153) 11 = .ok (.if_icmp .ge 29, 3) := by decide +kernel
theorem d153_14 : decode (zb 153) 14 = .ok (.iload_n 1, 1) := by decide +kernel
theorem d153_15 : decode (zb 153) 15 = .ok (.aload_n 0, 1) := by decide +kernel
theorem d153_16 : decode (zb 153) 16 = .ok (.getfield 22, 3) := by decide +kernel
theorem d153_19 : decode (zb 153) 19 = .ok (.iload_n 2, 1) := by decide +kernel
theorem d153_20 : decode (zb 153) 20 = .ok (.iaload, 1) := by decide +kernel
theorem d153_21 : decode (zb 153) 21 = .ok (.ifCond .ne 7, 3) := by decide +kernel
theorem d153_24 : decode (zb 153) 24 = .ok (.iconst 1, 1) := by decide +kernel
theorem d153_25 : decode (zb 153) 25 = .ok (.goto 4, 3) := by decide +kernel
theorem d153_28 : decode (zb 153) 28 = .ok (.iconst 0, 1) := by decide +kernel
theorem d153_29 : decode (zb 153) 29 = .ok (.invokestatic 177, 3) := by decide +kernel
theorem d153_32 : decode (zb 153) 32 = .ok (.iadd, 1) := by decide +kernel
theorem d153_33 : decode (zb 153) 33 = .ok (.istore_n 1, 1) := by decide +kernel
theorem d153_34 : decode (zb 153) 34 = .ok (.iinc 2 1, 3) := by decide +kernel
theorem d153_37 : decode (zb 153) 37 = .ok (.goto (-33), 3) := by decide +kernel
theorem d153_40 : decode (zb 153) 40 = .ok (.iload_n 1, 1) := by decide +kernel
theorem d153_41 : decode (zb 153) 41 = .ok (.ireturn, 1) := by decide +kernel
theorem zo_154 : zo 154 = 11 := by decide +kernel
theorem zret_154 : zret 154 = some .int := by decide +kernel
theorem d154_0 : decode (zb 154) 0 = .ok (.iload_n 1, 1) := by decide +kernel
theorem d154_1 : decode (zb 154) 1 = .ok (.tableswitch 114 0 10 #[59, 66, 71, 76, 81, 88, 101, 101, 101, 101, 101], 59) := by decide +kernel
theorem d154_60 : decode (zb 154) 60 = .ok (.aload_n 0, 1) := by decide +kernel
theorem d154_61 : decode (zb 154) 61 = .ok (.getfield 7, 3) := by decide +kernel
theorem d154_64 : decode (zb 154) 64 = .ok (.iconst 0, 1) := by decide +kernel
theorem d154_65 : decode (zb 154) 65 = .ok (.iaload, 1) := by decide +kernel
theorem d154_66 : decode (zb 154) 66 = .ok (.ireturn, 1) := by decide +kernel
theorem d154_67 : decode (zb 154) 67 = .ok (.aload_n 0, 1) := by decide +kernel
theorem d154_68 : decode (zb 154) 68 = .ok (.getfield 162, 3) := by decide +kernel
theorem d154_71 : decode (zb 154) 71 = .ok (.ireturn, 1) := by decide +kernel
theorem d154_72 : decode (zb 154) 72 = .ok (.aload_n 0, 1) := by decide +kernel
theorem d154_73 : decode (zb 154) 73 = .ok (.invokevirtual 181, 3) := by decide +kernel
theorem d154_76 : decode (zb 154) 76 = .ok (.ireturn, 1) := by decide +kernel
theorem d154_77 : decode (zb 154) 77 = .ok (.aload_n 0, 1) := by decide +kernel
theorem d154_78 : decode (zb 154) 78 = .ok (.invokevirtual 184, 3) := by decide +kernel
theorem d154_81 : decode (zb 154) 81 = .ok (.ireturn, 1) := by decide +kernel
theorem d154_82 : decode (zb 154) 82 = .ok (.aload_n 0, 1) := by decide +kernel
theorem d154_83 : decode (zb 154) 83 = .ok (.getfield 7, 3) := by decide +kernel
theorem d154_86 : decode (zb 154) 86 = .ok (.iconst 1, 1) := by decide +kernel
theorem d154_87 : decode (zb 154) 87 = .ok (.iaload, 1) := by decide +kernel
theorem d154_88 : decode (zb 154) 88 = .ok (.ireturn, 1) := by decide +kernel
theorem d154_89 : decode (zb 154) 89 = .ok (.aload_n 0, 1) := by decide +kernel
theorem d154_90 : decode (zb 154) 90 = .ok (.getfield 162, 3) := by decide +kernel
theorem d154_93 : decode (zb 154) 93 = .ok (.bipush 8, 2) := by decide +kernel
theorem d154_95 : decode (zb 154) 95 = .ok (.iadd, 1) := by decide +kernel
theorem d154_96 : decode (zb 154) 96 = .ok (.iconst 1, 1) := by decide +kernel
theorem d154_97 : decode (zb 154) 97 = .ok (.isub, 1) := by decide +kernel
theorem d154_98 : decode (zb 154) 98 = .ok (.bipush 8, 2) := by decide +kernel
theorem d154_100 : decode (zb 154) 100 = .ok (.idiv, 1) := by decide +kernel
theorem d154_101 : decode (zb 154) 101 = .ok (.ireturn, 1) := by decide +kernel
theorem d154_102 : decode (zb 154) 102 = .ok (.aload_n 0, 1) := by decide +kernel
theorem d154_103 : decode (zb 154) 103 = .ok (.getfield 25, 3) := by decide +kernel
theorem d154_106 : decode (zb 154) 106 = .ok (.bipush 13, 2) := by decide +kernel
theorem d154_108 : decode (zb 154) 108 = .ok (.iload_n 1, 1) := by decide +kernel
theorem d154_109 : decode (zb 154) 109 = .ok (.iadd, 1) := by decide +kernel
theorem d154_110 : decode (zb 154) 110 = .ok (.bipush 6, 2) := by decide +kernel
theorem d154_112 : decode (zb 154) 112 = .ok (.isub, 1) := by decide +kernel
theorem d154_113 : decode (zb 154) 113 = .ok (.iaload, 1) := by decide +kernel
theorem d154_114 : decode (zb 154) 114 = .ok (.ireturn, 1) := by decide +kernel
theorem d154_115 : decode (zb 154) 115 = .ok (.iconst (-1), 1) := by decide +kernel
theorem d154_116 : decode (zb 154) 116 = .ok (.ireturn, 1) := by decide +kernel
theorem zo_155 : zo 155 = 11 := by decide +kernel
theorem zret_155 : zret 155 = some .int := by decide +kernel
theorem d155_0 : decode (zb 155) 0 = .ok (.iload_n 1, 1) := by decide +kernel
theorem d155_1 : decode (zb 155) 1 = .ok (.ifCond .ge 5, 3) := by decide +kernel
theorem d155_4 : decode (zb 155) 4 = .ok (.iconst (-1), 1) := by decide +kernel
theorem d155_5 : decode (zb 155) 5 = .ok (.ireturn, 1) := by decide +kernel
theorem d155_6 : decode (zb 155) 6 = .ok (.iload_n 1, 1) := by decide +kernel
theorem d155_7 : decode (zb 155) 7 = .ok (.aload_n 0, 1) := by decide +kernel
theorem d155_8 : decode (zb 155) 8 = .ok (.getfield 162, 3) := by decide +kernel
theorem d155_11 : decode (zb 155) 11 = .ok (.if_icmp .ge 12, 3) := by decide +kernel
theorem d155_14 : decode (zb 155) 14 = .ok (.aload_n 0, 1) := by decide +kernel
theorem d155_15 : decode (zb 155) 15 = .ok (.getfield 16, 3) := by decide +kernel
theorem d155_18 : decode (zb 155) 18 = .ok (.iload_n 1, 1) := by decide +kernel
theorem d155_19 : decode (zb 155) 19 = .ok (.iaload, 1) := by decide +kernel
theorem d155_20 : decode (zb 155) 20 = .ok (.goto 5, 3) := by decide +kernel
theorem d155_23 : decode (zb 155) 23 = .ok (.bipush (-4), 2) := by decide +kernel
theorem d155_25 : decode (zb 155) 25 = .ok (.ireturn, 1) := by decide +kernel
theorem zo_156 : zo 156 = 11 := by decide +kernel
theorem zret_156 : zret 156 = some .int := by decide +kernel
theorem d156_0 : decode (zb 156) 0 = .ok (.iload_n 1, 1) := by decide +kernel
theorem d156_1 : decode (zb 156) 1 = .ok (.i2l, 1) := by decide +kernel
theorem d156_2 : decode (zb 156) 2 = .ok (.lconst 0, 1) := by decide +kernel
theorem d156_3 : decode (zb 156) 3 = .ok (.aload_n 0, 1) := by decide +kernel
theorem d156_4 : decode (zb 156) 4 = .ok (.getfield 7, 3) := by decide +kernel
theorem d156_7 : decode (zb 156) 7 = .ok (.iconst 0, 1) := by decide +kernel
theorem d156_8 : decode (zb 156) 8 = .ok (.iaload, 1) := by decide +kernel
theorem d156_9 : decode (zb 156) 9 = .ok (.iconst 1, 1) := by decide +kernel
theorem d156_10 : decode (zb 156) 10 = .ok (.isub, 1) := by decide +kernel
theorem d156_11 : decode (zb 156) 11 = .ok (.i2l, 1) := by decide +kernel
theorem d156_12 : decode (zb 156) 12 = .ok (.invokestatic 64, 3) := by decide +kernel
theorem d156_15 : decode (zb 156) 15 = .ok (.ifCond .ne 5, 3) := by decide +kernel
theorem d156_18 : decode (zb 156) 18 = .ok (.iconst (-1), 1) := by decide +kernel
theorem d156_19 : decode (zb 156) 19 = .ok (.ireturn, 1) := by decide +kernel
theorem d156_20 : decode (zb 156) 20 = .ok (.iload_n 2, 1) := by decide +kernel
theorem d156_21 : decode (zb 156) 21 = .ok (.tableswitch 47 0 2 #[27, 34, 40], 27) := by decide +kernel
theorem d156_48 : decode (zb 156) 48 = .ok (.aload_n 0, 1) := by decide +kernel
theorem d156_49 : decode (zb 156) 49 = .ok (.getfield 19, 3) := by decide +kernel
theorem d156_52 : decode (zb 156) 52 = .ok (.iload_n 1, 1) := by decide +kernel
theorem d156_53 : decode (zb 156) 53 = .ok (.iaload, 1) := by decide +kernel
theorem d156_54 : decode (zb 156) 54 = .ok (.ireturn, 1) := by decide +kernel
theorem d156_55 : decode (zb 156) 55 = .ok (.aload_n 0, 1) := by decide +kernel
theorem d156_56 : decode (zb 156) 56 = .ok (.iload_n 1, 1) := by decide +kernel
theorem d156_57 : decode (zb 156) 57 = .ok (.invokevirtual 168, 3) := by decide +kernel
theorem d156_60 : decode (zb 156) 60 = .ok (.ireturn, 1) := by decide +kernel
theorem d156_61 : decode (zb 156) 61 = .ok (.aload_n 0, 1) := by decide +kernel
theorem d156_62 : decode (zb 156) 62 = .ok (.getfield 22, 3) := by decide +kernel
theorem d156_65 : decode (zb 156) 65 = .ok (.iload_n 1, 1) := by decide +kernel
theorem d156_66 : decode (zb 156) 66 = .ok (.iaload, 1) := by decide +kernel
theorem d156_67 : decode (zb 156) 67 = .ok (.ireturn, 1) := by decide +kernel
theorem d156_68 : decode (zb 156) 68 = .ok (.iconst (-1), 1) := by decide +kernel
theorem d156_69 : decode (zb 156) 69 = .ok (.ireturn, 1) := by decide +kernel
theorem zo_157 : zo 157 = 11 := by decide +kernel
theorem zret_157 : zret 157 = some .boolean := by decide +kernel
theorem d157_0 : decode (zb 157) 0 = .ok (.iload_n 1, 1) := by decide +kernel
theorem d157_1 : decode (zb 157) 1 = .ok (.i2l, 1) := by decide +kernel
theorem d157_2 : decode (zb 157) 2 = .ok (.lconst 0, 1) := by decide +kernel
theorem d157_3 : decode (zb 157) 3 = .ok (.aload_n 0, 1) := by decide +kernel
theorem d157_4 : decode (zb 157) 4 = .ok (.getfield 7, 3) := by decide +kernel
theorem d157_7 : decode (zb 157) 7 = .ok (.iconst 1, 1) := by decide +kernel
theorem d157_8 : decode (zb 157) 8 = .ok (.iaload, 1) := by decide +kernel
theorem d157_9 : decode (zb 157) 9 = .ok (.iconst 1, 1) := by decide +kernel
theorem d157_10 : decode (zb 157) 10 = .ok (.isub, 1) := by decide +kernel
theorem d157_11 : decode (zb 157) 11 = .ok (.i2l, 1) := by decide +kernel
theorem d157_12 : decode (zb 157) 12 = .ok (.invokestatic 64, 3) := by decide +kernel
theorem d157_15 : decode (zb 157) 15 = .ok (.ireturn, 1) := by decide +kernel
theorem zo_158 : zo 158 = 11 := by decide +kernel
theorem zret_158 : zret 158 = some .int := by decide +kernel
theorem d158_0 : decode (zb 158) 0 = .ok (.aload_n 0, 1) := by decide +kernel
theorem d158_1 : decode (zb 158) 1 = .ok (.getfield 7, 3) := by decide +kernel
theorem d158_4 : decode (zb 158) 4 = .ok (.sipush 138, 3) := by decide +kernel
theorem d158_7 : decode (zb 158) 7 = .ok (.iconst 4, 1) := by decide +kernel
theorem d158_8 : decode (zb 158) 8 = .ok (.iload_n 1, 1) := by decide +kernel
theorem d158_9 : decode (zb 158) 9 = .ok (.imul, 1) := by decide +kernel
theorem d158_10 : decode (zb 158) 10 = .ok (.iadd, 1) := by decide +kernel
theorem d158_11 : decode (zb 158) 11 = .ok (.iload_n 2, 1) := by decide +kernel
theorem d158_12 : decode (zb 158) 12 = .ok (.iadd, 1) := by decide +kernel
theorem d158_13 : decode (zb 158) 13 = .ok (.iaload, 1) := by decide +kernel
theorem d158_14 : decode (zb 158) 14 = .ok (.ireturn, 1) := by decide +kernel
theorem zo_159 : zo 159 = 11 := by decide +kernel
theorem zret_159 : zret 159 = some .int := by decide +kernel
theorem d159_0 : decode (zb 159) 0 = .ok (.aload_n 0, 1) := by decide +kernel
theorem d159_1 : decode (zb 159) 1 = .ok (.iload_n 1, 1) := by decide +kernel
theorem d159_2 : decode (zb 159) 2 = .ok (.invokevirtual 187, 3) := by decide +kernel
theorem d159_5 : decode (zb 159) 5 = .ok (.ifCond .eq 24, 3) := by decide +kernel
theorem d159_8 : decode (zb 159) 8 = .ok (.iload_n 2, 1) := by decide +kernel
theorem d159_9 : decode (zb 159) 9 = .ok (.i2l, 1) := by decide +kernel
theorem d159_10 : decode (zb 159) 10 = .ok (.lconst 0, 1) := by decide +kernel
theorem d159_11 : decode (zb 159) 11 = .ok (.ldc2_w 190, 3) := by decide +kernel
theorem d159_14 : decode (zb 159) 14 = .ok (.invokestatic 64, 3) := by decide +kernel
theorem d159_17 : decode (zb 159) 17 = .ok (.ifCond .eq 12, 3) := by decide +kernel
theorem d159_20 : decode (zb 159) 20 = .ok (.aload_n 0, 1) := by decide +kernel
theorem d159_21 : decode (zb 159) 21 = .ok (.iload_n 1, 1) := by decide +kernel
theorem d159_22 : decode (zb 159) 22 = .ok (.iload_n 2, 1) := by decide +kernel
theorem d159_23 : decode (zb 159) 23 = .ok (.invokevirtual 192, 3) := by decide +kernel
theorem d159_26 : decode (zb 159) 26 = .ok (.goto 4, 3) := by decide +kernel
theorem d159_29 : decode (zb 159) 29 = .ok (.iconst (-1), 1) := by decide +kernel
theorem d159_30 : decode (zb 159) 30 = .ok (.ireturn, 1) := by decide +kernel
theorem zo_160 : zo 160 = 11 := by decide +kernel
theorem zret_160 : zret 160 = none := by decide +kernel
theorem d160_0 : decode (zb 160) 0 = .ok (.aload_n 0, 1) := by decide +kernel
theorem d160_1 : decode (zb 160) 1 = .ok (.iload_n 1, 1) := by decide +kernel
theorem d160_2 : decode (zb 160) 2 = .ok (.putfield 195, 3) := by decide +kernel
theorem d160_5 : decode (zb 160) 5 = .ok (.iconst 0, 1) := by decide +kernel
theorem d160_6 : decode (zb 160) 6 = .ok (.istore_n 2, 1) := by decide +kernel
theorem d160_7 : decode (zb 160) 7 = .ok (.iload_n 2, 1) := by decide +kernel
theorem d160_8 : decode (zb 160) 8 = .ok (.sipush 392, 3) := by decide +kernel
theorem d160_11 : decode (zb 160) 11 = .ok (.if_icmp .ge 21, 3) := by decide +kernel
theorem d160_14 : decode (zb 160) 14 = .ok (.aload_n 0, 1) := by decide +kernel
theorem d160_15 : decode (zb 160) 15 = .ok (.getfield 44, 3) := by decide +kernel
theorem d160_18 : decode (zb 160) 18 = .ok (.iload_n 2, 1) := by decide +kernel
theorem d160_19 : decode (zb 160) 19 = .ok (.aload_n 0, 1) := by decide +kernel
theorem d160_20 : decode (zb 160) 20 = .ok (.getfield 25, 3) := by decide +kernel
theorem d160_23 : decode (zb 160) 23 = .ok (.iload_n 2, 1) := by decide +kernel
theorem d160_24 : decode (zb 160) 24 = .ok (.iaload, 1) := by decide +kernel
theorem d160_25 : decode (zb 160) 25 = .ok (.iastore, 1) := by decide +kernel
theorem d160_26 : decode (zb 160) 26 = .ok (.iinc 2 1, 3) := by decide +kernel
theorem d160_29 : decode (zb 160) 29 = .ok (.goto (-22), 3) := by decide +kernel
theorem d160_32 : decode (zb 160) 32 = .ok (.return_, 1) := by decide +kernel
theorem zo_161 : zo 161 = 11 := by decide +kernel
theorem zret_161 : zret 161 = none := by decide +kernel
theorem d161_0 : decode (zb 161) 0 = .ok (.iconst 0, 1) := by decide +kernel
theorem d161_1 : decode (zb 161) 1 = .ok (.istore_n 1, 1) := by decide +kernel
theorem d161_2 : decode (zb 161) 2 = .ok (.iload_n 1, 1) := by decide +kernel
theorem d161_3 : decode (zb 161) 3 = .ok (.sipush 392, 3) := by decide +kernel
theorem d161_6 : decode (zb 161) 6 = .ok (.if_icmp .ge 21, 3) := by decide +kernel
theorem d161_9 : decode (zb 161) 9 = .ok (.aload_n 0, 1) := by decide +kernel
theorem d161_10 : decode (zb 161) 10 = .ok (.getfield 25, 3) := by decide +kernel
theorem d161_13 : decode (zb 161) 13 = .ok (.iload_n 1, 1) := by decide +kernel
theorem d161_14 : decode (zb 161) 14 = .ok (.aload_n 0, 1) := by decide +kernel
theorem d161_15 : decode (zb 161) 15 = .ok (.getfield 44, 3) := by decide +kernel
theorem d161_18 : decode (zb 161) 18 = .ok (.iload_n 1, 1) := by decide +kernel
theorem d161_19 : decode (zb 161) 19 = .ok (.iaload, 1) := by decide +kernel
theorem d161_20 : decode (zb 161) 20 = .ok (.iastore, 1) := by decide +kernel
theorem d161_21 : decode (zb 161) 21 = .ok (.iinc 1 1, 3) := by decide +kernel
theorem d161_24 : decode (zb 161) 24 = .ok (.goto (-22), 3) := by decide +kernel
theorem d161_27 : decode (zb 161) 27 = .ok (.return_, 1) := by decide +kernel
theorem zo_162 : zo 162 = 11 := by decide +kernel
theorem zret_162 : zret 162 = none := by decide +kernel
theorem d162_0 : decode (zb 162) 0 = .ok (.aload_n 0, 1) := by decide +kernel
theorem d162_1 : decode (zb 162) 1 = .ok (.getfield 195, 3) := by decide +kernel
theorem d162_4 : decode (zb 162) 4 = .ok (.ifCond .ne 4, 3) := by decide +kernel
theorem d162_7 : decode (zb 162) 7 = .ok (.return_, 1) := by decide +kernel
theorem d162_8 : decode (zb 162) 8 = .ok (.aload_n 0, 1) := by decide +kernel
theorem d162_9 : decode (zb 162) 9 = .ok (.getfield 44, 3) := by decide +kernel
theorem d162_12 : decode (zb 162) 12 = .ok (.bipush 6, 2) := by decide +kernel
theorem d162_14 : decode (zb 162) 14 = .ok (.iaload, 1) := by decide +kernel
theorem d162_15 : decode (zb 162) 15 = .ok (.bipush 40, 2) := by decide +kernel
theorem d162_17 : decode (zb 162) 17 = .ok (.if_icmp .lt 34, 3) := by decide +kernel
theorem d162_20 : decode (zb 162) 20 = .ok (.sipush 312, 3) := by decide +kernel
theorem d162_23 : decode (zb 162) 23 = .ok (.istore_n 2, 1) := by decide +kernel
theorem d162_24 : decode (zb 162) 24 = .ok (.iload_n 2, 1) := by decide +kernel
theorem d162_25 : decode (zb 162) 25 = .ok (.sipush 390, 3) := by decide +kernel
theorem d162_28 : decode (zb 162) 28 = .ok (.if_icmp .ge 23, 3) := by decide +kernel
theorem d162_31 : decode (zb 162) 31 = .ok (.aload_n 0, 1) := by decide +kernel
theorem d162_32 : decode (zb 162) 32 = .ok (.getfield 44, 3) := by decide +kernel
theorem d162_35 : decode (zb 162) 35 = .ok (.iload_n 2, 1) := by decide +kernel
theorem d162_36 : decode (zb 162) 36 = .ok (.aload_n 0, 1) := by decide +kernel
theorem d162_37 : decode (zb 162) 37 = .ok (.getfield 44, 3) := by decide +kernel
theorem d162_40 : decode (zb 162) 40 = .ok (.iload_n 2, 1) := by decide +kernel
theorem d162_41 : decode (zb 162) 41 = .ok (.iconst 2, 1) := by decide +kernel
theorem d162_42 : decode (zb 162) 42 = .ok (.iadd, 1) := by decide +kernel
theorem d162_43 : decode (zb 162) 43 = .ok (.iaload, 1) := by decide +kernel
theorem d162_44 : decode (zb 162) 44 = .ok (.iastore, 1) := by decide +kernel
theorem d162_45 : decode (zb 162) 45 = .ok (.iinc 2 1, 3) := by decide +kernel
theorem d162_48 : decode (zb 162) 48 = .ok (.goto (-24), 3) := by decide +kernel
theorem d162_51 : decode (zb 162) 51 = .ok (.aload_n 0, 1) := by decide +kernel
theorem d162_52 : decode (zb 162) 52 = .ok (.getfield 44, 3) := by decide +kernel
theorem d162_55 : decode (zb 162) 55 = .ok (.bipush 6, 2) := by decide +kernel
theorem d162_57 : decode (zb 162) 57 = .ok (.iaload, 1) := by decide +kernel
theorem d162_58 : decode (zb 162) 58 = .ok (.bipush 40, 2) := by decide +kernel
theorem d162_60 : decode (zb 162) 60 = .ok (.if_icmp .ge 13, 3) := by decide +kernel
theorem d162_63 : decode (zb 162) 63 = .ok (.aload_n 0, 1) := by decide +kernel
theorem d162_64 : decode (zb 162) 64 = .ok (.getfield 44, 3) := by decide +kernel
theorem d162_67 : decode (zb 162) 67 = .ok (.bipush 6, 2) := by decide +kernel
theorem d162_69 : decode (zb 162) 69 = .ok (.iaload, 1) := by decide +kernel
theorem d162_70 : decode (zb 162) 70 = .ok (.goto 5, 3) := by decide +kernel
theorem d162_73 : decode (zb 162) 73 = .ok (.bipush 39, 2) := by decide +kernel
theorem d162_75 : decode (zb 162) 75 = .ok (.istore_n 2, 1) := by decide +kernel
theorem d162_76 : decode (zb 162) 76 = .ok (.aload_n 0, 1) := by decide +kernel
theorem d162_77 : decode (zb 162) 77 = .ok (.getfield 44, 3) := by decide +kernel
theorem d162_80 : decode (zb 162) 80 = .ok (.sipush 312, 3) := by decide +kernel
theorem d162_83 : decode (zb 162) 83 = .ok (.iconst 2, 1) := by decide +kernel
theorem d162_84 : decode (zb 162) 84 = .ok (.iload_n 2, 1) := by decide +kernel
theorem d162_85 : decode (zb 162) 85 = .ok (.imul, 1) := by decide +kernel
theorem d162_86 : decode (zb 162) 86 = .ok (.iadd, 1) := by decide +kernel
theorem d162_87 : decode (zb 162) 87 = .ok (.iload_n 1, 1) := by decide +kernel
theorem d162_88 : decode (zb 162) 88 = .ok (.iastore, 1) := by decide +kernel
theorem d162_89 : decode (zb 162) 89 = .ok (.aload_n 0, 1) := by decide +kernel
theorem d162_90 : decode (zb 162) 90 = .ok (.getfield 44, 3) := by decide +kernel
theorem d162_93 : decode (zb 162) 93 = .ok (.sipush 312, 3) := by decide +kernel
theorem d162_96 : decode (zb 162) 96 = .ok (.iconst 2, 1) := by decide +kernel
theorem d162_97 : decode (zb 162) 97 = .ok (.iload_n 2, 1) := by decide +kernel
theorem d162_98 : decode (zb 162) 98 = .ok (.imul, 1) := by decide +kernel
theorem d162_99 : decode (zb 162) 99 = .ok (.iadd, 1) := by decide +kernel
theorem d162_100 : decode (zb 162) 100 = .ok (.iconst 1, 1) := by decide +kernel
theorem d162_101 : decode (zb 162) 101 = .ok (.iadd, 1) := by decide +kernel
theorem d162_102 : decode (zb 162) 102 = .ok (.aload_n 0, 1) := by decide +kernel
theorem d162_103 : decode (zb 162) 103 = .ok (.getfield 44, 3) := by decide +kernel
theorem d162_106 : decode (zb 162) 106 = .ok (.iconst 2, 1) := by decide +kernel
theorem d162_107 : decode (zb 162) 107 = .ok (.iaload, 1) := by decide +kernel
theorem d162_108 : decode (zb 162) 108 = .ok (.iastore, 1) := by decide +kernel
theorem d162_109 : decode (zb 162) 109 = .ok (.aload_n 0, 1) := by decide +kernel
theorem d162_110 : decode (zb 162) 110 = .ok (.getfield 44, 3) := by decide +kernel
theorem d162_113 : decode (zb 162) 113 = .ok (.bipush 6, 2) := by decide +kernel
theorem d162_115 : decode (zb 162) 115 = .ok (.dup2, 1) := by decide +kernel
theorem d162_116 : decode (zb 162) 116 = .ok (.iaload, 1) := by decide +kernel
theorem d162_117 : decode (zb 162) 117 = .ok (.iconst 1, 1) := by decide +kernel
theorem d162_118 : decode (zb 162) 118 = .ok (.iadd, 1) := by decide +kernel
theorem d162_119 : decode (zb 162) 119 = .ok (.iastore, 1) := by decide +kernel
theorem d162_120 : decode (zb 162) 120 = .ok (.return_, 1) := by decide +kernel
theorem zo_163 : zo 163 = 11 := by decide +kernel
theorem zret_163 : zret 163 = some .int := by decide +kernel
theorem d163_0 : decode (zb 163) 0 = .ok (.aload_n 0, 1) := by decide +kernel
theorem d163_1 : decode (zb 163) 1 = .ok (.iload_n 1, 1) := by decide +kernel
theorem d163_2 : decode (zb 163) 2 = .ok (.iconst 2, 1) := by decide +kernel
theorem d163_3 : decode (zb 163) 3 = .ok (.invokevirtual 192, 3) := by decide +kernel
theorem d163_6 : decode (zb 163) 6 = .ok (.istore_n 2, 1) := by decide +kernel
theorem d163_7 : decode (zb 163) 7 = .ok (.aload_n 0, 1) := by decide +kernel
theorem d163_8 : decode (zb 163) 8 = .ok (.iload_n 2, 1) := by decide +kernel
theorem d163_9 : decode (zb 163) 9 = .ok (.iconst 0, 1) := by decide +kernel
theorem d163_10 : decode (zb 163) 10 = .ok (.invokevirtual 192, 3) := by decide +kernel
theorem d163_13 : decode (zb 163) 13 = .ok (.iconst 2, 1) := by decide +kernel
theorem d163_14 : decode (zb 163) 14 = .ok (.if_icmp .ne 44, 3) := by decide +kernel
theorem d163_17 : decode (zb 163) 17 = .ok (.aload_n 0, 1) := by decide +kernel
theorem d163_18 : decode (zb 163) 18 = .ok (.getfield 44, 3) := by decide +kernel
theorem d163_21 : decode (zb 163) 21 = .ok (.bipush 18, 2) := by decide +kernel
theorem d163_23 : decode (zb 163) 23 = .ok (.iload_n 2, 1) := by decide +kernel
theorem d163_24 : decode (zb 163) 24 = .ok (.iadd, 1) := by decide +kernel
theorem d163_25 : decode (zb 163) 25 = .ok (.dup2, 1) := by decide +kernel
theorem d163_26 : decode (zb 163) 26 = .ok (.iaload, 1) := by decide +kernel
theorem d163_27 : decode (zb 163) 27 = .ok (.iconst 1, 1) := by decide +kernel
theorem d163_28 : decode (zb 163) 28 = .ok (.iadd, 1) := by decide +kernel
theorem d163_29 : decode (zb 163) 29 = .ok (.iastore, 1) := by decide +kernel
theorem d163_30 : decode (zb 163) 30 = .ok (.aload_n 0, 1) := by decide +kernel
theorem d163_31 : decode (zb 163) 31 = .ok (.getfield 44, 3) := by decide +kernel
theorem d163_34 : decode (zb 163) 34 = .ok (.bipush 18, 2) := by decide +kernel
theorem d163_36 : decode (zb 163) 36 = .ok (.iload_n 2, 1) := by decide +kernel
theorem d163_37 : decode (zb 163) 37 = .ok (.iadd, 1) := by decide +kernel
theorem d163_38 : decode (zb 163) 38 = .ok (.iaload, 1) := by decide +kernel
theorem d163_39 : decode (zb 163) 39 = .ok (.aload_n 0, 1) := by decide +kernel
theorem d163_40 : decode (zb 163) 40 = .ok (.iload_n 2, 1) := by decide +kernel
theorem d163_41 : decode (zb 163) 41 = .ok (.iconst 1, 1) := by decide +kernel
theorem d163_42 : decode (zb 163) 42 = .ok (.invokevirtual 192, 3) := by decide +kernel
theorem d163_45 : decode (zb 163) 45 = .ok (.if_icmp .lt 9, 3) := by decide +kernel
theorem d163_48 : decode (zb 163) 48 = .ok (.iload_n 1, 1) := by decide +kernel
theorem d163_49 : decode (zb 163) 49 = .ok (.iconst 1, 1) := by decide +kernel
theorem d163_50 : decode (zb 163) 50 = .ok (.iadd, 1) := by decide +kernel
theorem d163_51 : decode (zb 163) 51 = .ok (.goto 6, 3) := by decide +kernel
theorem d163_54 : decode (zb 163) 54 = .ok (.iload_n 2, 1) := by decide +kernel
theorem d163_55 : decode (zb 163) 55 = .ok (.iconst 1, 1) := by decide +kernel
theorem d163_56 : decode (zb 163) 56 = .ok (.iadd, 1) := by decide +kernel
theorem d163_57 : decode (zb 163) 57 = .ok (.ireturn, 1) := by decide +kernel
theorem d163_58 : decode (zb 163) 58 = .ok (.bipush 9, 2) := by decide +kernel
theorem d163_60 : decode (zb 163) 60 = .ok (.aload_n 0, 1) := by decide +kernel
theorem d163_61 : decode (zb 163) 61 = .ok (.iload_n 2, 1) := by decide +kernel
theorem d163_62 : decode (zb 163) 62 = .ok (.iconst 1, 1) := by decide +kernel
theorem d163_63 : decode (zb 163) 63 = .ok (.invokevirtual 192, 3) := by decide +kernel
theorem d163_66 : decode (zb 163) 66 = .ok (.iadd, 1) := by decide +kernel
theorem d163_67 : decode (zb 163) 67 = .ok (.istore_n 3, 1) := by decide +kernel
theorem d163_68 : decode (zb 163) 68 = .ok (.aload_n 0, 1) := by decide +kernel
theorem d163_69 : decode (zb 163) 69 = .ok (.getfield 44, 3) := by decide +kernel
theorem d163_72 : decode (zb 163) 72 = .ok (.iload_n 3, 1) := by decide +kernel
theorem d163_73 : decode (zb 163) 73 = .ok (.iaload, 1) := by decide +kernel
theorem d163_74 : decode (zb 163) 74 = .ok (.iconst 1, 1) := by decide +kernel
theorem d163_75 : decode (zb 163) 75 = .ok (.if_icmp .ne 9, 3) := by decide +kernel
theorem d163_78 : decode (zb 163) 78 = .ok (.iload_n 1, 1) := by decide +kernel
theorem d163_79 : decode (zb 163) 79 = .ok (.iconst 1, 1) := by decide +kernel
theorem d163_80 : decode (zb 163) 80 = .ok (.iadd, 1) := by decide +kernel
theorem d163_81 : decode (zb 163) 81 = .ok (.goto 6, 3) := by decide +kernel
theorem d163_84 : decode (zb 163) 84 = .ok (.iload_n 2, 1) := by decide +kernel
theorem d163_85 : decode (zb 163) 85 = .ok (.iconst 1, 1) := by decide +kernel
theorem d163_86 : decode (zb 163) 86 = .ok (.iadd, 1) := by decide +kernel
theorem d163_87 : decode (zb 163) 87 = .ok (.istore 4, 2) := by decide +kernel
theorem d163_89 : decode (zb 163) 89 = .ok (.aload_n 0, 1) := by decide +kernel
theorem d163_90 : decode (zb 163) 90 = .ok (.getfield 44, 3) := by decide +kernel
theorem d163_93 : decode (zb 163) 93 = .ok (.iload_n 3, 1) := by decide +kernel
theorem d163_94 : decode (zb 163) 94 = .ok (.iconst 0, 1) := by decide +kernel
theorem d163_95 : decode (zb 163) 95 = .ok (.iastore, 1) := by decide +kernel
theorem d163_96 : decode (zb 163) 96 = .ok (.iload 4, 2) := by decide +kernel
theorem d163_98 : decode (zb 163) 98 = .ok (.ireturn, 1) := by decide +kernel
theorem zo_164 : zo 164 = 11 := by decide +kernel
theorem zret_164 : zret 164 = none := by decide +kernel
theorem d164_0 : decode (zb 164) 0 = .ok (.iload_n 1, 1) := by decide +kernel
theorem d164_1 : decode (zb 164) 1 = .ok (.istore_n 2, 1) := by decide +kernel
theorem d164_2 : decode (zb 164) 2 = .ok (.iload_n 2, 1) := by decide +kernel
theorem d164_3 : decode (zb 164) 3 = .ok (.aload_n 0, 1) := by decide +kernel
theorem d164_4 : decode (zb 164) 4 = .ok (.getfield 7, 3) := by decide +kernel
theorem d164_7 : decode (zb 164) 7 = .ok (.iconst 1, 1) := by decide +kernel
theorem d164_8 : decode (zb 164) 8 = .ok (.iaload, 1) := by decide +kernel
theorem d164_9 : decode (zb 164) 9 = .ok (.if_icmp .ge 69, 3) := by decide +kernel
theorem d164_12 : decode (zb 164) 12 = .ok (.aload_n 0, 1) := by decide +kernel
theorem d164_13 : decode (zb 164) 13 = .ok (.iload_n 2, 1) := by decide +kernel
theorem d164_14 : decode (zb 164) 14 = .ok (.iconst 0, 1) := by decide +kernel
theorem d164_15 : decode (zb 164) 15 = .ok (.invokevirtual 192, 3) := by decide +kernel
theorem d164_18 : decode (zb 164) 18 = .ok (.ifCond .eq 60, 3) := by decide +kernel
theorem d164_21 : decode (zb 164) 21 = .ok (.aload_n 0, 1) := by decide +kernel
theorem d164_22 : decode (zb 164) 22 = .ok (.iload_n 2, 1) := by decide +kernel
theorem d164_23 : decode (zb 164) 23 = .ok (.iconst 0, 1) := by decide +kernel
theorem d164_24 : decode (zb 164) 24 = .ok (.invokevirtual 192, 3) := by decide +kernel
theorem d164_27 : decode (zb 164) 27 = .ok (.istore_n 3, 1) := by decide +kernel
theorem d164_28 : decode (zb 164) 28 = .ok (.iload_n 3, 1) := by decide +kernel
theorem d164_29 : decode (zb 164) 29 = .ok (.iconst 1, 1) := by decide +kernel
theorem d164_30 : decode (zb 164) 30 = .ok (.if_icmp .ne 13, 3) := by decide +kernel
theorem d164_33 : decode (zb 164) 33 = .ok (.aload_n 0, 1) := by decide +kernel
theorem d164_34 : decode (zb 164) 34 = .ok (.aload_n 0, 1) := by decide +kernel
theorem d164_35 : decode (zb 164) 35 = .ok (.iload_n 2, 1) := by decide +kernel
theorem d164_36 : decode (zb 164) 36 = .ok (.iconst 1, 1) := by decide +kernel
theorem d164_37 : decode (zb 164) 37 = .ok (.invokevirtual 192, 3) := by decide +kernel
theorem d164_40 : decode (zb 164) 40 = .ok (.invokevirtual 199, 3) := by decide +kernel
theorem d164_43 : decode (zb 164) 43 = .ok (.iload_n 3, 1) := by decide +kernel
theorem d164_44 : decode (zb 164) 44 = .ok (.iconst 2, 1) := by decide +kernel
theorem d164_45 : decode (zb 164) 45 = .ok (.if_icmp .ne 13, 3) := by decide +kernel
theorem d164_48 : decode (zb 164) 48 = .ok (.aload_n 0, 1) := by decide +kernel
theorem d164_49 : decode (zb 164) 49 = .ok (.getfield 44, 3) := by decide +kernel
theorem d164_52 : decode (zb 164) 52 = .ok (.bipush 18, 2) := by decide +kernel
theorem d164_54 : decode (zb 164) 54 = .ok (.iload_n 2, 1) := by decide +kernel
theorem d164_55 : decode (zb 164) 55 = .ok (.iadd, 1) := by decide +kernel
theorem d164_56 : decode (zb 164) 56 = .ok (.iconst 0, 1) := by decide +kernel
theorem d164_57 : decode (zb 164) 57 = .ok (.iastore, 1) := by decide +kernel
theorem d164_58 : decode (zb 164) 58 = .ok (.iload_n 3, 1) := by decide +kernel
theorem d164_59 : decode (zb 164) 59 = .ok (.iconst 4, 1) := by decide +kernel
theorem d164_60 : decode (zb 164) 60 = .ok (.if_icmp .ne 11, 3) := by decide +kernel
theorem d164_63 : decode (zb 164) 63 = .ok (.aload_n 0, 1) := by decide +kernel
theorem d164_64 : decode (zb 164) 64 = .ok (.iload_n 2, 1) := by decide +kernel
theorem d164_65 : decode (zb 164) 65 = .ok (.invokevirtual 202, 3) := by decide +kernel
theorem d164_68 : decode (zb 164) 68 = .ok (.goto 6, 3) := by decide +kernel
theorem d164_71 : decode (zb 164) 71 = .ok (.iload_n 2, 1) := by decide +kernel
theorem d164_72 : decode (zb 164) 72 = .ok (.iconst 1, 1) := by decide +kernel
theorem d164_73 : decode (zb 164) 73 = .ok (.iadd, 1) := by decide +kernel
theorem d164_74 : decode (zb 164) 74 = .ok (.istore_n 2, 1) := by decide +kernel
theorem d164_75 : decode (zb 164) 75 = .ok (.goto (-73), 3) := by decide +kernel
theorem d164_78 : decode (zb 164) 78 = .ok (.aload_n 0, 1) := by decide +kernel
theorem d164_79 : decode (zb 164) 79 = .ok (.getfield 44, 3) := by decide +kernel
theorem d164_82 : decode (zb 164) 82 = .ok (.iconst 0, 1) := by decide +kernel
theorem d164_83 : decode (zb 164) 83 = .ok (.iload_n 2, 1) := by decide +kernel
theorem d164_84 : decode (zb 164) 84 = .ok (.aload_n 0, 1) := by decide +kernel
theorem d164_85 : decode (zb 164) 85 = .ok (.getfield 7, 3) := by decide +kernel
theorem d164_88 : decode (zb 164) 88 = .ok (.iconst 1, 1) := by decide +kernel
theorem d164_89 : decode (zb 164) 89 = .ok (.iaload, 1) := by decide +kernel
theorem d164_90 : decode (zb 164) 90 = .ok (.if_icmp .ge 7, 3) := by decide +kernel
theorem d164_93 : decode (zb 164) 93 = .ok (.iload_n 2, 1) := by decide +kernel
theorem d164_94 : decode (zb 164) 94 = .ok (.goto 5, 3) := by decide +kernel
theorem d164_97 : decode (zb 164) 97 = .ok (.bipush (-4), 2) := by decide +kernel
theorem d164_99 : decode (zb 164) 99 = .ok (.iastore, 1) := by decide +kernel
theorem d164_100 : decode (zb 164) 100 = .ok (.aload_n 0, 1) := by decide +kernel
theorem d164_101 : decode (zb 164) 101 = .ok (.getfield 44, 3) := by decide +kernel
theorem d164_104 : decode (zb 164) 104 = .ok (.iconst 0, 1) := by decide +kernel
theorem d164_105 : decode (zb 164) 105 = .ok (.iaload, 1) := by decide +kernel
theorem d164_106 : decode (zb 164) 106 = .ok (.bipush (-4), 2) := by decide +kernel
theorem d164_108 : decode (zb 164) 108 = .ok (.if_icmp .ne 10, 3) := by decide +kernel
theorem d164_111 : decode (zb 164) 111 = .ok (.aload_n 0, 1) := by decide +kernel
theorem d164_112 : decode (zb 164) 112 = .ok (.getfield 44, 3) := by decide +kernel
theorem d164_115 : decode (zb 164) 115 = .ok (.iconst 1, 1) := by decide +kernel
theorem d164_116 : decode (zb 164) 116 = .ok (.iconst 0, 1) := by decide +kernel
theorem d164_117 : decode (zb 164) 117 = .ok (.iastore, 1) := by decide +kernel
theorem d164_118 : decode (zb 164) 118 = .ok (.return_, 1) := by decide +kernel
theorem zo_165 : zo 165 = 11 := by decide +kernel
theorem zret_165 : zret 165 = none := by decide +kernel
theorem d165_0 : decode (zb 165) 0 = .ok (.aload_n 0, 1) := by decide +kernel
theorem d165_1 : decode (zb 165) 1 = .ok (.iconst 1, 1) := by decide +kernel
theorem d165_2 : decode (zb 165) 2 = .ok (.invokevirtual 205, 3) := by decide +kernel
theorem d165_5 : decode (zb 165) 5 = .ok (.iconst 0, 1) := by decide +kernel
theorem d165_6 : decode (zb 165) 6 = .ok (.istore_n 1, 1) := by decide +kernel
theorem d165_7 : decode (zb 165) 7 = .ok (.iload_n 1, 1) := by decide +kernel
theorem d165_8 : decode (zb 165) 8 = .ok (.sipush 392, 3) := by decide +kernel
theorem d165_11 : decode (zb 165) 11 = .ok (.if_icmp .ge 37, 3) := by decide +kernel
theorem d165_14 : decode (zb 165) 14 = .ok (.aload_n 0, 1) := by decide +kernel
theorem d165_15 : decode (zb 165) 15 = .ok (.getfield 44, 3) := by decide +kernel
theorem d165_18 : decode (zb 165) 18 = .ok (.iload_n 1, 1) := by decide +kernel
theorem d165_19 : decode (zb 165) 19 = .ok (.iload_n 1, 1) := by decide +kernel
theorem d165_20 : decode (zb 165) 20 = .ok (.bipush 13, 2) := by decide +kernel
theorem d165_22 : decode (zb 165) 22 = .ok (.if_icmp .lt 18, 3) := by decide +kernel
theorem d165_25 : decode (zb 165) 25 = .ok (.iload_n 1, 1) := by decide +kernel
theorem d165_26 : decode (zb 165) 26 = .ok (.bipush 18, 2) := by decide +kernel
theorem d165_28 : decode (zb 165) 28 = .ok (.if_icmp .ge 12, 3) := by decide +kernel
theorem d165_31 : decode (zb 165) 31 = .ok (.aload_n 0, 1) := by decide +kernel
theorem d165_32 : decode (zb 165) 32 = .ok (.getfield 44, 3) := by decide +kernel
theorem d165_35 : decode (zb 165) 35 = .ok (.iload_n 1, 1) := by decide +kernel
theorem d165_36 : decode (zb 165) 36 = .ok (.iaload, 1) := by decide +kernel
theorem d165_37 : decode (zb 165) 37 = .ok (.goto 4, 3) := by decide +kernel
theorem d165_40 : decode (zb 165) 40 = .ok (.iconst 0, 1) := by decide +kernel
theorem d165_41 : decode (zb 165) 41 = .ok (.iastore, 1) := by decide +kernel
theorem d165_42 : decode (zb 165) 42 = .ok (.iinc 1 1, 3) := by decide +kernel
theorem d165_45 : decode (zb 165) 45 = .ok (.goto (-38), 3) := by decide +kernel
theorem d165_48 : decode (zb 165) 48 = .ok (.aload_n 0, 1) := by decide +kernel
theorem d165_49 : decode (zb 165) 49 = .ok (.iconst 0, 1) := by decide +kernel
theorem d165_50 : decode (zb 165) 50 = .ok (.invokevirtual 209, 3) := by decide +kernel
theorem d165_53 : decode (zb 165) 53 = .ok (.aload_n 0, 1) := by decide +kernel
theorem d165_54 : decode (zb 165) 54 = .ok (.invokevirtual 212, 3) := by decide +kernel
theorem d165_57 : decode (zb 165) 57 = .ok (.return_, 1) := by decide +kernel
theorem zo_166 : zo 166 = 11 := by decide +kernel
theorem zret_166 : zret 166 = some .int := by decide +kernel
theorem d166_0 : decode (zb 166) 0 = .ok (.aload_n 0, 1) := by decide +kernel
theorem d166_1 : decode (zb 166) 1 = .ok (.aload_n 0, 1) := by decide +kernel
theorem d166_2 : decode (zb 166) 2 = .ok (.getfield 44, 3) := by decide +kernel
theorem d166_5 : decode (zb 166) 5 = .ok (.iconst 0, 1) := by decide +kernel
theorem d166_6 : decode (zb 166) 6 = .ok (.iaload, 1) := by decide +kernel
theorem d166_7 : decode (zb 166) 7 = .ok (.iconst 1, 1) := by decide +kernel
theorem d166_8 : decode (zb 166) 8 = .ok (.invokevirtual 192, 3) := by decide +kernel
theorem d166_11 : decode (zb 166) 11 = .ok (.ireturn, 1) := by decide +kernel
theorem run153 {h : zH} : zrun 153 [vR 87] h = zX 153 0 [vR 87, none, none] [] h := rfl
theorem e153_0 {I : Nat → Int → Int} {b : Bool} {S : Nat} : zX 153 0 [vR 87, none, none] [] (I, zRs b, 103, S) = zX 153 4 [vR 87, vI 0, vI 0] [] (I, zRs b, 103, S) := (xIconst d153_0).trans ((xIstore_n d153_1 rfl rfl).trans ((xIconst d153_2).trans (xIstore_n d153_3 rfl rfl)))
theorem e153_4 {I : Nat → Int → Int} {b : Bool} {S : Nat} {a1 a2 : Int} : zX 153 4 [vR 87, vI a1, vI a2] [] (I, zRs b, 103, S) = if (I 88 0) ≤ a2 then some (some (vI a1), (I, zRs b, 103, S)) else if 0 ≤ a2 ∧ a2 < 8 then if (I 92 a2) = 0 then (zrun 126 [vI 1] (I, zRs b, 103, S)).bind (fun q => zX 153 32 [vR 87, vI a1, vI a2] (zpush q.1 [vI a1]) q.2) else (zrun 126 [vI 0] (I, zRs b, 103, S)).bind (fun q => zX 153 32 [vR 87, vI a1, vI a2] (zpush q.1 [vI a1]) q.2) else none := (xIload_n d153_4 rfl).trans ((xAload_n d153_5 rfl).trans ((xGetR 0 88 d153_6 zo_153 zfl_11_7 rfl rfl rfl (Or.inl (Nat.le_of_ble_eq_true rfl))).trans ((xIconst d153_9).trans ((xIald (N := 234) (I 88 0) rfl d153_10 rfl (Or.inl (Nat.le_of_ble_eq_true rfl)) rfl).trans ((if_pos (by decide)).trans ((xIcmpGe (t := 40) d153_11 rfl).trans (ziteC ((xIload_n d153_40 rfl).trans (xIret d153_41 zret_153)) ((xIload_n d153_14 rfl).trans ((xAload_n d153_15 rfl).trans ((xGetR 5 92 d153_16 zo_153 zfl_11_22 rfl rfl rfl (Or.inl (Nat.le_of_ble_eq_true rfl))).trans ((xIload_n d153_19 rfl).trans ((xIald (N := 8) (I 92 a2) rfl d153_20 rfl (Or.inl (Nat.le_of_ble_eq_true rfl)) rfl).trans (ziteC ((xIfNe (t := 28) d153_21 rfl).trans (ziteC ((xIconst d153_24).trans ((xGoto (t := 29) d153_25 rfl).trans (xInvS [vI 1] [vI a1] d153_29 zo_153 zml_11_177 rfl rfl))) ((xIconst d153_28).trans (xInvS [vI 0] [vI a1] d153_29 zo_153 zml_11_177 rfl rfl)))) rfl)))))))))))))
theorem e153_32 {I : Nat → Int → Int} {b : Bool} {S : Nat} {a1 a2 t0 t1 : Int} : zX 153 32 [vR 87, vI a1, vI a2] [vI t1, vI t0] (I, zRs b, 103, S) = zX 153 4 [vR 87, vI (wr (t0 + t1)), vI (wr (a2 + 1))] [] (I, zRs b, 103, S) := (xIadd d153_32).trans ((xIstore_n d153_33 rfl rfl).trans ((xIinc d153_34 rfl rfl rfl).trans (xGoto (t := 4) d153_37 rfl)))
theorem run154 {h : zH} {x0 : Int} : zrun 154 [vR 87, vI x0] h = zX 154 0 [vR 87, vI x0] [] h := rfl
theorem e154_0 {I : Nat → Int → Int} {b : Bool} {S : Nat} {x0 : Int} : zX 154 0 [vR 87, vI x0] [] (I, zRs b, 103, S) = if x0 = 0 then some (some (vI (I 88 0)), (I, zRs b, 103, S)) else if x0 = 1 then some (some (vI (I 87 3)), (I, zRs b, 103, S)) else if x0 = 2 then (zrun 152 [vR 87] (I, zRs b, 103, S)).bind (fun q => zX 154 76 [vR 87, vI x0] (zpush q.1 []) q.2) else if x0 = 3 then (zrun 153 [vR 87] (I, zRs b, 103, S)).bind (fun q => zX 154 81 [vR 87, vI x0] (zpush q.1 []) q.2) else if x0 = 4 then some (some (vI (I 88 1)), (I, zRs b, 103, S)) else if x0 = 5 then some (some (vI (wr ((wr ((wr ((I 87 3) + 8)) - 1)).tdiv 8))), (I, zRs b, 103, S)) else if x0 = 6 then if 0 ≤ (wr ((wr (13 + x0)) - 6)) ∧ (wr ((wr (13 + x0)) - 6)) < 392 then some (some (vI (I 93 (wr ((wr (13 + x0)) - 6)))), (I, zRs b, 103, S)) else none else if x0 = 7 then if 0 ≤ (wr ((wr (13 + x0)) - 6)) ∧ (wr ((wr (13 + x0)) - 6)) < 392 then some (some (vI (I 93 (wr ((wr (13 + x0)) - 6)))), (I, zRs b, 103, S)) else none else if x0 = 8 then if 0 ≤ (wr ((wr (13 + x0)) - 6)) ∧ (wr ((wr (13 + x0)) - 6)) < 392 then some (some (vI (I 93 (wr ((wr (13 + x0)) - 6)))), (I, zRs b, 103, S)) else none else if x0 = 9 then if 0 ≤ (wr ((wr (13 + x0)) - 6)) ∧ (wr ((wr (13 + x0)) - 6)) < 392 then some (some (vI (I 93 (wr ((wr (13 + x0)) - 6)))), (I, zRs b, 103, S)) else none else if x0 = 10 then if 0 ≤ (wr ((wr (13 + x0)) - 6)) ∧ (wr ((wr (13 + x0)) - 6)) < 392 then some (some (vI (I 93 (wr ((wr (13 + x0)) - 6)))), (I, zRs b, 103, S)) else none else some (some (vI (-1)), (I, zRs b, 103, S)) := (xIload_n d154_0 rfl).trans ((xTab [(0, 60), (1, 67), (2, 72), (3, 77), (4, 82), (5, 89), (6, 102), (7, 102), (8, 102), (9, 102), (10, 102)] 115 d154_1 rfl).trans (ziteC ((xAload_n d154_60 rfl).trans ((xGetR 0 88 d154_61 zo_154 zfl_11_7 rfl rfl rfl (Or.inl (Nat.le_of_ble_eq_true rfl))).trans ((xIconst d154_64).trans ((xIald (N := 234) (I 88 0) rfl d154_65 rfl (Or.inl (Nat.le_of_ble_eq_true rfl)) rfl).trans ((if_pos (by decide)).trans (xIret d154_66 zret_154)))))) (ziteC ((xAload_n d154_67 rfl).trans ((xGetI 3 (I 87 3) rfl d154_68 zo_154 zfl_11_162 (by decide) rfl rfl (Or.inl (Nat.le_of_ble_eq_true rfl))).trans (xIret d154_71 zret_154))) (ziteC ((xAload_n d154_72 rfl).trans (xInvV [vR 87] [] d154_73 zo_154 zml_11_181 rfl rfl rfl (Or.inl ⟨rfl, (Nat.le_of_ble_eq_true rfl)⟩))) (ziteC ((xAload_n d154_77 rfl).trans (xInvV [vR 87] [] d154_78 zo_154 zml_11_184 rfl rfl rfl (Or.inl ⟨rfl, (Nat.le_of_ble_eq_true rfl)⟩))) (ziteC ((xAload_n d154_82 rfl).trans ((xGetR 0 88 d154_83 zo_154 zfl_11_7 rfl rfl rfl (Or.inl (Nat.le_of_ble_eq_true rfl))).trans ((xIconst d154_86).trans ((xIald (N := 234) (I 88 1) rfl d154_87 rfl (Or.inl (Nat.le_of_ble_eq_true rfl)) rfl).trans ((if_pos (by decide)).trans (xIret d154_88 zret_154)))))) (ziteC ((xAload_n d154_89 rfl).trans ((xGetI 3 (I 87 3) rfl d154_90 zo_154 zfl_11_162 (by decide) rfl rfl (Or.inl (Nat.le_of_ble_eq_true rfl))).trans ((xBipush d154_93).trans ((xIadd d154_95).trans ((xIconst d154_96).trans ((xIsub d154_97).trans ((xBipush d154_98).trans ((xIdiv d154_100 (by decide)).trans (xIret d154_101 zret_154))))))))) (ziteC ((xAload_n d154_102 rfl).trans ((xGetR 6 93 d154_103 zo_154 zfl_11_25 rfl rfl rfl (Or.inl (Nat.le_of_ble_eq_true rfl))).trans ((xBipush d154_106).trans ((xIload_n d154_108 rfl).trans ((xIadd d154_109).trans ((xBipush d154_110).trans ((xIsub d154_112).trans ((xIald (N := 392) (I 93 (wr ((wr (13 + x0)) - 6))) rfl d154_113 rfl (Or.inl (Nat.le_of_ble_eq_true rfl)) rfl).trans (ziteC (xIret d154_114 zret_154) rfl))))))))) (ziteC ((xAload_n d154_102 rfl).trans ((xGetR 6 93 d154_103 zo_154 zfl_11_25 rfl rfl rfl (Or.inl (Nat.le_of_ble_eq_true rfl))).trans ((xBipush d154_106).trans ((xIload_n d154_108 rfl).trans ((xIadd d154_109).trans ((xBipush d154_110).trans ((xIsub d154_112).trans ((xIald (N := 392) (I 93 (wr ((wr (13 + x0)) - 6))) rfl d154_113 rfl (Or.inl (Nat.le_of_ble_eq_true rfl)) rfl).trans (ziteC (xIret d154_114 zret_154) rfl))))))))) (ziteC ((xAload_n d154_102 rfl).trans ((xGetR 6 93 d154_103 zo_154 zfl_11_25 rfl rfl rfl (Or.inl (Nat.le_of_ble_eq_true rfl))).trans ((xBipush d154_106).trans ((xIload_n d154_108 rfl).trans ((xIadd d154_109).trans ((xBipush d154_110).trans ((xIsub d154_112).trans ((xIald (N := 392) (I 93 (wr ((wr (13 + x0)) - 6))) rfl d154_113 rfl (Or.inl (Nat.le_of_ble_eq_true rfl)) rfl).trans (ziteC (xIret d154_114 zret_154) rfl))))))))) (ziteC ((xAload_n d154_102 rfl).trans ((xGetR 6 93 d154_103 zo_154 zfl_11_25 rfl rfl rfl (Or.inl (Nat.le_of_ble_eq_true rfl))).trans ((xBipush d154_106).trans ((xIload_n d154_108 rfl).trans ((xIadd d154_109).trans ((xBipush d154_110).trans ((xIsub d154_112).trans ((xIald (N := 392) (I 93 (wr ((wr (13 + x0)) - 6))) rfl d154_113 rfl (Or.inl (Nat.le_of_ble_eq_true rfl)) rfl).trans (ziteC (xIret d154_114 zret_154) rfl))))))))) (ziteC ((xAload_n d154_102 rfl).trans ((xGetR 6 93 d154_103 zo_154 zfl_11_25 rfl rfl rfl (Or.inl (Nat.le_of_ble_eq_true rfl))).trans ((xBipush d154_106).trans ((xIload_n d154_108 rfl).trans ((xIadd d154_109).trans ((xBipush d154_110).trans ((xIsub d154_112).trans ((xIald (N := 392) (I 93 (wr ((wr (13 + x0)) - 6))) rfl d154_113 rfl (Or.inl (Nat.le_of_ble_eq_true rfl)) rfl).trans (ziteC (xIret d154_114 zret_154) rfl))))))))) ((xIconst d154_115).trans (xIret d154_116 zret_154))))))))))))))
theorem e154_76 {I : Nat → Int → Int} {b : Bool} {S : Nat} {a1 t0 : Int} : zX 154 76 [vR 87, vI a1] [vI t0] (I, zRs b, 103, S) = some (some (vI t0), (I, zRs b, 103, S)) := xIret d154_76 zret_154
theorem e154_81 {I : Nat → Int → Int} {b : Bool} {S : Nat} {a1 t0 : Int} : zX 154 81 [vR 87, vI a1] [vI t0] (I, zRs b, 103, S) = some (some (vI t0), (I, zRs b, 103, S)) := xIret d154_81 zret_154
theorem run155 {h : zH} {x0 : Int} : zrun 155 [vR 87, vI x0] h = zX 155 0 [vR 87, vI x0] [] h := rfl
theorem e155_0 {I : Nat → Int → Int} {b : Bool} {S : Nat} {x0 : Int} : zX 155 0 [vR 87, vI x0] [] (I, zRs b, 103, S) = if 0 ≤ x0 then if (I 87 3) ≤ x0 then some (some (vI (-4)), (I, zRs b, 103, S)) else if 0 ≤ x0 ∧ x0 < 128 then some (some (vI (I 90 x0)), (I, zRs b, 103, S)) else none else some (some (vI (-1)), (I, zRs b, 103, S)) := (xIload_n d155_0 rfl).trans ((xIfGe (t := 6) d155_1 rfl).trans (ziteC ((xIload_n d155_6 rfl).trans ((xAload_n d155_7 rfl).trans ((xGetI 3 (I 87 3) rfl d155_8 zo_155 zfl_11_162 (by decide) rfl rfl (Or.inl (Nat.le_of_ble_eq_true rfl))).trans ((xIcmpGe (t := 23) d155_11 rfl).trans (ziteC ((xBipush d155_23).trans (xIret d155_25 zret_155)) ((xAload_n d155_14 rfl).trans ((xGetR 2 90 d155_15 zo_155 zfl_11_16 rfl rfl rfl (Or.inl (Nat.le_of_ble_eq_true rfl))).trans ((xIload_n d155_18 rfl).trans ((xIald (N := 128) (I 90 x0) rfl d155_19 rfl (Or.inl (Nat.le_of_ble_eq_true rfl)) rfl).trans (ziteC ((xGoto (t := 25) d155_20 rfl).trans (xIret d155_25 zret_155)) rfl)))))))))) ((xIconst d155_4).trans (xIret d155_5 zret_155))))
theorem run156 {h : zH} {x0 x1 : Int} : zrun 156 [vR 87, vI x0, vI x1] h = zX 156 0 [vR 87, vI x0, vI x1] [] h := rfl
theorem e156_0 {I : Nat → Int → Int} {b : Bool} {S : Nat} {x0 x1 : Int} : zX 156 0 [vR 87, vI x0, vI x1] [] (I, zRs b, 103, S) = (zrun 125 [vL x0, vL 0, vL (wr ((I 88 0) - 1))] (I, zRs b, 103, S)).bind (fun q => zX 156 15 [vR 87, vI x0, vI x1] (zpush q.1 []) q.2) := (xIload_n d156_0 rfl).trans ((xI2l d156_1).trans ((xLconst d156_2).trans ((xAload_n d156_3 rfl).trans ((xGetR 0 88 d156_4 zo_156 zfl_11_7 rfl rfl rfl (Or.inl (Nat.le_of_ble_eq_true rfl))).trans ((xIconst d156_7).trans ((xIald (N := 234) (I 88 0) rfl d156_8 rfl (Or.inl (Nat.le_of_ble_eq_true rfl)) rfl).trans ((if_pos (by decide)).trans ((xIconst d156_9).trans ((xIsub d156_10).trans ((xI2l d156_11).trans (xInvS [vL x0, vL 0, vL (wr ((I 88 0) - 1))] [] d156_12 zo_156 zml_11_64 rfl rfl)))))))))))
theorem e156_15 {I : Nat → Int → Int} {b : Bool} {S : Nat} {a1 a2 t0 : Int} : zX 156 15 [vR 87, vI a1, vI a2] [vI t0] (I, zRs b, 103, S) = if t0 = 0 then some (some (vI (-1)), (I, zRs b, 103, S)) else if a2 = 0 then if 0 ≤ a1 ∧ a1 < 8 then some (some (vI (I 91 a1)), (I, zRs b, 103, S)) else none else if a2 = 1 then (zrun 148 [vR 87, vI a1] (I, zRs b, 103, S)).bind (fun q => zX 156 60 [vR 87, vI a1, vI a2] (zpush q.1 []) q.2) else if a2 = 2 then if 0 ≤ a1 ∧ a1 < 8 then some (some (vI (I 92 a1)), (I, zRs b, 103, S)) else none else some (some (vI (-1)), (I, zRs b, 103, S)) := (xIfNe (t := 20) d156_15 rfl).trans (ziteC ((xIconst d156_18).trans (xIret d156_19 zret_156)) ((xIload_n d156_20 rfl).trans ((xTab [(0, 48), (1, 55), (2, 61)] 68 d156_21 rfl).trans (ziteC ((xAload_n d156_48 rfl).trans ((xGetR 4 91 d156_49 zo_156 zfl_11_19 rfl rfl rfl (Or.inl (Nat.le_of_ble_eq_true rfl))).trans ((xIload_n d156_52 rfl).trans ((xIald (N := 8) (I 91 a1) rfl d156_53 rfl (Or.inl (Nat.le_of_ble_eq_true rfl)) rfl).trans (ziteC (xIret d156_54 zret_156) rfl))))) (ziteC ((xAload_n d156_55 rfl).trans ((xIload_n d156_56 rfl).trans (xInvV [vR 87, vI a1] [] d156_57 zo_156 zml_11_168 rfl rfl rfl (Or.inl ⟨rfl, (Nat.le_of_ble_eq_true rfl)⟩)))) (ziteC ((xAload_n d156_61 rfl).trans ((xGetR 5 92 d156_62 zo_156 zfl_11_22 rfl rfl rfl (Or.inl (Nat.le_of_ble_eq_true rfl))).trans ((xIload_n d156_65 rfl).trans ((xIald (N := 8) (I 92 a1) rfl d156_66 rfl (Or.inl (Nat.le_of_ble_eq_true rfl)) rfl).trans (ziteC (xIret d156_67 zret_156) rfl))))) ((xIconst d156_68).trans (xIret d156_69 zret_156))))))))
theorem e156_60 {I : Nat → Int → Int} {b : Bool} {S : Nat} {a1 a2 t0 : Int} : zX 156 60 [vR 87, vI a1, vI a2] [vI t0] (I, zRs b, 103, S) = some (some (vI t0), (I, zRs b, 103, S)) := xIret d156_60 zret_156
theorem run157 {h : zH} {x0 : Int} : zrun 157 [vR 87, vI x0] h = zX 157 0 [vR 87, vI x0] [] h := rfl
theorem e157_0 {I : Nat → Int → Int} {b : Bool} {S : Nat} {x0 : Int} : zX 157 0 [vR 87, vI x0] [] (I, zRs b, 103, S) = (zrun 125 [vL x0, vL 0, vL (wr ((I 88 1) - 1))] (I, zRs b, 103, S)).bind (fun q => zX 157 15 [vR 87, vI x0] (zpush q.1 []) q.2) := (xIload_n d157_0 rfl).trans ((xI2l d157_1).trans ((xLconst d157_2).trans ((xAload_n d157_3 rfl).trans ((xGetR 0 88 d157_4 zo_157 zfl_11_7 rfl rfl rfl (Or.inl (Nat.le_of_ble_eq_true rfl))).trans ((xIconst d157_7).trans ((xIald (N := 234) (I 88 1) rfl d157_8 rfl (Or.inl (Nat.le_of_ble_eq_true rfl)) rfl).trans ((if_pos (by decide)).trans ((xIconst d157_9).trans ((xIsub d157_10).trans ((xI2l d157_11).trans (xInvS [vL x0, vL 0, vL (wr ((I 88 1) - 1))] [] d157_12 zo_157 zml_11_64 rfl rfl)))))))))))
theorem e157_15 {I : Nat → Int → Int} {b : Bool} {S : Nat} {a1 t0 : Int} : zX 157 15 [vR 87, vI a1] [vI t0] (I, zRs b, 103, S) = if t0 = 0 ∨ t0 = 1 then some (some (vI t0), (I, zRs b, 103, S)) else none := xZretG d157_15 zret_157
theorem run158 {h : zH} {x0 x1 : Int} : zrun 158 [vR 87, vI x0, vI x1] h = zX 158 0 [vR 87, vI x0, vI x1] [] h := rfl
theorem e158_0 {I : Nat → Int → Int} {b : Bool} {S : Nat} {x0 x1 : Int} : zX 158 0 [vR 87, vI x0, vI x1] [] (I, zRs b, 103, S) = if 0 ≤ (wr ((wr (138 + (wr (4 * x0)))) + x1)) ∧ (wr ((wr (138 + (wr (4 * x0)))) + x1)) < 234 then some (some (vI (I 88 (wr ((wr (138 + (wr (4 * x0)))) + x1)))), (I, zRs b, 103, S)) else none := (xAload_n d158_0 rfl).trans ((xGetR 0 88 d158_1 zo_158 zfl_11_7 rfl rfl rfl (Or.inl (Nat.le_of_ble_eq_true rfl))).trans ((xSipush d158_4).trans ((xIconst d158_7).trans ((xIload_n d158_8 rfl).trans ((xImul d158_9).trans ((xIadd d158_10).trans ((xIload_n d158_11 rfl).trans ((xIadd d158_12).trans ((xIald (N := 234) (I 88 (wr ((wr (138 + (wr (4 * x0)))) + x1))) rfl d158_13 rfl (Or.inl (Nat.le_of_ble_eq_true rfl)) rfl).trans (ziteC (xIret d158_14 zret_158) rfl))))))))))
theorem run159 {h : zH} {x0 x1 : Int} : zrun 159 [vR 87, vI x0, vI x1] h = zX 159 0 [vR 87, vI x0, vI x1] [] h := rfl
theorem e159_0 {I : Nat → Int → Int} {b : Bool} {S : Nat} {x0 x1 : Int} : zX 159 0 [vR 87, vI x0, vI x1] [] (I, zRs b, 103, S) = (zrun 157 [vR 87, vI x0] (I, zRs b, 103, S)).bind (fun q => zX 159 5 [vR 87, vI x0, vI x1] (zpush q.1 []) q.2) := (xAload_n d159_0 rfl).trans ((xIload_n d159_1 rfl).trans (xInvV [vR 87, vI x0] [] d159_2 zo_159 zml_11_187 rfl rfl rfl (Or.inl ⟨rfl, (Nat.le_of_ble_eq_true rfl)⟩)))
theorem e159_5 {I : Nat → Int → Int} {b : Bool} {S : Nat} {a1 a2 t0 : Int} : zX 159 5 [vR 87, vI a1, vI a2] [vI t0] (I, zRs b, 103, S) = if t0 = 0 then some (some (vI (-1)), (I, zRs b, 103, S)) else (zrun 125 [vL a2, vL 0, vL 3] (I, zRs b, 103, S)).bind (fun q => zX 159 17 [vR 87, vI a1, vI a2] (zpush q.1 []) q.2) := (xIfEq (t := 29) d159_5 rfl).trans (ziteC ((xIconst d159_29).trans (xIret d159_30 zret_159)) ((xIload_n d159_8 rfl).trans ((xI2l d159_9).trans ((xLconst d159_10).trans ((xLdc2 d159_11 zo_159 zcl_11_190 (by decide)).trans (xInvS [vL a2, vL 0, vL 3] [] d159_14 zo_159 zml_11_64 rfl rfl))))))
theorem e159_17 {I : Nat → Int → Int} {b : Bool} {S : Nat} {a1 a2 t0 : Int} : zX 159 17 [vR 87, vI a1, vI a2] [vI t0] (I, zRs b, 103, S) = if t0 = 0 then some (some (vI (-1)), (I, zRs b, 103, S)) else (zrun 158 [vR 87, vI a1, vI a2] (I, zRs b, 103, S)).bind (fun q => zX 159 26 [vR 87, vI a1, vI a2] (zpush q.1 []) q.2) := (xIfEq (t := 29) d159_17 rfl).trans (ziteC ((xIconst d159_29).trans (xIret d159_30 zret_159)) ((xAload_n d159_20 rfl).trans ((xIload_n d159_21 rfl).trans ((xIload_n d159_22 rfl).trans (xInvV [vR 87, vI a1, vI a2] [] d159_23 zo_159 zml_11_192 rfl rfl rfl (Or.inl ⟨rfl, (Nat.le_of_ble_eq_true rfl)⟩))))))
theorem e159_26 {I : Nat → Int → Int} {b : Bool} {S : Nat} {a1 a2 t0 : Int} : zX 159 26 [vR 87, vI a1, vI a2] [vI t0] (I, zRs b, 103, S) = some (some (vI t0), (I, zRs b, 103, S)) := (xGoto (t := 30) d159_26 rfl).trans (xIret d159_30 zret_159)
theorem run160 {h : zH} {x0 : Int} : zrun 160 [vR 87, vI x0] h = zX 160 0 [vR 87, vI x0, none] [] h := rfl
theorem e160_0 {I : Nat → Int → Int} {b : Bool} {S : Nat} {x0 : Int} : zX 160 0 [vR 87, vI x0, none] [] (I, zRs b, 103, S) = if x0 = 0 ∨ x0 = 1 then zX 160 7 [vR 87, vI x0, vI 0] [] ((sI I 87 21 x0), zRs b, 103, S) else none := (xAload_n d160_0 rfl).trans ((xIload_n d160_1 rfl).trans ((xPutZG 21 d160_2 zo_160 zfl_11_195 rfl rfl (Nat.le_of_ble_eq_true rfl) (Or.inl rfl)).trans (ziteC ((xIconst d160_5).trans (xIstore_n d160_6 rfl rfl)) rfl)))
theorem e160_7 {I : Nat → Int → Int} {b : Bool} {S : Nat} {a1 a2 : Int} : zX 160 7 [vR 87, vI a1, vI a2] [] (I, zRs b, 103, S) = if 392 ≤ a2 then some (none, (I, zRs b, 103, S)) else if 0 ≤ a2 ∧ a2 < 392 then if 0 ≤ a2 ∧ a2 < 392 then zX 160 7 [vR 87, vI a1, vI (wr (a2 + 1))] [] ((sI I 99 a2 (I 93 a2)), zRs b, 103, S) else none else none := (xIload_n d160_7 rfl).trans ((xSipush d160_8).trans ((xIcmpGe (t := 32) d160_11 rfl).trans (ziteC (xVret d160_32 zret_160) ((xAload_n d160_14 rfl).trans ((xGetR 20 99 d160_15 zo_160 zfl_11_44 rfl rfl rfl (Or.inl (Nat.le_of_ble_eq_true rfl))).trans ((xIload_n d160_18 rfl).trans ((xAload_n d160_19 rfl).trans ((xGetR 6 93 d160_20 zo_160 zfl_11_25 rfl rfl rfl (Or.inl (Nat.le_of_ble_eq_true rfl))).trans ((xIload_n d160_23 rfl).trans ((xIald (N := 392) (I 93 a2) rfl d160_24 rfl (Or.inl (Nat.le_of_ble_eq_true rfl)) rfl).trans (ziteC ((xIast (N := 392) d160_25 rfl (Nat.le_of_ble_eq_true rfl) rfl).trans (ziteC ((xIinc d160_26 rfl rfl rfl).trans (xGoto (t := 7) d160_29 rfl)) rfl)) rfl)))))))))))
theorem run161 {h : zH} : zrun 161 [vR 87] h = zX 161 0 [vR 87, none] [] h := rfl
theorem e161_0 {I : Nat → Int → Int} {b : Bool} {S : Nat} : zX 161 0 [vR 87, none] [] (I, zRs b, 103, S) = zX 161 2 [vR 87, vI 0] [] (I, zRs b, 103, S) := (xIconst d161_0).trans (xIstore_n d161_1 rfl rfl)
theorem e161_2 {I : Nat → Int → Int} {b : Bool} {S : Nat} {a1 : Int} : zX 161 2 [vR 87, vI a1] [] (I, zRs b, 103, S) = if 392 ≤ a1 then some (none, (I, zRs b, 103, S)) else if 0 ≤ a1 ∧ a1 < 392 then if 0 ≤ a1 ∧ a1 < 392 then zX 161 2 [vR 87, vI (wr (a1 + 1))] [] ((sI I 93 a1 (I 99 a1)), zRs b, 103, S) else none else none := (xIload_n d161_2 rfl).trans ((xSipush d161_3).trans ((xIcmpGe (t := 27) d161_6 rfl).trans (ziteC (xVret d161_27 zret_161) ((xAload_n d161_9 rfl).trans ((xGetR 6 93 d161_10 zo_161 zfl_11_25 rfl rfl rfl (Or.inl (Nat.le_of_ble_eq_true rfl))).trans ((xIload_n d161_13 rfl).trans ((xAload_n d161_14 rfl).trans ((xGetR 20 99 d161_15 zo_161 zfl_11_44 rfl rfl rfl (Or.inl (Nat.le_of_ble_eq_true rfl))).trans ((xIload_n d161_18 rfl).trans ((xIald (N := 392) (I 99 a1) rfl d161_19 rfl (Or.inl (Nat.le_of_ble_eq_true rfl)) rfl).trans (ziteC ((xIast (N := 392) d161_20 rfl (Nat.le_of_ble_eq_true rfl) rfl).trans (ziteC ((xIinc d161_21 rfl rfl rfl).trans (xGoto (t := 2) d161_24 rfl)) rfl)) rfl)))))))))))
theorem run162 {h : zH} {x0 : Int} : zrun 162 [vR 87, vI x0] h = zX 162 0 [vR 87, vI x0, none] [] h := rfl
theorem e162_0 {I : Nat → Int → Int} {b : Bool} {S : Nat} {x0 : Int} : zX 162 0 [vR 87, vI x0, none] [] (I, zRs b, 103, S) = if (I 87 21) = 0 then some (none, (I, zRs b, 103, S)) else if (I 99 6) < 40 then if 40 ≤ (I 99 6) then if 0 ≤ (wr (312 + (wr (2 * 39)))) ∧ (wr (312 + (wr (2 * 39)))) < 392 then if 0 ≤ (wr ((wr (312 + (wr (2 * 39)))) + 1)) ∧ (wr ((wr (312 + (wr (2 * 39)))) + 1)) < 392 then some (none, ((sI (sI (sI I 99 (wr (312 + (wr (2 * 39)))) x0) 99 (wr ((wr (312 + (wr (2 * 39)))) + 1)) ((sI I 99 (wr (312 + (wr (2 * 39)))) x0) 99 2)) 99 6 (wr (((sI (sI I 99 (wr (312 + (wr (2 * 39)))) x0) 99 (wr ((wr (312 + (wr (2 * 39)))) + 1)) ((sI I 99 (wr (312 + (wr (2 * 39)))) x0) 99 2)) 99 6) + 1))), zRs b, 103, S)) else none else none else if 0 ≤ (wr (312 + (wr (2 * (I 99 6))))) ∧ (wr (312 + (wr (2 * (I 99 6))))) < 392 then if 0 ≤ (wr ((wr (312 + (wr (2 * (I 99 6))))) + 1)) ∧ (wr ((wr (312 + (wr (2 * (I 99 6))))) + 1)) < 392 then some (none, ((sI (sI (sI I 99 (wr (312 + (wr (2 * (I 99 6))))) x0) 99 (wr ((wr (312 + (wr (2 * (I 99 6))))) + 1)) ((sI I 99 (wr (312 + (wr (2 * (I 99 6))))) x0) 99 2)) 99 6 (wr (((sI (sI I 99 (wr (312 + (wr (2 * (I 99 6))))) x0) 99 (wr ((wr (312 + (wr (2 * (I 99 6))))) + 1)) ((sI I 99 (wr (312 + (wr (2 * (I 99 6))))) x0) 99 2)) 99 6) + 1))), zRs b, 103, S)) else none else none else zX 162 24 [vR 87, vI x0, vI 312] [] (I, zRs b, 103, S) := (xAload_n d162_0 rfl).trans ((xGetI 21 (I 87 21) rfl d162_1 zo_162 zfl_11_195 (by decide) rfl rfl (Or.inl (Nat.le_of_ble_eq_true rfl))).trans ((xIfNe (t := 8) d162_4 rfl).trans (ziteC (xVret d162_7 zret_162) ((xAload_n d162_8 rfl).trans ((xGetR 20 99 d162_9 zo_162 zfl_11_44 rfl rfl rfl (Or.inl (Nat.le_of_ble_eq_true rfl))).trans ((xBipush d162_12).trans ((xIald (N := 392) (I 99 6) rfl d162_14 rfl (Or.inl (Nat.le_of_ble_eq_true rfl)) rfl).trans ((if_pos (by decide)).trans ((xBipush d162_15).trans ((xIcmpLt (t := 51) d162_17 rfl).trans (ziteC ((xAload_n d162_51 rfl).trans ((xGetR 20 99 d162_52 zo_162 zfl_11_44 rfl rfl rfl (Or.inl (Nat.le_of_ble_eq_true rfl))).trans ((xBipush d162_55).trans ((xIald (N := 392) (I 99 6) rfl d162_57 rfl (Or.inl (Nat.le_of_ble_eq_true rfl)) rfl).trans ((if_pos (by decide)).trans ((xBipush d162_58).trans ((xIcmpGe (t := 73) d162_60 rfl).trans (ziteC ((xBipush d162_73).trans ((xIstore_n d162_75 rfl rfl).trans ((xAload_n d162_76 rfl).trans ((xGetR 20 99 d162_77 zo_162 zfl_11_44 rfl rfl rfl (Or.inl (Nat.le_of_ble_eq_true rfl))).trans ((xSipush d162_80).trans ((xIconst d162_83).trans ((xIload_n d162_84 rfl).trans ((xImul d162_85).trans ((xIadd d162_86).trans ((xIload_n d162_87 rfl).trans ((xIast (N := 392) d162_88 rfl (Nat.le_of_ble_eq_true rfl) rfl).trans (ziteC ((xAload_n d162_89 rfl).trans ((xGetR 20 99 d162_90 zo_162 zfl_11_44 rfl rfl rfl (Or.inl (Nat.le_of_ble_eq_true rfl))).trans ((xSipush d162_93).trans ((xIconst d162_96).trans ((xIload_n d162_97 rfl).trans ((xImul d162_98).trans ((xIadd d162_99).trans ((xIconst d162_100).trans ((xIadd d162_101).trans ((xAload_n d162_102 rfl).trans ((xGetR 20 99 d162_103 zo_162 zfl_11_44 rfl rfl rfl (Or.inl (Nat.le_of_ble_eq_true rfl))).trans ((xIconst d162_106).trans ((xIald (N := 392) ((sI I 99 (wr (312 + (wr (2 * 39)))) x0) 99 2) rfl d162_107 rfl (Or.inl (Nat.le_of_ble_eq_true rfl)) rfl).trans ((if_pos (by decide)).trans ((xIast (N := 392) d162_108 rfl (Nat.le_of_ble_eq_true rfl) rfl).trans (ziteC ((xAload_n d162_109 rfl).trans ((xGetR 20 99 d162_110 zo_162 zfl_11_44 rfl rfl rfl (Or.inl (Nat.le_of_ble_eq_true rfl))).trans ((xBipush d162_113).trans ((xDup2 d162_115 rfl rfl).trans ((xIald (N := 392) ((sI (sI I 99 (wr (312 + (wr (2 * 39)))) x0) 99 (wr ((wr (312 + (wr (2 * 39)))) + 1)) ((sI I 99 (wr (312 + (wr (2 * 39)))) x0) 99 2)) 99 6) rfl d162_116 rfl (Or.inl (Nat.le_of_ble_eq_true rfl)) rfl).trans ((if_pos (by decide)).trans ((xIconst d162_117).trans ((xIadd d162_118).trans ((xIast (N := 392) d162_119 rfl (Nat.le_of_ble_eq_true rfl) rfl).trans ((if_pos (by decide)).trans (xVret d162_120 zret_162))))))))))) rfl)))))))))))))))) rfl)))))))))))) ((xAload_n d162_63 rfl).trans ((xGetR 20 99 d162_64 zo_162 zfl_11_44 rfl rfl rfl (Or.inl (Nat.le_of_ble_eq_true rfl))).trans ((xBipush d162_67).trans ((xIald (N := 392) (I 99 6) rfl d162_69 rfl (Or.inl (Nat.le_of_ble_eq_true rfl)) rfl).trans ((if_pos (by decide)).trans ((xGoto (t := 75) d162_70 rfl).trans ((xIstore_n d162_75 rfl rfl).trans ((xAload_n d162_76 rfl).trans ((xGetR 20 99 d162_77 zo_162 zfl_11_44 rfl rfl rfl (Or.inl (Nat.le_of_ble_eq_true rfl))).trans ((xSipush d162_80).trans ((xIconst d162_83).trans ((xIload_n d162_84 rfl).trans ((xImul d162_85).trans ((xIadd d162_86).trans ((xIload_n d162_87 rfl).trans ((xIast (N := 392) d162_88 rfl (Nat.le_of_ble_eq_true rfl) rfl).trans (ziteC ((xAload_n d162_89 rfl).trans ((xGetR 20 99 d162_90 zo_162 zfl_11_44 rfl rfl rfl (Or.inl (Nat.le_of_ble_eq_true rfl))).trans ((xSipush d162_93).trans ((xIconst d162_96).trans ((xIload_n d162_97 rfl).trans ((xImul d162_98).trans ((xIadd d162_99).trans ((xIconst d162_100).trans ((xIadd d162_101).trans ((xAload_n d162_102 rfl).trans ((xGetR 20 99 d162_103 zo_162 zfl_11_44 rfl rfl rfl (Or.inl (Nat.le_of_ble_eq_true rfl))).trans ((xIconst d162_106).trans ((xIald (N := 392) ((sI I 99 (wr (312 + (wr (2 * (I 99 6))))) x0) 99 2) rfl d162_107 rfl (Or.inl (Nat.le_of_ble_eq_true rfl)) rfl).trans ((if_pos (by decide)).trans ((xIast (N := 392) d162_108 rfl (Nat.le_of_ble_eq_true rfl) rfl).trans (ziteC ((xAload_n d162_109 rfl).trans ((xGetR 20 99 d162_110 zo_162 zfl_11_44 rfl rfl rfl (Or.inl (Nat.le_of_ble_eq_true rfl))).trans ((xBipush d162_113).trans ((xDup2 d162_115 rfl rfl).trans ((xIald (N := 392) ((sI (sI I 99 (wr (312 + (wr (2 * (I 99 6))))) x0) 99 (wr ((wr (312 + (wr (2 * (I 99 6))))) + 1)) ((sI I 99 (wr (312 + (wr (2 * (I 99 6))))) x0) 99 2)) 99 6) rfl d162_116 rfl (Or.inl (Nat.le_of_ble_eq_true rfl)) rfl).trans ((if_pos (by decide)).trans ((xIconst d162_117).trans ((xIadd d162_118).trans ((xIast (N := 392) d162_119 rfl (Nat.le_of_ble_eq_true rfl) rfl).trans ((if_pos (by decide)).trans (xVret d162_120 zret_162))))))))))) rfl)))))))))))))))) rfl))))))))))))))))))))))))) ((xSipush d162_20).trans (xIstore_n d162_23 rfl rfl)))))))))))))
theorem e162_24 {I : Nat → Int → Int} {b : Bool} {S : Nat} {a1 a2 : Int} : zX 162 24 [vR 87, vI a1, vI a2] [] (I, zRs b, 103, S) = if 390 ≤ a2 then if 40 ≤ (I 99 6) then if 0 ≤ (wr (312 + (wr (2 * 39)))) ∧ (wr (312 + (wr (2 * 39)))) < 392 then if 0 ≤ (wr ((wr (312 + (wr (2 * 39)))) + 1)) ∧ (wr ((wr (312 + (wr (2 * 39)))) + 1)) < 392 then some (none, ((sI (sI (sI I 99 (wr (312 + (wr (2 * 39)))) a1) 99 (wr ((wr (312 + (wr (2 * 39)))) + 1)) ((sI I 99 (wr (312 + (wr (2 * 39)))) a1) 99 2)) 99 6 (wr (((sI (sI I 99 (wr (312 + (wr (2 * 39)))) a1) 99 (wr ((wr (312 + (wr (2 * 39)))) + 1)) ((sI I 99 (wr (312 + (wr (2 * 39)))) a1) 99 2)) 99 6) + 1))), zRs b, 103, S)) else none else none else if 0 ≤ (wr (312 + (wr (2 * (I 99 6))))) ∧ (wr (312 + (wr (2 * (I 99 6))))) < 392 then if 0 ≤ (wr ((wr (312 + (wr (2 * (I 99 6))))) + 1)) ∧ (wr ((wr (312 + (wr (2 * (I 99 6))))) + 1)) < 392 then some (none, ((sI (sI (sI I 99 (wr (312 + (wr (2 * (I 99 6))))) a1) 99 (wr ((wr (312 + (wr (2 * (I 99 6))))) + 1)) ((sI I 99 (wr (312 + (wr (2 * (I 99 6))))) a1) 99 2)) 99 6 (wr (((sI (sI I 99 (wr (312 + (wr (2 * (I 99 6))))) a1) 99 (wr ((wr (312 + (wr (2 * (I 99 6))))) + 1)) ((sI I 99 (wr (312 + (wr (2 * (I 99 6))))) a1) 99 2)) 99 6) + 1))), zRs b, 103, S)) else none else none else if 0 ≤ (wr (a2 + 2)) ∧ (wr (a2 + 2)) < 392 then if 0 ≤ a2 ∧ a2 < 392 then zX 162 24 [vR 87, vI a1, vI (wr (a2 + 1))] [] ((sI I 99 a2 (I 99 (wr (a2 + 2)))), zRs b, 103, S) else none else none := (xIload_n d162_24 rfl).trans ((xSipush d162_25).trans ((xIcmpGe (t := 51) d162_28 rfl).trans (ziteC ((xAload_n d162_51 rfl).trans ((xGetR 20 99 d162_52 zo_162 zfl_11_44 rfl rfl rfl (Or.inl (Nat.le_of_ble_eq_true rfl))).trans ((xBipush d162_55).trans ((xIald (N := 392) (I 99 6) rfl d162_57 rfl (Or.inl (Nat.le_of_ble_eq_true rfl)) rfl).trans ((if_pos (by decide)).trans ((xBipush d162_58).trans ((xIcmpGe (t := 73) d162_60 rfl).trans (ziteC ((xBipush d162_73).trans ((xIstore_n d162_75 rfl rfl).trans ((xAload_n d162_76 rfl).trans ((xGetR 20 99 d162_77 zo_162 zfl_11_44 rfl rfl rfl (Or.inl (Nat.le_of_ble_eq_true rfl))).trans ((xSipush d162_80).trans ((xIconst d162_83).trans ((xIload_n d162_84 rfl).trans ((xImul d162_85).trans ((xIadd d162_86).trans ((xIload_n d162_87 rfl).trans ((xIast (N := 392) d162_88 rfl (Nat.le_of_ble_eq_true rfl) rfl).trans (ziteC ((xAload_n d162_89 rfl).trans ((xGetR 20 99 d162_90 zo_162 zfl_11_44 rfl rfl rfl (Or.inl (Nat.le_of_ble_eq_true rfl))).trans ((xSipush d162_93).trans ((xIconst d162_96).trans ((xIload_n d162_97 rfl).trans ((xImul d162_98).trans ((xIadd d162_99).trans ((xIconst d162_100).trans ((xIadd d162_101).trans ((xAload_n d162_102 rfl).trans ((xGetR 20 99 d162_103 zo_162 zfl_11_44 rfl rfl rfl (Or.inl (Nat.le_of_ble_eq_true rfl))).trans ((xIconst d162_106).trans ((xIald (N := 392) ((sI I 99 (wr (312 + (wr (2 * 39)))) a1) 99 2) rfl d162_107 rfl (Or.inl (Nat.le_of_ble_eq_true rfl)) rfl).trans ((if_pos (by decide)).trans ((xIast (N := 392) d162_108 rfl (Nat.le_of_ble_eq_true rfl) rfl).trans (ziteC ((xAload_n d162_109 rfl).trans ((xGetR 20 99 d162_110 zo_162 zfl_11_44 rfl rfl rfl (Or.inl (Nat.le_of_ble_eq_true rfl))).trans ((xBipush d162_113).trans ((xDup2 d162_115 rfl rfl).trans ((xIald (N := 392) ((sI (sI I 99 (wr (312 + (wr (2 * 39)))) a1) 99 (wr ((wr (312 + (wr (2 * 39)))) + 1)) ((sI I 99 (wr (312 + (wr (2 * 39)))) a1) 99 2)) 99 6) rfl d162_116 rfl (Or.inl (Nat.le_of_ble_eq_true rfl)) rfl).trans ((if_pos (by decide)).trans ((xIconst d162_117).trans ((xIadd d162_118).trans ((xIast (N := 392) d162_119 rfl (Nat.le_of_ble_eq_true rfl) rfl).trans ((if_pos (by decide)).trans (xVret d162_120 zret_162))))))))))) rfl)))))))))))))))) rfl)))))))))))) ((xAload_n d162_63 rfl).trans ((xGetR 20 99 d162_64 zo_162 zfl_11_44 rfl rfl rfl (Or.inl (Nat.le_of_ble_eq_true rfl))).trans ((xBipush d162_67).trans ((xIald (N := 392) (I 99 6) rfl d162_69 rfl (Or.inl (Nat.le_of_ble_eq_true rfl)) rfl).trans ((if_pos (by decide)).trans ((xGoto (t := 75) d162_70 rfl).trans ((xIstore_n d162_75 rfl rfl).trans ((xAload_n d162_76 rfl).trans ((xGetR 20 99 d162_77 zo_162 zfl_11_44 rfl rfl rfl (Or.inl (Nat.le_of_ble_eq_true rfl))).trans ((xSipush d162_80).trans ((xIconst d162_83).trans ((xIload_n d162_84 rfl).trans ((xImul d162_85).trans ((xIadd d162_86).trans ((xIload_n d162_87 rfl).trans ((xIast (N := 392) d162_88 rfl (Nat.le_of_ble_eq_true rfl) rfl).trans (ziteC ((xAload_n d162_89 rfl).trans ((xGetR 20 99 d162_90 zo_162 zfl_11_44 rfl rfl rfl (Or.inl (Nat.le_of_ble_eq_true rfl))).trans ((xSipush d162_93).trans ((xIconst d162_96).trans ((xIload_n d162_97 rfl).trans ((xImul d162_98).trans ((xIadd d162_99).trans ((xIconst d162_100).trans ((xIadd d162_101).trans ((xAload_n d162_102 rfl).trans ((xGetR 20 99 d162_103 zo_162 zfl_11_44 rfl rfl rfl (Or.inl (Nat.le_of_ble_eq_true rfl))).trans ((xIconst d162_106).trans ((xIald (N := 392) ((sI I 99 (wr (312 + (wr (2 * (I 99 6))))) a1) 99 2) rfl d162_107 rfl (Or.inl (Nat.le_of_ble_eq_true rfl)) rfl).trans ((if_pos (by decide)).trans ((xIast (N := 392) d162_108 rfl (Nat.le_of_ble_eq_true rfl) rfl).trans (ziteC ((xAload_n d162_109 rfl).trans ((xGetR 20 99 d162_110 zo_162 zfl_11_44 rfl rfl rfl (Or.inl (Nat.le_of_ble_eq_true rfl))).trans ((xBipush d162_113).trans ((xDup2 d162_115 rfl rfl).trans ((xIald (N := 392) ((sI (sI I 99 (wr (312 + (wr (2 * (I 99 6))))) a1) 99 (wr ((wr (312 + (wr (2 * (I 99 6))))) + 1)) ((sI I 99 (wr (312 + (wr (2 * (I 99 6))))) a1) 99 2)) 99 6) rfl d162_116 rfl (Or.inl (Nat.le_of_ble_eq_true rfl)) rfl).trans ((if_pos (by decide)).trans ((xIconst d162_117).trans ((xIadd d162_118).trans ((xIast (N := 392) d162_119 rfl (Nat.le_of_ble_eq_true rfl) rfl).trans ((if_pos (by decide)).trans (xVret d162_120 zret_162))))))))))) rfl)))))))))))))))) rfl))))))))))))))))))))))))) ((xAload_n d162_31 rfl).trans ((xGetR 20 99 d162_32 zo_162 zfl_11_44 rfl rfl rfl (Or.inl (Nat.le_of_ble_eq_true rfl))).trans ((xIload_n d162_35 rfl).trans ((xAload_n d162_36 rfl).trans ((xGetR 20 99 d162_37 zo_162 zfl_11_44 rfl rfl rfl (Or.inl (Nat.le_of_ble_eq_true rfl))).trans ((xIload_n d162_40 rfl).trans ((xIconst d162_41).trans ((xIadd d162_42).trans ((xIald (N := 392) (I 99 (wr (a2 + 2))) rfl d162_43 rfl (Or.inl (Nat.le_of_ble_eq_true rfl)) rfl).trans (ziteC ((xIast (N := 392) d162_44 rfl (Nat.le_of_ble_eq_true rfl) rfl).trans (ziteC ((xIinc d162_45 rfl rfl rfl).trans (xGoto (t := 24) d162_48 rfl)) rfl)) rfl)))))))))))))
theorem run163 {h : zH} {x0 : Int} : zrun 163 [vR 87, vI x0] h = zX 163 0 [vR 87, vI x0, none, none, none] [] h := rfl
theorem e163_0 {I : Nat → Int → Int} {b : Bool} {S : Nat} {x0 : Int} : zX 163 0 [vR 87, vI x0, none, none, none] [] (I, zRs b, 103, S) = (zrun 158 [vR 87, vI x0, vI 2] (I, zRs b, 103, S)).bind (fun q => zX 163 6 [vR 87, vI x0, none, none, none] (zpush q.1 []) q.2) := (xAload_n d163_0 rfl).trans ((xIload_n d163_1 rfl).trans ((xIconst d163_2).trans (xInvV [vR 87, vI x0, vI 2] [] d163_3 zo_163 zml_11_192 rfl rfl rfl (Or.inl ⟨rfl, (Nat.le_of_ble_eq_true rfl)⟩))))
theorem e163_6 {I : Nat → Int → Int} {b : Bool} {S : Nat} {a1 t0 : Int} : zX 163 6 [vR 87, vI a1, none, none, none] [vI t0] (I, zRs b, 103, S) = (zrun 158 [vR 87, vI t0, vI 0] (I, zRs b, 103, S)).bind (fun q => zX 163 13 [vR 87, vI a1, vI t0, none, none] (zpush q.1 []) q.2) := (xIstore_n d163_6 rfl rfl).trans ((xAload_n d163_7 rfl).trans ((xIload_n d163_8 rfl).trans ((xIconst d163_9).trans (xInvV [vR 87, vI t0, vI 0] [] d163_10 zo_163 zml_11_192 rfl rfl rfl (Or.inl ⟨rfl, (Nat.le_of_ble_eq_true rfl)⟩)))))
theorem e163_13 {I : Nat → Int → Int} {b : Bool} {S : Nat} {a1 a2 t0 : Int} : zX 163 13 [vR 87, vI a1, vI a2, none, none] [vI t0] (I, zRs b, 103, S) = if t0 = 2 then if 0 ≤ (wr (18 + a2)) ∧ (wr (18 + a2)) < 392 then if 0 ≤ (wr (18 + a2)) ∧ (wr (18 + a2)) < 392 then if 0 ≤ (wr (18 + a2)) ∧ (wr (18 + a2)) < 392 then (zrun 158 [vR 87, vI a2, vI 1] ((sI I 99 (wr (18 + a2)) (wr ((I 99 (wr (18 + a2))) + 1))), zRs b, 103, S)).bind (fun q => zX 163 45 [vR 87, vI a1, vI a2, none, none] (zpush q.1 [vI ((sI I 99 (wr (18 + a2)) (wr ((I 99 (wr (18 + a2))) + 1))) 99 (wr (18 + a2)))]) q.2) else none else none else none else (zrun 158 [vR 87, vI a2, vI 1] (I, zRs b, 103, S)).bind (fun q => zX 163 66 [vR 87, vI a1, vI a2, none, none] (zpush q.1 [vI 9]) q.2) := (xIconst d163_13).trans ((xIcmpNe (t := 58) d163_14 rfl).trans (ziteC ((xAload_n d163_17 rfl).trans ((xGetR 20 99 d163_18 zo_163 zfl_11_44 rfl rfl rfl (Or.inl (Nat.le_of_ble_eq_true rfl))).trans ((xBipush d163_21).trans ((xIload_n d163_23 rfl).trans ((xIadd d163_24).trans ((xDup2 d163_25 rfl rfl).trans ((xIald (N := 392) (I 99 (wr (18 + a2))) rfl d163_26 rfl (Or.inl (Nat.le_of_ble_eq_true rfl)) rfl).trans (ziteC ((xIconst d163_27).trans ((xIadd d163_28).trans ((xIast (N := 392) d163_29 rfl (Nat.le_of_ble_eq_true rfl) rfl).trans (ziteC ((xAload_n d163_30 rfl).trans ((xGetR 20 99 d163_31 zo_163 zfl_11_44 rfl rfl rfl (Or.inl (Nat.le_of_ble_eq_true rfl))).trans ((xBipush d163_34).trans ((xIload_n d163_36 rfl).trans ((xIadd d163_37).trans ((xIald (N := 392) ((sI I 99 (wr (18 + a2)) (wr ((I 99 (wr (18 + a2))) + 1))) 99 (wr (18 + a2))) rfl d163_38 rfl (Or.inl (Nat.le_of_ble_eq_true rfl)) rfl).trans (ziteC ((xAload_n d163_39 rfl).trans ((xIload_n d163_40 rfl).trans ((xIconst d163_41).trans (xInvV [vR 87, vI a2, vI 1] [vI ((sI I 99 (wr (18 + a2)) (wr ((I 99 (wr (18 + a2))) + 1))) 99 (wr (18 + a2)))] d163_42 zo_163 zml_11_192 rfl rfl rfl (Or.inl ⟨rfl, (Nat.le_of_ble_eq_true rfl)⟩))))) rfl))))))) rfl)))) rfl)))))))) ((xBipush d163_58).trans ((xAload_n d163_60 rfl).trans ((xIload_n d163_61 rfl).trans ((xIconst d163_62).trans (xInvV [vR 87, vI a2, vI 1] [vI 9] d163_63 zo_163 zml_11_192 rfl rfl rfl (Or.inl ⟨rfl, (Nat.le_of_ble_eq_true rfl)⟩))))))))
theorem e163_45 {I : Nat → Int → Int} {b : Bool} {S : Nat} {a1 a2 t0 t1 : Int} : zX 163 45 [vR 87, vI a1, vI a2, none, none] [vI t1, vI t0] (I, zRs b, 103, S) = if t0 < t1 then some (some (vI (wr (a2 + 1))), (I, zRs b, 103, S)) else some (some (vI (wr (a1 + 1))), (I, zRs b, 103, S)) := (xIcmpLt (t := 54) d163_45 rfl).trans (ziteC ((xIload_n d163_54 rfl).trans ((xIconst d163_55).trans ((xIadd d163_56).trans (xIret d163_57 zret_163)))) ((xIload_n d163_48 rfl).trans ((xIconst d163_49).trans ((xIadd d163_50).trans ((xGoto (t := 57) d163_51 rfl).trans (xIret d163_57 zret_163))))))
theorem e163_66 {I : Nat → Int → Int} {b : Bool} {S : Nat} {a1 a2 t0 t1 : Int} : zX 163 66 [vR 87, vI a1, vI a2, none, none] [vI t1, vI t0] (I, zRs b, 103, S) = if 0 ≤ (wr (t0 + t1)) ∧ (wr (t0 + t1)) < 392 then if (I 99 (wr (t0 + t1))) = 1 then if 0 ≤ (wr (t0 + t1)) ∧ (wr (t0 + t1)) < 392 then some (some (vI (wr (a1 + 1))), ((sI I 99 (wr (t0 + t1)) 0), zRs b, 103, S)) else none else if 0 ≤ (wr (t0 + t1)) ∧ (wr (t0 + t1)) < 392 then some (some (vI (wr (a2 + 1))), ((sI I 99 (wr (t0 + t1)) 0), zRs b, 103, S)) else none else none := (xIadd d163_66).trans ((xIstore_n d163_67 rfl rfl).trans ((xAload_n d163_68 rfl).trans ((xGetR 20 99 d163_69 zo_163 zfl_11_44 rfl rfl rfl (Or.inl (Nat.le_of_ble_eq_true rfl))).trans ((xIload_n d163_72 rfl).trans ((xIald (N := 392) (I 99 (wr (t0 + t1))) rfl d163_73 rfl (Or.inl (Nat.le_of_ble_eq_true rfl)) rfl).trans (ziteC ((xIconst d163_74).trans ((xIcmpNe (t := 84) d163_75 rfl).trans (ziteC ((xIload_n d163_78 rfl).trans ((xIconst d163_79).trans ((xIadd d163_80).trans ((xGoto (t := 87) d163_81 rfl).trans ((xIstore d163_87 rfl rfl).trans ((xAload_n d163_89 rfl).trans ((xGetR 20 99 d163_90 zo_163 zfl_11_44 rfl rfl rfl (Or.inl (Nat.le_of_ble_eq_true rfl))).trans ((xIload_n d163_93 rfl).trans ((xIconst d163_94).trans ((xIast (N := 392) d163_95 rfl (Nat.le_of_ble_eq_true rfl) rfl).trans (ziteC ((xIload d163_96 rfl).trans (xIret d163_98 zret_163)) rfl))))))))))) ((xIload_n d163_84 rfl).trans ((xIconst d163_85).trans ((xIadd d163_86).trans ((xIstore d163_87 rfl rfl).trans ((xAload_n d163_89 rfl).trans ((xGetR 20 99 d163_90 zo_163 zfl_11_44 rfl rfl rfl (Or.inl (Nat.le_of_ble_eq_true rfl))).trans ((xIload_n d163_93 rfl).trans ((xIconst d163_94).trans ((xIast (N := 392) d163_95 rfl (Nat.le_of_ble_eq_true rfl) rfl).trans (ziteC ((xIload d163_96 rfl).trans (xIret d163_98 zret_163)) rfl))))))))))))) rfl))))))
theorem run164 {h : zH} {x0 : Int} : zrun 164 [vR 87, vI x0] h = zX 164 0 [vR 87, vI x0, none, none] [] h := rfl
theorem e164_0 {I : Nat → Int → Int} {b : Bool} {S : Nat} {x0 : Int} : zX 164 0 [vR 87, vI x0, none, none] [] (I, zRs b, 103, S) = zX 164 2 [vR 87, vI x0, vI x0, none] [] (I, zRs b, 103, S) := (xIload_n d164_0 rfl).trans (xIstore_n d164_1 rfl rfl)
theorem e164_2 {I : Nat → Int → Int} {b : Bool} {S : Nat} {a1 a2 : Int} {w3 : zV} : zX 164 2 [vR 87, vI a1, vI a2, w3] [] (I, zRs b, 103, S) = if (I 88 1) ≤ a2 then if (I 88 1) ≤ a2 then some (none, ((sI (sI I 99 0 (-4)) 99 1 0), zRs b, 103, S)) else if a2 = (-4) then some (none, ((sI (sI I 99 0 a2) 99 1 0), zRs b, 103, S)) else some (none, ((sI I 99 0 a2), zRs b, 103, S)) else (zrun 158 [vR 87, vI a2, vI 0] (I, zRs b, 103, S)).bind (fun q => zX 164 18 [vR 87, vI a1, vI a2, w3] (zpush q.1 []) q.2) := (xIload_n d164_2 rfl).trans ((xAload_n d164_3 rfl).trans ((xGetR 0 88 d164_4 zo_164 zfl_11_7 rfl rfl rfl (Or.inl (Nat.le_of_ble_eq_true rfl))).trans ((xIconst d164_7).trans ((xIald (N := 234) (I 88 1) rfl d164_8 rfl (Or.inl (Nat.le_of_ble_eq_true rfl)) rfl).trans ((if_pos (by decide)).trans ((xIcmpGe (t := 78) d164_9 rfl).trans (ziteC ((xAload_n d164_78 rfl).trans ((xGetR 20 99 d164_79 zo_164 zfl_11_44 rfl rfl rfl (Or.inl (Nat.le_of_ble_eq_true rfl))).trans ((xIconst d164_82).trans ((xIload_n d164_83 rfl).trans ((xAload_n d164_84 rfl).trans ((xGetR 0 88 d164_85 zo_164 zfl_11_7 rfl rfl rfl (Or.inl (Nat.le_of_ble_eq_true rfl))).trans ((xIconst d164_88).trans ((xIald (N := 234) (I 88 1) rfl d164_89 rfl (Or.inl (Nat.le_of_ble_eq_true rfl)) rfl).trans ((if_pos (by decide)).trans ((xIcmpGe (t := 97) d164_90 rfl).trans (ziteC ((xBipush d164_97).trans ((xIast (N := 392) d164_99 rfl (Nat.le_of_ble_eq_true rfl) rfl).trans ((if_pos (by decide)).trans ((xAload_n d164_100 rfl).trans ((xGetR 20 99 d164_101 zo_164 zfl_11_44 rfl rfl rfl (Or.inl (Nat.le_of_ble_eq_true rfl))).trans ((xIconst d164_104).trans ((xIald (N := 392) (-4) sI_s d164_105 rfl (Or.inl (Nat.le_of_ble_eq_true rfl)) rfl).trans ((if_pos (by decide)).trans ((xBipush d164_106).trans ((xIcmpNe (t := 118) d164_108 rfl).trans ((if_pos (by decide)).trans ((xAload_n d164_111 rfl).trans ((xGetR 20 99 d164_112 zo_164 zfl_11_44 rfl rfl rfl (Or.inl (Nat.le_of_ble_eq_true rfl))).trans ((xIconst d164_115).trans ((xIconst d164_116).trans ((xIast (N := 392) d164_117 rfl (Nat.le_of_ble_eq_true rfl) rfl).trans ((if_pos (by decide)).trans (xVret d164_118 zret_164)))))))))))))))))) ((xIload_n d164_93 rfl).trans ((xGoto (t := 99) d164_94 rfl).trans ((xIast (N := 392) d164_99 rfl (Nat.le_of_ble_eq_true rfl) rfl).trans ((if_pos (by decide)).trans ((xAload_n d164_100 rfl).trans ((xGetR 20 99 d164_101 zo_164 zfl_11_44 rfl rfl rfl (Or.inl (Nat.le_of_ble_eq_true rfl))).trans ((xIconst d164_104).trans ((xIald (N := 392) a2 sI_s d164_105 rfl (Or.inl (Nat.le_of_ble_eq_true rfl)) rfl).trans ((if_pos (by decide)).trans ((xBipush d164_106).trans ((xIcmpNe (t := 118) d164_108 rfl).trans (ziteC ((xAload_n d164_111 rfl).trans ((xGetR 20 99 d164_112 zo_164 zfl_11_44 rfl rfl rfl (Or.inl (Nat.le_of_ble_eq_true rfl))).trans ((xIconst d164_115).trans ((xIconst d164_116).trans ((xIast (N := 392) d164_117 rfl (Nat.le_of_ble_eq_true rfl) rfl).trans ((if_pos (by decide)).trans (xVret d164_118 zret_164))))))) (xVret d164_118 zret_164)))))))))))))))))))))))) ((xAload_n d164_12 rfl).trans ((xIload_n d164_13 rfl).trans ((xIconst d164_14).trans (xInvV [vR 87, vI a2, vI 0] [] d164_15 zo_164 zml_11_192 rfl rfl rfl (Or.inl ⟨rfl, (Nat.le_of_ble_eq_true rfl)⟩))))))))))))
theorem e164_18 {I : Nat → Int → Int} {b : Bool} {S : Nat} {a1 a2 t0 : Int} {w3 : zV} : zX 164 18 [vR 87, vI a1, vI a2, w3] [vI t0] (I, zRs b, 103, S) = if t0 = 0 then if (I 88 1) ≤ a2 then some (none, ((sI (sI I 99 0 (-4)) 99 1 0), zRs b, 103, S)) else if a2 = (-4) then some (none, ((sI (sI I 99 0 a2) 99 1 0), zRs b, 103, S)) else some (none, ((sI I 99 0 a2), zRs b, 103, S)) else (zrun 158 [vR 87, vI a2, vI 0] (I, zRs b, 103, S)).bind (fun q => zX 164 27 [vR 87, vI a1, vI a2, w3] (zpush q.1 []) q.2) := (xIfEq (t := 78) d164_18 rfl).trans (ziteC ((xAload_n d164_78 rfl).trans ((xGetR 20 99 d164_79 zo_164 zfl_11_44 rfl rfl rfl (Or.inl (Nat.le_of_ble_eq_true rfl))).trans ((xIconst d164_82).trans ((xIload_n d164_83 rfl).trans ((xAload_n d164_84 rfl).trans ((xGetR 0 88 d164_85 zo_164 zfl_11_7 rfl rfl rfl (Or.inl (Nat.le_of_ble_eq_true rfl))).trans ((xIconst d164_88).trans ((xIald (N := 234) (I 88 1) rfl d164_89 rfl (Or.inl (Nat.le_of_ble_eq_true rfl)) rfl).trans ((if_pos (by decide)).trans ((xIcmpGe (t := 97) d164_90 rfl).trans (ziteC ((xBipush d164_97).trans ((xIast (N := 392) d164_99 rfl (Nat.le_of_ble_eq_true rfl) rfl).trans ((if_pos (by decide)).trans ((xAload_n d164_100 rfl).trans ((xGetR 20 99 d164_101 zo_164 zfl_11_44 rfl rfl rfl (Or.inl (Nat.le_of_ble_eq_true rfl))).trans ((xIconst d164_104).trans ((xIald (N := 392) (-4) sI_s d164_105 rfl (Or.inl (Nat.le_of_ble_eq_true rfl)) rfl).trans ((if_pos (by decide)).trans ((xBipush d164_106).trans ((xIcmpNe (t := 118) d164_108 rfl).trans ((if_pos (by decide)).trans ((xAload_n d164_111 rfl).trans ((xGetR 20 99 d164_112 zo_164 zfl_11_44 rfl rfl rfl (Or.inl (Nat.le_of_ble_eq_true rfl))).trans ((xIconst d164_115).trans ((xIconst d164_116).trans ((xIast (N := 392) d164_117 rfl (Nat.le_of_ble_eq_true rfl) rfl).trans ((if_pos (by decide)).trans (xVret d164_118 zret_164)))))))))))))))))) ((xIload_n d164_93 rfl).trans ((xGoto (t := 99) d164_94 rfl).trans ((xIast (N := 392) d164_99 rfl (Nat.le_of_ble_eq_true rfl) rfl).trans ((if_pos (by decide)).trans ((xAload_n d164_100 rfl).trans ((xGetR 20 99 d164_101 zo_164 zfl_11_44 rfl rfl rfl (Or.inl (Nat.le_of_ble_eq_true rfl))).trans ((xIconst d164_104).trans ((xIald (N := 392) a2 sI_s d164_105 rfl (Or.inl (Nat.le_of_ble_eq_true rfl)) rfl).trans ((if_pos (by decide)).trans ((xBipush d164_106).trans ((xIcmpNe (t := 118) d164_108 rfl).trans (ziteC ((xAload_n d164_111 rfl).trans ((xGetR 20 99 d164_112 zo_164 zfl_11_44 rfl rfl rfl (Or.inl (Nat.le_of_ble_eq_true rfl))).trans ((xIconst d164_115).trans ((xIconst d164_116).trans ((xIast (N := 392) d164_117 rfl (Nat.le_of_ble_eq_true rfl) rfl).trans ((if_pos (by decide)).trans (xVret d164_118 zret_164))))))) (xVret d164_118 zret_164)))))))))))))))))))))))) ((xAload_n d164_21 rfl).trans ((xIload_n d164_22 rfl).trans ((xIconst d164_23).trans (xInvV [vR 87, vI a2, vI 0] [] d164_24 zo_164 zml_11_192 rfl rfl rfl (Or.inl ⟨rfl, (Nat.le_of_ble_eq_true rfl)⟩))))))
theorem e164_27 {I : Nat → Int → Int} {b : Bool} {S : Nat} {a1 a2 t0 : Int} {w3 : zV} : zX 164 27 [vR 87, vI a1, vI a2, w3] [vI t0] (I, zRs b, 103, S) = if t0 = 1 then (zrun 158 [vR 87, vI a2, vI 1] (I, zRs b, 103, S)).bind (fun q => zX 164 40 [vR 87, vI a1, vI a2, vI t0] (zpush q.1 [vR 87]) q.2) else zX 164 43 [vR 87, vI a1, vI a2, vI t0] [] (I, zRs b, 103, S) := (xIstore_n d164_27 rfl rfl).trans ((xIload_n d164_28 rfl).trans ((xIconst d164_29).trans ((xIcmpNe (t := 43) d164_30 rfl).trans (ziteC ((xAload_n d164_33 rfl).trans ((xAload_n d164_34 rfl).trans ((xIload_n d164_35 rfl).trans ((xIconst d164_36).trans (xInvV [vR 87, vI a2, vI 1] [vR 87] d164_37 zo_164 zml_11_192 rfl rfl rfl (Or.inl ⟨rfl, (Nat.le_of_ble_eq_true rfl)⟩)))))) rfl))))
theorem e164_40 {I : Nat → Int → Int} {b : Bool} {S : Nat} {a1 a2 a3 t1 : Int} : zX 164 40 [vR 87, vI a1, vI a2, vI a3] [vI t1, vR 87] (I, zRs b, 103, S) = (zrun 162 [vR 87, vI t1] (I, zRs b, 103, S)).bind (fun q => zX 164 43 [vR 87, vI a1, vI a2, vI a3] (zpush q.1 []) q.2) := xInvV [vR 87, vI t1] [] d164_40 zo_164 zml_11_199 rfl rfl rfl (Or.inl ⟨rfl, (Nat.le_of_ble_eq_true rfl)⟩)
theorem e164_43 {I : Nat → Int → Int} {b : Bool} {S : Nat} {a1 a2 a3 : Int} : zX 164 43 [vR 87, vI a1, vI a2, vI a3] [] (I, zRs b, 103, S) = if a3 = 2 then if 0 ≤ (wr (18 + a2)) ∧ (wr (18 + a2)) < 392 then if a3 = 4 then (zrun 163 [vR 87, vI a2] ((sI I 99 (wr (18 + a2)) 0), zRs b, 103, S)).bind (fun q => zX 164 68 [vR 87, vI a1, vI a2, vI a3] (zpush q.1 []) q.2) else zX 164 2 [vR 87, vI a1, vI (wr (a2 + 1)), vI a3] [] ((sI I 99 (wr (18 + a2)) 0), zRs b, 103, S) else none else if a3 = 4 then (zrun 163 [vR 87, vI a2] (I, zRs b, 103, S)).bind (fun q => zX 164 68 [vR 87, vI a1, vI a2, vI a3] (zpush q.1 []) q.2) else zX 164 2 [vR 87, vI a1, vI (wr (a2 + 1)), vI a3] [] (I, zRs b, 103, S) := (xIload_n d164_43 rfl).trans ((xIconst d164_44).trans ((xIcmpNe (t := 58) d164_45 rfl).trans (ziteC ((xAload_n d164_48 rfl).trans ((xGetR 20 99 d164_49 zo_164 zfl_11_44 rfl rfl rfl (Or.inl (Nat.le_of_ble_eq_true rfl))).trans ((xBipush d164_52).trans ((xIload_n d164_54 rfl).trans ((xIadd d164_55).trans ((xIconst d164_56).trans ((xIast (N := 392) d164_57 rfl (Nat.le_of_ble_eq_true rfl) rfl).trans (ziteC ((xIload_n d164_58 rfl).trans ((xIconst d164_59).trans ((xIcmpNe (t := 71) d164_60 rfl).trans (ziteC ((xAload_n d164_63 rfl).trans ((xIload_n d164_64 rfl).trans (xInvV [vR 87, vI a2] [] d164_65 zo_164 zml_11_202 rfl rfl rfl (Or.inl ⟨rfl, (Nat.le_of_ble_eq_true rfl)⟩)))) ((xIload_n d164_71 rfl).trans ((xIconst d164_72).trans ((xIadd d164_73).trans ((xIstore_n d164_74 rfl rfl).trans (xGoto (t := 2) d164_75 rfl))))))))) rfl)))))))) ((xIload_n d164_58 rfl).trans ((xIconst d164_59).trans ((xIcmpNe (t := 71) d164_60 rfl).trans (ziteC ((xAload_n d164_63 rfl).trans ((xIload_n d164_64 rfl).trans (xInvV [vR 87, vI a2] [] d164_65 zo_164 zml_11_202 rfl rfl rfl (Or.inl ⟨rfl, (Nat.le_of_ble_eq_true rfl)⟩)))) ((xIload_n d164_71 rfl).trans ((xIconst d164_72).trans ((xIadd d164_73).trans ((xIstore_n d164_74 rfl rfl).trans (xGoto (t := 2) d164_75 rfl))))))))))))
theorem e164_68 {I : Nat → Int → Int} {b : Bool} {S : Nat} {a1 a2 a3 t0 : Int} : zX 164 68 [vR 87, vI a1, vI a2, vI a3] [vI t0] (I, zRs b, 103, S) = zX 164 2 [vR 87, vI a1, vI t0, vI a3] [] (I, zRs b, 103, S) := (xGoto (t := 74) d164_68 rfl).trans ((xIstore_n d164_74 rfl rfl).trans (xGoto (t := 2) d164_75 rfl))
theorem run165 {h : zH} : zrun 165 [vR 87] h = zX 165 0 [vR 87, none] [] h := rfl
theorem e165_0 {I : Nat → Int → Int} {b : Bool} {S : Nat} : zX 165 0 [vR 87, none] [] (I, zRs b, 103, S) = (zrun 160 [vR 87, vI 1] (I, zRs b, 103, S)).bind (fun q => zX 165 5 [vR 87, none] (zpush q.1 []) q.2) := (xAload_n d165_0 rfl).trans ((xIconst d165_1).trans (xInvV [vR 87, vI 1] [] d165_2 zo_165 zml_11_205 rfl rfl rfl (Or.inl ⟨rfl, (Nat.le_of_ble_eq_true rfl)⟩)))
theorem e165_5 {I : Nat → Int → Int} {b : Bool} {S : Nat} : zX 165 5 [vR 87, none] [] (I, zRs b, 103, S) = zX 165 7 [vR 87, vI 0] [] (I, zRs b, 103, S) := (xIconst d165_5).trans (xIstore_n d165_6 rfl rfl)
theorem e165_7 {I : Nat → Int → Int} {b : Bool} {S : Nat} {a1 : Int} : zX 165 7 [vR 87, vI a1] [] (I, zRs b, 103, S) = if 392 ≤ a1 then (zrun 164 [vR 87, vI 0] (I, zRs b, 103, S)).bind (fun q => zX 165 53 [vR 87, vI a1] (zpush q.1 []) q.2) else if a1 < 13 then if 0 ≤ a1 ∧ a1 < 392 then zX 165 7 [vR 87, vI (wr (a1 + 1))] [] ((sI I 99 a1 0), zRs b, 103, S) else none else if 18 ≤ a1 then if 0 ≤ a1 ∧ a1 < 392 then zX 165 7 [vR 87, vI (wr (a1 + 1))] [] ((sI I 99 a1 0), zRs b, 103, S) else none else if 0 ≤ a1 ∧ a1 < 392 then if 0 ≤ a1 ∧ a1 < 392 then zX 165 7 [vR 87, vI (wr (a1 + 1))] [] ((sI I 99 a1 (I 99 a1)), zRs b, 103, S) else none else none := (xIload_n d165_7 rfl).trans ((xSipush d165_8).trans ((xIcmpGe (t := 48) d165_11 rfl).trans (ziteC ((xAload_n d165_48 rfl).trans ((xIconst d165_49).trans (xInvV [vR 87, vI 0] [] d165_50 zo_165 zml_11_209 rfl rfl rfl (Or.inl ⟨rfl, (Nat.le_of_ble_eq_true rfl)⟩)))) ((xAload_n d165_14 rfl).trans ((xGetR 20 99 d165_15 zo_165 zfl_11_44 rfl rfl rfl (Or.inl (Nat.le_of_ble_eq_true rfl))).trans ((xIload_n d165_18 rfl).trans ((xIload_n d165_19 rfl).trans ((xBipush d165_20).trans ((xIcmpLt (t := 40) d165_22 rfl).trans (ziteC ((xIconst d165_40).trans ((xIast (N := 392) d165_41 rfl (Nat.le_of_ble_eq_true rfl) rfl).trans (ziteC ((xIinc d165_42 rfl rfl rfl).trans (xGoto (t := 7) d165_45 rfl)) rfl))) ((xIload_n d165_25 rfl).trans ((xBipush d165_26).trans ((xIcmpGe (t := 40) d165_28 rfl).trans (ziteC ((xIconst d165_40).trans ((xIast (N := 392) d165_41 rfl (Nat.le_of_ble_eq_true rfl) rfl).trans (ziteC ((xIinc d165_42 rfl rfl rfl).trans (xGoto (t := 7) d165_45 rfl)) rfl))) ((xAload_n d165_31 rfl).trans ((xGetR 20 99 d165_32 zo_165 zfl_11_44 rfl rfl rfl (Or.inl (Nat.le_of_ble_eq_true rfl))).trans ((xIload_n d165_35 rfl).trans ((xIald (N := 392) (I 99 a1) rfl d165_36 rfl (Or.inl (Nat.le_of_ble_eq_true rfl)) rfl).trans (ziteC ((xGoto (t := 41) d165_37 rfl).trans ((xIast (N := 392) d165_41 rfl (Nat.le_of_ble_eq_true rfl) rfl).trans (ziteC ((xIinc d165_42 rfl rfl rfl).trans (xGoto (t := 7) d165_45 rfl)) rfl))) rfl)))))))))))))))))))
theorem e165_53 {I : Nat → Int → Int} {b : Bool} {S : Nat} {a1 : Int} : zX 165 53 [vR 87, vI a1] [] (I, zRs b, 103, S) = (zrun 161 [vR 87] (I, zRs b, 103, S)).bind (fun q => zX 165 57 [vR 87, vI a1] (zpush q.1 []) q.2) := (xAload_n d165_53 rfl).trans (xInvV [vR 87] [] d165_54 zo_165 zml_11_212 rfl rfl rfl (Or.inl ⟨rfl, (Nat.le_of_ble_eq_true rfl)⟩))
theorem e165_57 {I : Nat → Int → Int} {b : Bool} {S : Nat} {a1 : Int} : zX 165 57 [vR 87, vI a1] [] (I, zRs b, 103, S) = some (none, (I, zRs b, 103, S)) := xVret d165_57 zret_165
theorem run166 {h : zH} : zrun 166 [vR 87] h = zX 166 0 [vR 87] [] h := rfl
theorem e166_0 {I : Nat → Int → Int} {b : Bool} {S : Nat} : zX 166 0 [vR 87] [] (I, zRs b, 103, S) = (zrun 158 [vR 87, vI (I 99 0), vI 1] (I, zRs b, 103, S)).bind (fun q => zX 166 11 [vR 87] (zpush q.1 []) q.2) := (xAload_n d166_0 rfl).trans ((xAload_n d166_1 rfl).trans ((xGetR 20 99 d166_2 zo_166 zfl_11_44 rfl rfl rfl (Or.inl (Nat.le_of_ble_eq_true rfl))).trans ((xIconst d166_5).trans ((xIald (N := 392) (I 99 0) rfl d166_6 rfl (Or.inl (Nat.le_of_ble_eq_true rfl)) rfl).trans ((if_pos (by decide)).trans ((xIconst d166_7).trans (xInvV [vR 87, vI (I 99 0), vI 1] [] d166_8 zo_166 zml_11_192 rfl rfl rfl (Or.inl ⟨rfl, (Nat.le_of_ble_eq_true rfl)⟩))))))))
theorem e166_11 {I : Nat → Int → Int} {b : Bool} {S : Nat} {t0 : Int} : zX 166 11 [vR 87] [vI t0] (I, zRs b, 103, S) = some (some (vI t0), (I, zRs b, 103, S)) := xIret d166_11 zret_166
