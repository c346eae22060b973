theorem zo_167 : zo 167 = 11 := by decide +kernel
theorem zret_167 : zret 167 = some .int := by decide +kernel
theorem d167_0 : decode (zb 167) 0 = .ok (.aload_n 0, 1) := by decide +kernel
theorem d167_1 : decode (zb 167) 1 = .ok (.getfield 19, 3) := by decide +kernel
theorem d167_4 : decode (zb 167) 4 = .ok (.aload_n 0, 1) := by decide +kernel
theorem d167_5 : decode (zb 167) 5 = .ok (.invokevirtual 215, 3) := by decide +kernel
theorem d167_8 : decode (zb 167) 8 = .ok (.iaload, 1) := by decide +kernel
theorem d167_9 : decode (zb 167) 9 = .ok (.aload_n 0, 1) := by decide +kernel
theorem d167_10 : decode (zb 167) 10 = .ok (.getfield 44, 3) := by decide +kernel
theorem d167_13 : decode (zb 167) 13 = .ok (.iconst 1, 1) := by decide +kernel
theorem d167_14 : decode (zb 167) 14 = .ok (.iaload, 1) := by decide +kernel
theorem d167_15 : decode (zb 167) 15 = .ok (.bipush 16, 2) := by decide +kernel
theorem d167_17 : decode (zb 167) 17 = .ok (.idiv, 1) := by decide +kernel
theorem d167_18 : decode (zb 167) 18 = .ok (.iadd, 1) := by decide +kernel
theorem d167_19 : decode (zb 167) 19 = .ok (.ireturn, 1) := by decide +kernel
theorem zo_168 : zo 168 = 11 := by decide +kernel
theorem zret_168 : zret 168 = none := by decide +kernel
theorem d168_0 : decode (zb 168) 0 = .ok (.aload_n 0, 1) := by decide +kernel
theorem d168_1 : decode (zb 168) 1 = .ok (.getfield 44, 3) := by decide +kernel
theorem d168_4 : decode (zb 168) 4 = .ok (.iconst 1, 1) := by decide +kernel
theorem d168_5 : decode (zb 168) 5 = .ok (.dup2, 1) := by decide +kernel
theorem d168_6 : decode (zb 168) 6 = .ok (.iaload, 1) := by decide +kernel
theorem d168_7 : decode (zb 168) 7 = .ok (.aload_n 0, 1) := by decide +kernel
theorem d168_8 : decode (zb 168) 8 = .ok (.getfield 44, 3) := by decide +kernel
theorem d168_11 : decode (zb 168) 11 = .ok (.bipush 13, 2) := by decide +kernel
theorem d168_13 : decode (zb 168) 13 = .ok (.iaload, 1) := by decide +kernel
theorem d168_14 : decode (zb 168) 14 = .ok (.iadd, 1) := by decide +kernel
theorem d168_15 : decode (zb 168) 15 = .ok (.iastore, 1) := by decide +kernel
theorem d168_16 : decode (zb 168) 16 = .ok (.aload_n 0, 1) := by decide +kernel
theorem d168_17 : decode (zb 168) 17 = .ok (.getfield 44, 3) := by decide +kernel
theorem d168_20 : decode (zb 168) 20 = .ok (.iconst 0, 1) := by decide +kernel
theorem d168_21 : decode (zb 168) 21 = .ok (.iaload, 1) := by decide +kernel
theorem d168_22 : decode (zb 168) 22 = .ok (.bipush (-4), 2) := by decide +kernel
theorem d168_24 : decode (zb 168) 24 = .ok (.if_icmp .eq 58, 3) := by decide +kernel
theorem d168_27 : decode (zb 168) 27 = .ok (.aload_n 0, 1) := by decide +kernel
theorem d168_28 : decode (zb 168) 28 = .ok (.getfield 44, 3) := by decide +kernel
theorem d168_31 : decode (zb 168) 31 = .ok (.iconst 1, 1) := by decide +kernel
theorem d168_32 : decode (zb 168) 32 = .ok (.iaload, 1) := by decide +kernel
theorem d168_33 : decode (zb 168) 33 = .ok (.bipush 16, 2) := by decide +kernel
theorem d168_35 : decode (zb 168) 35 = .ok (.aload_n 0, 1) := by decide +kernel
theorem d168_36 : decode (zb 168) 36 = .ok (.aload_n 0, 1) := by decide +kernel
theorem d168_37 : decode (zb 168) 37 = .ok (.invokevirtual 215, 3) := by decide +kernel
theorem d168_40 : decode (zb 168) 40 = .ok (.invokevirtual 168, 3) := by decide +kernel
theorem d168_43 : decode (zb 168) 43 = .ok (.imul, 1) := by decide +kernel
theorem d168_44 : decode (zb 168) 44 = .ok (.if_icmp .lt 38, 3) := by decide +kernel
theorem d168_47 : decode (zb 168) 47 = .ok (.aload_n 0, 1) := by decide +kernel
theorem d168_48 : decode (zb 168) 48 = .ok (.getfield 44, 3) := by decide +kernel
theorem d168_51 : decode (zb 168) 51 = .ok (.iconst 1, 1) := by decide +kernel
theorem d168_52 : decode (zb 168) 52 = .ok (.dup2, 1) := by decide +kernel
theorem d168_53 : decode (zb 168) 53 = .ok (.iaload, 1) := by decide +kernel
theorem d168_54 : decode (zb 168) 54 = .ok (.bipush 16, 2) := by decide +kernel
theorem d168_56 : decode (zb 168) 56 = .ok (.aload_n 0, 1) := by decide +kernel
theorem d168_57 : decode (zb 168) 57 = .ok (.aload_n 0, 1) := by decide +kernel
theorem d168_58 : decode (zb 168) 58 = .ok (.invokevirtual 215, 3) := by decide +kernel
theorem d168_61 : decode (zb 168) 61 = .ok (.invokevirtual 168, 3) := by decide +kernel
theorem d168_64 : decode (zb 168) 64 = .ok (.imul, 1) := by decide +kernel
theorem d168_65 : decode (zb 168) 65 = .ok (.isub, 1) := by decide +kernel
theorem d168_66 : decode (zb 168) 66 = .ok (.iastore, 1) := by decide +kernel
theorem d168_67 : decode (zb 168) 67 = .ok (.aload_n 0, 1) := by decide +kernel
theorem d168_68 : decode (zb 168) 68 = .ok (.aload_n 0, 1) := by decide +kernel
theorem d168_69 : decode (zb 168) 69 = .ok (.getfield 44, 3) := by decide +kernel
theorem d168_72 : decode (zb 168) 72 = .ok (.iconst 0, 1) := by decide +kernel
theorem d168_73 : decode (zb 168) 73 = .ok (.iaload, 1) := by decide +kernel
theorem d168_74 : decode (zb 168) 74 = .ok (.iconst 1, 1) := by decide +kernel
theorem d168_75 : decode (zb 168) 75 = .ok (.iadd, 1) := by decide +kernel
theorem d168_76 : decode (zb 168) 76 = .ok (.invokevirtual 209, 3) := by decide +kernel
theorem d168_79 : decode (zb 168) 79 = .ok (.goto (-63), 3) := by decide +kernel
theorem d168_82 : decode (zb 168) 82 = .ok (.return_, 1) := by decide +kernel
theorem zo_169 : zo 169 = 11 := by decide +kernel
theorem zret_169 : zret 169 = some .int := by decide +kernel
theorem d169_0 : decode (zb 169) 0 = .ok (.aload_n 0, 1) := by decide +kernel
theorem d169_1 : decode (zb 169) 1 = .ok (.invokevirtual 215, 3) := by decide +kernel
theorem d169_4 : decode (zb 169) 4 = .ok (.istore_n 1, 1) := by decide +kernel
theorem d169_5 : decode (zb 169) 5 = .ok (.aload_n 0, 1) := by decide +kernel
theorem d169_6 : decode (zb 169) 6 = .ok (.getfield 44, 3) := by decide +kernel
theorem d169_9 : decode (zb 169) 9 = .ok (.iconst 1, 1) := by decide +kernel
theorem d169_10 : decode (zb 169) 10 = .ok (.iaload, 1) := by decide +kernel
theorem d169_11 : decode (zb 169) 11 = .ok (.bipush 16, 2) := by decide +kernel
theorem d169_13 : decode (zb 169) 13 = .ok (.idiv, 1) := by decide +kernel
theorem d169_14 : decode (zb 169) 14 = .ok (.istore_n 2, 1) := by decide +kernel
theorem d169_15 : decode (zb 169) 15 = .ok (.aload_n 0, 1) := by decide +kernel
theorem d169_16 : decode (zb 169) 16 = .ok (.getfield 44, 3) := by decide +kernel
theorem d169_19 : decode (zb 169) 19 = .ok (.iconst 1, 1) := by decide +kernel
theorem d169_20 : decode (zb 169) 20 = .ok (.iaload, 1) := by decide +kernel
theorem d169_21 : decode (zb 169) 21 = .ok (.bipush 16, 2) := by decide +kernel
theorem d169_23 : decode (zb 169) 23 = .ok (.irem, 1) := by decide +kernel
theorem d169_24 : decode (zb 169) 24 = .ok (.istore_n 3, 1) := by decide +kernel
theorem d169_25 : decode (zb 169) 25 = .ok (.aload_n 0, 1) := by decide +kernel
theorem d169_26 : decode (zb 169) 26 = .ok (.iload_n 1, 1) := by decide +kernel
theorem d169_27 : decode (zb 169) 27 = .ok (.iload_n 2, 1) := by decide +kernel
theorem d169_28 : decode (zb 169) 28 = .ok (.invokevirtual 171, 3) := by decide +kernel
theorem d169_31 : decode (zb 169) 31 = .ok (.istore 4, 2) := by decide +kernel
theorem d169_33 : decode (zb 169) 33 = .ok (.aload_n 0, 1) := by decide +kernel
theorem d169_34 : decode (zb 169) 34 = .ok (.iload_n 1, 1) := by decide +kernel
theorem d169_35 : decode (zb 169) 35 = .ok (.iload_n 2, 1) := by decide +kernel
theorem d169_36 : decode (zb 169) 36 = .ok (.iconst 1, 1) := by decide +kernel
theorem d169_37 : decode (zb 169) 37 = .ok (.iadd, 1) := by decide +kernel
theorem d169_38 : decode (zb 169) 38 = .ok (.aload_n 0, 1) := by decide +kernel
theorem d169_39 : decode (zb 169) 39 = .ok (.iload_n 1, 1) := by decide +kernel
theorem d169_40 : decode (zb 169) 40 = .ok (.invokevirtual 168, 3) := by decide +kernel
theorem d169_43 : decode (zb 169) 43 = .ok (.if_icmp .ge 9, 3) := by decide +kernel
theorem d169_46 : decode (zb 169) 46 = .ok (.iload_n 2, 1) := by decide +kernel
theorem d169_47 : decode (zb 169) 47 = .ok (.iconst 1, 1) := by decide +kernel
theorem d169_48 : decode (zb 169) 48 = .ok (.iadd, 1) := by decide +kernel
theorem d169_49 : decode (zb 169) 49 = .ok (.goto 4, 3) := by decide +kernel
theorem d169_52 : decode (zb 169) 52 = .ok (.iload_n 2, 1) := by decide +kernel
theorem d169_53 : decode (zb 169) 53 = .ok (.invokevirtual 171, 3) := by decide +kernel
theorem d169_56 : decode (zb 169) 56 = .ok (.istore 5, 2) := by decide +kernel
theorem d169_58 : decode (zb 169) 58 = .ok (.aload_n 0, 1) := by decide +kernel
theorem d169_59 : decode (zb 169) 59 = .ok (.getfield 44, 3) := by decide +kernel
theorem d169_62 : decode (zb 169) 62 = .ok (.bipush 14, 2) := by decide +kernel
theorem d169_64 : decode (zb 169) 64 = .ok (.iaload, 1) := by decide +kernel
theorem d169_65 : decode (zb 169) 65 = .ok (.ifCond .ne 8, 3) := by decide +kernel
theorem d169_68 : decode (zb 169) 68 = .ok (.iload 4, 2) := by decide +kernel
theorem d169_70 : decode (zb 169) 70 = .ok (.goto 45, 3) := by decide +kernel
theorem d169_73 : decode (zb 169) 73 = .ok (.aload_n 0, 1) := by decide +kernel
theorem d169_74 : decode (zb 169) 74 = .ok (.getfield 44, 3) := by decide +kernel
theorem d169_77 : decode (zb 169) 77 = .ok (.bipush 14, 2) := by decide +kernel
theorem d169_79 : decode (zb 169) 79 = .ok (.iaload, 1) := by decide +kernel
theorem d169_80 : decode (zb 169) 80 = .ok (.iconst 1, 1) := by decide +kernel
theorem d169_81 : decode (zb 169) 81 = .ok (.if_icmp .ne 21, 3) := by decide +kernel
theorem d169_84 : decode (zb 169) 84 = .ok (.iload 4, 2) := by decide +kernel
theorem d169_86 : decode (zb 169) 86 = .ok (.bipush 16, 2) := by decide +kernel
theorem d169_88 : decode (zb 169) 88 = .ok (.iload_n 3, 1) := by decide +kernel
theorem d169_89 : decode (zb 169) 89 = .ok (.isub, 1) := by decide +kernel
theorem d169_90 : decode (zb 169) 90 = .ok (.imul, 1) := by decide +kernel
theorem d169_91 : decode (zb 169) 91 = .ok (.iload 5, 2) := by decide +kernel
theorem d169_93 : decode (zb 169) 93 = .ok (.iload_n 3, 1) := by decide +kernel
theorem d169_94 : decode (zb 169) 94 = .ok (.imul, 1) := by decide +kernel
theorem d169_95 : decode (zb 169) 95 = .ok (.iadd, 1) := by decide +kernel
theorem d169_96 : decode (zb 169) 96 = .ok (.bipush 16, 2) := by decide +kernel
theorem d169_98 : decode (zb 169) 98 = .ok (.idiv, 1) := by decide +kernel
theorem d169_99 : decode (zb 169) 99 = .ok (.goto 16, 3) := by decide +kernel
theorem d169_102 : decode (zb 169) 102 = .ok (.iload_n 3, 1) := by decide +kernel
theorem d169_103 : decode (zb 169) 103 = .ok (.bipush 8, 2) := by decide +kernel
theorem d169_105 : decode (zb 169) 105 = .ok (.if_icmp .ge 8, 3) := by decide +kernel
theorem d169_108 : decode (zb 169) 108 = .ok (.iload 4, 2) := by decide +kernel
theorem d169_110 : decode (zb 169) 110 = .ok (.goto 5, 3) := by decide +kernel
theorem d169_113 : decode (zb 169) 113 = .ok (.iload 5, 2) := by decide +kernel
theorem d169_115 : decode (zb 169) 115 = .ok (.ireturn, 1) := by decide +kernel
theorem zo_170 : zo 170 = 11 := by decide +kernel
theorem zret_170 : zret 170 = some .int := by decide +kernel
theorem d170_0 : decode (zb 170) 0 = .ok (.iconst 0, 1) := by decide +kernel
theorem d170_1 : decode (zb 170) 1 = .ok (.istore_n 2, 1) := by decide +kernel
theorem d170_2 : decode (zb 170) 2 = .ok (.iload_n 2, 1) := by decide +kernel
theorem d170_3 : decode (zb 170) 3 = .ok (.aload_n 0, 1) := by decide +kernel
theorem d170_4 : decode (zb 170) 4 = .ok (.getfield 44, 3) := by decide +kernel
theorem d170_7 : decode (zb 170) 7 = .ok (.bipush 7, 2) := by decide +kernel
theorem d170_9 : decode (zb 170) 9 = .ok (.iaload, 1) := by decide +kernel
theorem d170_10 : decode (zb 170) 10 = .ok (.if_icmp .ge 24, 3) := by decide +kernel
theorem d170_13 : decode (zb 170) 13 = .ok (.aload_n 0, 1) := by decide +kernel
theorem d170_14 : decode (zb 170) 14 = .ok (.getfield 44, 3) := by decide +kernel
theorem d170_17 : decode (zb 170) 17 = .ok (.bipush 42, 2) := by decide +kernel
theorem d170_19 : decode (zb 170) 19 = .ok (.iload_n 2, 1) := by decide +kernel
theorem d170_20 : decode (zb 170) 20 = .ok (.iadd, 1) := by decide +kernel
theorem d170_21 : decode (zb 170) 21 = .ok (.iaload, 1) := by decide +kernel
theorem d170_22 : decode (zb 170) 22 = .ok (.iload_n 1, 1) := by decide +kernel
theorem d170_23 : decode (zb 170) 23 = .ok (.if_icmp .ne 5, 3) := by decide +kernel
theorem d170_26 : decode (zb 170) 26 = .ok (.iload_n 2, 1) := by decide +kernel
theorem d170_27 : decode (zb 170) 27 = .ok (.ireturn, 1) := by decide +kernel
theorem d170_28 : decode (zb 170) 28 = .ok (.iinc 2 1, 3) := by decide +kernel
theorem d170_31 : decode (zb 170) 31 = .ok (.goto (-29), 3) := by decide +kernel
theorem d170_34 : decode (zb 170) 34 = .ok (.bipush (-4), 2) := by decide +kernel
theorem d170_36 : decode (zb 170) 36 = .ok (.ireturn, 1) := by decide +kernel
theorem zo_171 : zo 171 = 11 := by decide +kernel
theorem zret_171 : zret 171 = none := by decide +kernel
theorem d171_0 : decode (zb 171) 0 = .ok (.bipush 42, 2) := by decide +kernel
theorem d171_2 : decode (zb 171) 2 = .ok (.iload_n 1, 1) := by decide +kernel
theorem d171_3 : decode (zb 171) 3 = .ok (.iadd, 1) := by decide +kernel
theorem d171_4 : decode (zb 171) 4 = .ok (.istore_n 2, 1) := by decide +kernel
theorem d171_5 : decode (zb 171) 5 = .ok (.iload_n 2, 1) := by decide +kernel
theorem d171_6 : decode (zb 171) 6 = .ok (.bipush 42, 2) := by decide +kernel
theorem d171_8 : decode (zb 171) 8 = .ok (.aload_n 0, 1) := by decide +kernel
theorem d171_9 : decode (zb 171) 9 = .ok (.getfield 44, 3) := by decide +kernel
theorem d171_12 : decode (zb 171) 12 = .ok (.bipush 7, 2) := by decide +kernel
theorem d171_14 : decode (zb 171) 14 = .ok (.iaload, 1) := by decide +kernel
theorem d171_15 : decode (zb 171) 15 = .ok (.iadd, 1) := by decide +kernel
theorem d171_16 : decode (zb 171) 16 = .ok (.iconst 1, 1) := by decide +kernel
theorem d171_17 : decode (zb 171) 17 = .ok (.isub, 1) := by decide +kernel
theorem d171_18 : decode (zb 171) 18 = .ok (.if_icmp .ge 23, 3) := by decide +kernel
theorem d171_21 : decode (zb 171) 21 = .ok (.aload_n 0, 1) := by decide +kernel
theorem d171_22 : decode (zb 171) 22 = .ok (.getfield 44, 3) := by decide +kernel
theorem d171_25 : decode (zb 171) 25 = .ok (.iload_n 2, 1) := by decide +kernel
theorem d171_26 : decode (zb 171) 26 = .ok (.aload_n 0, 1) := by decide +kernel
theorem d171_27 : decode (zb 171) 27 = .ok (.getfield 44, 3) := by decide +kernel
theorem d171_30 : decode (zb 171) 30 = .ok (.iload_n 2, 1) := by decide +kernel
theorem d171_31 : decode (zb 171) 31 = .ok (.iconst 1, 1) := by decide +kernel
theorem d171_32 : decode (zb 171) 32 = .ok (.iadd, 1) := by decide +kernel
theorem d171_33 : decode (zb 171) 33 = .ok (.iaload, 1) := by decide +kernel
theorem d171_34 : decode (zb 171) 34 = .ok (.iastore, 1) := by decide +kernel
theorem d171_35 : decode (zb 171) 35 = .ok (.iinc 2 1, 3) := by decide +kernel
theorem d171_38 : decode (zb 171) 38 = .ok (.goto (-33), 3) := by decide +kernel
theorem d171_41 : decode (zb 171) 41 = .ok (.aload_n 0, 1) := by decide +kernel
theorem d171_42 : decode (zb 171) 42 = .ok (.getfield 44, 3) := by decide +kernel
theorem d171_45 : decode (zb 171) 45 = .ok (.bipush 7, 2) := by decide +kernel
theorem d171_47 : decode (zb 171) 47 = .ok (.dup2, 1) := by decide +kernel
theorem d171_48 : decode (zb 171) 48 = .ok (.iaload, 1) := by decide +kernel
theorem d171_49 : decode (zb 171) 49 = .ok (.iconst 1, 1) := by decide +kernel
theorem d171_50 : decode (zb 171) 50 = .ok (.isub, 1) := by decide +kernel
theorem d171_51 : decode (zb 171) 51 = .ok (.iastore, 1) := by decide +kernel
theorem d171_52 : decode (zb 171) 52 = .ok (.return_, 1) := by decide +kernel
theorem zo_172 : zo 172 = 11 := by decide +kernel
theorem zret_172 : zret 172 = none := by decide +kernel
theorem d172_0 : decode (zb 172) 0 = .ok (.aload_n 0, 1) := by decide +kernel
theorem d172_1 : decode (zb 172) 1 = .ok (.getfield 44, 3) := by decide +kernel
theorem d172_4 : decode (zb 172) 4 = .ok (.bipush 7, 2) := by decide +kernel
theorem d172_6 : decode (zb 172) 6 = .ok (.iaload, 1) := by decide +kernel
theorem d172_7 : decode (zb 172) 7 = .ok (.aload_n 0, 1) := by decide +kernel
theorem d172_8 : decode (zb 172) 8 = .ok (.getfield 44, 3) := by decide +kernel
theorem d172_11 : decode (zb 172) 11 = .ok (.bipush 15, 2) := by decide +kernel
theorem d172_13 : decode (zb 172) 13 = .ok (.iaload, 1) := by decide +kernel
theorem d172_14 : decode (zb 172) 14 = .ok (.if_icmp .ne 8, 3) := by decide +kernel
theorem d172_17 : decode (zb 172) 17 = .ok (.aload_n 0, 1) := by decide +kernel
theorem d172_18 : decode (zb 172) 18 = .ok (.iconst 0, 1) := by decide +kernel
theorem d172_19 : decode (zb 172) 19 = .ok (.invokevirtual 218, 3) := by decide +kernel
theorem d172_22 : decode (zb 172) 22 = .ok (.aload_n 0, 1) := by decide +kernel
theorem d172_23 : decode (zb 172) 23 = .ok (.getfield 44, 3) := by decide +kernel
theorem d172_26 : decode (zb 172) 26 = .ok (.bipush 42, 2) := by decide +kernel
theorem d172_28 : decode (zb 172) 28 = .ok (.aload_n 0, 1) := by decide +kernel
theorem d172_29 : decode (zb 172) 29 = .ok (.getfield 44, 3) := by decide +kernel
theorem d172_32 : decode (zb 172) 32 = .ok (.bipush 7, 2) := by decide +kernel
theorem d172_34 : decode (zb 172) 34 = .ok (.iaload, 1) := by decide +kernel
theorem d172_35 : decode (zb 172) 35 = .ok (.iadd, 1) := by decide +kernel
theorem d172_36 : decode (zb 172) 36 = .ok (.iload_n 1, 1) := by decide +kernel
theorem d172_37 : decode (zb 172) 37 = .ok (.iastore, 1) := by decide +kernel
theorem d172_38 : decode (zb 172) 38 = .ok (.aload_n 0, 1) := by decide +kernel
theorem d172_39 : decode (zb 172) 39 = .ok (.getfield 44, 3) := by decide +kernel
theorem d172_42 : decode (zb 172) 42 = .ok (.bipush 7, 2) := by decide +kernel
theorem d172_44 : decode (zb 172) 44 = .ok (.dup2, 1) := by decide +kernel
theorem d172_45 : decode (zb 172) 45 = .ok (.iaload, 1) := by decide +kernel
theorem d172_46 : decode (zb 172) 46 = .ok (.iconst 1, 1) := by decide +kernel
theorem d172_47 : decode (zb 172) 47 = .ok (.iadd, 1) := by decide +kernel
theorem d172_48 : decode (zb 172) 48 = .ok (.iastore, 1) := by decide +kernel
theorem d172_49 : decode (zb 172) 49 = .ok (.return_, 1) := by decide +kernel
theorem zo_173 : zo 173 = 11 := by decide +kernel
theorem zret_173 : zret 173 = some .boolean := by decide +kernel
theorem d173_0 : decode (zb 173) 0 = .ok (.iconst 0, 1) := by decide +kernel
theorem d173_1 : decode (zb 173) 1 = .ok (.istore_n 2, 1) := by decide +kernel
theorem d173_2 : decode (zb 173) 2 = .ok (.iconst 0, 1) := by decide +kernel
theorem d173_3 : decode (zb 173) 3 = .ok (.istore_n 3, 1) := by decide +kernel
theorem d173_4 : decode (zb 173) 4 = .ok (.iload_n 3, 1) := by decide +kernel
theorem d173_5 : decode (zb 173) 5 = .ok (.aload_n 0, 1) := by decide +kernel
theorem d173_6 : decode (zb 173) 6 = .ok (.getfield 44, 3) := by decide +kernel
theorem d173_9 : decode (zb 173) 9 = .ok (.bipush 8, 2) := by decide +kernel
theorem d173_11 : decode (zb 173) 11 = .ok (.iaload, 1) := by decide +kernel
theorem d173_12 : decode (zb 173) 12 = .ok (.if_icmp .ge 32, 3) := by decide +kernel
theorem d173_15 : decode (zb 173) 15 = .ok (.iload_n 2, 1) := by decide +kernel
theorem d173_16 : decode (zb 173) 16 = .ok (.ifCond .ne 16, 3) := by decide +kernel
theorem d173_19 : decode (zb 173) 19 = .ok (.aload_n 0, 1) := by decide +kernel
theorem d173_20 : decode (zb 173) 20 = .ok (.getfield 44, 3) := by decide +kernel
theorem d173_23 : decode (zb 173) 23 = .ok (.bipush 48, 2) := by decide +kernel
theorem d173_25 : decode (zb 173) 25 = .ok (.iload_n 3, 1) := by decide +kernel
theorem d173_26 : decode (zb 173) 26 = .ok (.iadd, 1) := by decide +kernel
theorem d173_27 : decode (zb 173) 27 = .ok (.iaload, 1) := by decide +kernel
theorem d173_28 : decode (zb 173) 28 = .ok (.iload_n 1, 1) := by decide +kernel
theorem d173_29 : decode (zb 173) 29 = .ok (.if_icmp .ne 7, 3) := by decide +kernel
theorem d173_32 : decode (zb 173) 32 = .ok (.iconst 1, 1) := by decide +kernel
theorem d173_33 : decode (zb 173) 33 = .ok (.goto 4, 3) := by decide +kernel
theorem d173_36 : decode (zb 173) 36 = .ok (.iconst 0, 1) := by decide +kernel
theorem d173_37 : decode (zb 173) 37 = .ok (.istore_n 2, 1) := by decide +kernel
theorem d173_38 : decode (zb 173) 38 = .ok (.iinc 3 1, 3) := by decide +kernel
theorem d173_41 : decode (zb 173) 41 = .ok (.goto (-37), 3) := by decide +kernel
theorem d173_44 : decode (zb 173) 44 = .ok (.iload_n 2, 1) := by decide +kernel
theorem d173_45 : decode (zb 173) 45 = .ok (.ireturn, 1) := by decide +kernel
theorem zo_174 : zo 174 = 11 := by decide +kernel
theorem zret_174 : zret 174 = none := by decide +kernel
theorem d174_0 : decode (zb 174) 0 = .ok (.iconst 0, 1) := by decide +kernel
theorem d174_1 : decode (zb 174) 1 = .ok (.istore_n 1, 1) := by decide +kernel
theorem d174_2 : decode (zb 174) 2 = .ok (.aload_n 0, 1) := by decide +kernel
theorem d174_3 : decode (zb 174) 3 = .ok (.getfield 44, 3) := by decide +kernel
theorem d174_6 : decode (zb 174) 6 = .ok (.bipush 8, 2) := by decide +kernel
theorem d174_8 : decode (zb 174) 8 = .ok (.iaload, 1) := by decide +kernel
theorem d174_9 : decode (zb 174) 9 = .ok (.istore_n 2, 1) := by decide +kernel
theorem d174_10 : decode (zb 174) 10 = .ok (.iconst 0, 1) := by decide +kernel
theorem d174_11 : decode (zb 174) 11 = .ok (.istore_n 3, 1) := by decide +kernel
theorem d174_12 : decode (zb 174) 12 = .ok (.iload_n 3, 1) := by decide +kernel
theorem d174_13 : decode (zb 174) 13 = .ok (.iload_n 2, 1) := by decide +kernel
theorem d174_14 : decode (zb 174) 14 = .ok (.if_icmp .ge 82, 3) := by decide +kernel
theorem d174_17 : decode (zb 174) 17 = .ok (.aload_n 0, 1) := by decide +kernel
theorem d174_18 : decode (zb 174) 18 = .ok (.getfield 44, 3) := by decide +kernel
theorem d174_21 : decode (zb 174) 21 = .ok (.bipush 80, 2) := by decide +kernel
theorem d174_23 : decode (zb 174) 23 = .ok (.iload_n 3, 1) := by decide +kernel
theorem d174_24 : decode (zb 174) 24 = .ok (.iadd, 1) := by decide +kernel
theorem d174_25 : decode (zb 174) 25 = .ok (.iaload, 1) := by decide +kernel
theorem d174_26 : decode (zb 174) 26 = .ok (.aload_n 0, 1) := by decide +kernel
theorem d174_27 : decode (zb 174) 27 = .ok (.getfield 44, 3) := by decide +kernel
theorem d174_30 : decode (zb 174) 30 = .ok (.iconst 2, 1) := by decide +kernel
theorem d174_31 : decode (zb 174) 31 = .ok (.iaload, 1) := by decide +kernel
theorem d174_32 : decode (zb 174) 32 = .ok (.if_icmp .gt 19, 3) := by decide +kernel
theorem d174_35 : decode (zb 174) 35 = .ok (.aload_n 0, 1) := by decide +kernel
theorem d174_36 : decode (zb 174) 36 = .ok (.aload_n 0, 1) := by decide +kernel
theorem d174_37 : decode (zb 174) 37 = .ok (.getfield 44, 3) := by decide +kernel
theorem d174_40 : decode (zb 174) 40 = .ok (.bipush 48, 2) := by decide +kernel
theorem d174_42 : decode (zb 174) 42 = .ok (.iload_n 3, 1) := by decide +kernel
theorem d174_43 : decode (zb 174) 43 = .ok (.iadd, 1) := by decide +kernel
theorem d174_44 : decode (zb 174) 44 = .ok (.iaload, 1) := by decide +kernel
theorem d174_45 : decode (zb 174) 45 = .ok (.invokevirtual 221, 3) := by decide +kernel
theorem d174_48 : decode (zb 174) 48 = .ok (.goto 42, 3) := by decide +kernel
theorem d174_51 : decode (zb 174) 51 = .ok (.aload_n 0, 1) := by decide +kernel
theorem d174_52 : decode (zb 174) 52 = .ok (.getfield 44, 3) := by decide +kernel
theorem d174_55 : decode (zb 174) 55 = .ok (.bipush 48, 2) := by decide +kernel
theorem d174_57 : decode (zb 174) 57 = .ok (.iload_n 1, 1) := by decide +kernel
theorem d174_58 : decode (zb 174) 58 = .ok (.iadd, 1) := by decide +kernel
theorem d174_59 : decode (zb 174) 59 = .ok (.aload_n 0, 1) := by decide +kernel
theorem d174_60 : decode (zb 174) 60 = .ok (.getfield 44, 3) := by decide +kernel
theorem d174_63 : decode (zb 174) 63 = .ok (.bipush 48, 2) := by decide +kernel
theorem d174_65 : decode (zb 174) 65 = .ok (.iload_n 3, 1) := by decide +kernel
theorem d174_66 : decode (zb 174) 66 = .ok (.iadd, 1) := by decide +kernel
theorem d174_67 : decode (zb 174) 67 = .ok (.iaload, 1) := by decide +kernel
theorem d174_68 : decode (zb 174) 68 = .ok (.iastore, 1) := by decide +kernel
theorem d174_69 : decode (zb 174) 69 = .ok (.aload_n 0, 1) := by decide +kernel
theorem d174_70 : decode (zb 174) 70 = .ok (.getfield 44, 3) := by decide +kernel
theorem d174_73 : decode (zb 174) 73 = .ok (.bipush 80, 2) := by decide +kernel
theorem d174_75 : decode (zb 174) 75 = .ok (.iload_n 1, 1) := by decide +kernel
theorem d174_76 : decode (zb 174) 76 = .ok (.iadd, 1) := by decide +kernel
theorem d174_77 : decode (zb 174) 77 = .ok (.aload_n 0, 1) := by decide +kernel
theorem d174_78 : decode (zb 174) 78 = .ok (.getfield 44, 3) := by decide +kernel
theorem d174_81 : decode (zb 174) 81 = .ok (.bipush 80, 2) := by decide +kernel
theorem d174_83 : decode (zb 174) 83 = .ok (.iload_n 3, 1) := by decide +kernel
theorem d174_84 : decode (zb 174) 84 = .ok (.iadd, 1) := by decide +kernel
theorem d174_85 : decode (zb 174) 85 = .ok (.iaload, 1) := by decide +kernel
theorem d174_86 : decode (zb 174) 86 = .ok (.iastore, 1) := by decide +kernel
theorem d174_87 : decode (zb 174) 87 = .ok (.iinc 1 1, 3) := by decide +kernel
theorem d174_90 : decode (zb 174) 90 = .ok (.iinc 3 1, 3) := by decide +kernel
theorem d174_93 : decode (zb 174) 93 = .ok (.goto (-81), 3) := by decide +kernel
theorem d174_96 : decode (zb 174) 96 = .ok (.aload_n 0, 1) := by decide +kernel
theorem d174_97 : decode (zb 174) 97 = .ok (.getfield 44, 3) := by decide +kernel
theorem d174_100 : decode (zb 174) 100 = .ok (.bipush 8, 2) := by decide +kernel
theorem d174_102 : decode (zb 174) 102 = .ok (.iload_n 1, 1) := by decide +kernel
theorem d174_103 : decode (zb 174) 103 = .ok (.iastore, 1) := by decide +kernel
theorem d174_104 : decode (zb 174) 104 = .ok (.return_, 1) := by decide +kernel
theorem zo_175 : zo 175 = 11 := by decide +kernel
theorem zret_175 : zret 175 = none := by decide +kernel
theorem d175_0 : decode (zb 175) 0 = .ok (.aload_n 0, 1) := by decide +kernel
theorem d175_1 : decode (zb 175) 1 = .ok (.getfield 44, 3) := by decide +kernel
theorem d175_4 : decode (zb 175) 4 = .ok (.iconst 4, 1) := by decide +kernel
theorem d175_5 : decode (zb 175) 5 = .ok (.iaload, 1) := by decide +kernel
theorem d175_6 : decode (zb 175) 6 = .ok (.sipush 200, 3) := by decide +kernel
theorem d175_9 : decode (zb 175) 9 = .ok (.if_icmp .ge 18, 3) := by decide +kernel
theorem d175_12 : decode (zb 175) 12 = .ok (.aload_n 0, 1) := by decide +kernel
theorem d175_13 : decode (zb 175) 13 = .ok (.getfield 44, 3) := by decide +kernel
theorem d175_16 : decode (zb 175) 16 = .ok (.bipush 112, 2) := by decide +kernel
theorem d175_18 : decode (zb 175) 18 = .ok (.aload_n 0, 1) := by decide +kernel
theorem d175_19 : decode (zb 175) 19 = .ok (.getfield 44, 3) := by decide +kernel
theorem d175_22 : decode (zb 175) 22 = .ok (.iconst 4, 1) := by decide +kernel
theorem d175_23 : decode (zb 175) 23 = .ok (.iaload, 1) := by decide +kernel
theorem d175_24 : decode (zb 175) 24 = .ok (.iadd, 1) := by decide +kernel
theorem d175_25 : decode (zb 175) 25 = .ok (.iload_n 1, 1) := by decide +kernel
theorem d175_26 : decode (zb 175) 26 = .ok (.iastore, 1) := by decide +kernel
theorem d175_27 : decode (zb 175) 27 = .ok (.aload_n 0, 1) := by decide +kernel
theorem d175_28 : decode (zb 175) 28 = .ok (.getfield 44, 3) := by decide +kernel
theorem d175_31 : decode (zb 175) 31 = .ok (.iconst 4, 1) := by decide +kernel
theorem d175_32 : decode (zb 175) 32 = .ok (.dup2, 1) := by decide +kernel
theorem d175_33 : decode (zb 175) 33 = .ok (.iaload, 1) := by decide +kernel
theorem d175_34 : decode (zb 175) 34 = .ok (.iconst 1, 1) := by decide +kernel
theorem d175_35 : decode (zb 175) 35 = .ok (.iadd, 1) := by decide +kernel
theorem d175_36 : decode (zb 175) 36 = .ok (.iastore, 1) := by decide +kernel
theorem d175_37 : decode (zb 175) 37 = .ok (.aload_n 0, 1) := by decide +kernel
theorem d175_38 : decode (zb 175) 38 = .ok (.getfield 44, 3) := by decide +kernel
theorem d175_41 : decode (zb 175) 41 = .ok (.iconst 3, 1) := by decide +kernel
theorem d175_42 : decode (zb 175) 42 = .ok (.iload_n 1, 1) := by decide +kernel
theorem d175_43 : decode (zb 175) 43 = .ok (.iastore, 1) := by decide +kernel
theorem d175_44 : decode (zb 175) 44 = .ok (.return_, 1) := by decide +kernel
theorem zo_176 : zo 176 = 11 := by decide +kernel
theorem zret_176 : zret 176 = none := by decide +kernel
theorem d176_0 : decode (zb 176) 0 = .ok (.aload_n 0, 1) := by decide +kernel
theorem d176_1 : decode (zb 176) 1 = .ok (.invokevirtual 224, 3) := by decide +kernel
theorem d176_4 : decode (zb 176) 4 = .ok (.bipush 8, 2) := by decide +kernel
theorem d176_6 : decode (zb 176) 6 = .ok (.idiv, 1) := by decide +kernel
theorem d176_7 : decode (zb 176) 7 = .ok (.istore_n 1, 1) := by decide +kernel
theorem d176_8 : decode (zb 176) 8 = .ok (.aload_n 0, 1) := by decide +kernel
theorem d176_9 : decode (zb 176) 9 = .ok (.iload_n 1, 1) := by decide +kernel
theorem d176_10 : decode (zb 176) 10 = .ok (.invokevirtual 227, 3) := by decide +kernel
theorem d176_13 : decode (zb 176) 13 = .ok (.istore_n 2, 1) := by decide +kernel
theorem d176_14 : decode (zb 176) 14 = .ok (.iload_n 2, 1) := by decide +kernel
theorem d176_15 : decode (zb 176) 15 = .ok (.bipush (-4), 2) := by decide +kernel
theorem d176_17 : decode (zb 176) 17 = .ok (.if_icmp .ne 24, 3) := by decide +kernel
theorem d176_20 : decode (zb 176) 20 = .ok (.aload_n 0, 1) := by decide +kernel
theorem d176_21 : decode (zb 176) 21 = .ok (.getfield 44, 3) := by decide +kernel
theorem d176_24 : decode (zb 176) 24 = .ok (.iconst 5, 1) := by decide +kernel
theorem d176_25 : decode (zb 176) 25 = .ok (.dup2, 1) := by decide +kernel
theorem d176_26 : decode (zb 176) 26 = .ok (.iaload, 1) := by decide +kernel
theorem d176_27 : decode (zb 176) 27 = .ok (.iconst 1, 1) := by decide +kernel
theorem d176_28 : decode (zb 176) 28 = .ok (.iadd, 1) := by decide +kernel
theorem d176_29 : decode (zb 176) 29 = .ok (.iastore, 1) := by decide +kernel
theorem d176_30 : decode (zb 176) 30 = .ok (.aload_n 0, 1) := by decide +kernel
theorem d176_31 : decode (zb 176) 31 = .ok (.aload_n 0, 1) := by decide +kernel
theorem d176_32 : decode (zb 176) 32 = .ok (.getfield 44, 3) := by decide +kernel
theorem d176_35 : decode (zb 176) 35 = .ok (.iconst 3, 1) := by decide +kernel
theorem d176_36 : decode (zb 176) 36 = .ok (.iaload, 1) := by decide +kernel
theorem d176_37 : decode (zb 176) 37 = .ok (.invokevirtual 230, 3) := by decide +kernel
theorem d176_40 : decode (zb 176) 40 = .ok (.return_, 1) := by decide +kernel
theorem d176_41 : decode (zb 176) 41 = .ok (.aload_n 0, 1) := by decide +kernel
theorem d176_42 : decode (zb 176) 42 = .ok (.iload_n 2, 1) := by decide +kernel
theorem d176_43 : decode (zb 176) 43 = .ok (.invokevirtual 218, 3) := by decide +kernel
theorem d176_46 : decode (zb 176) 46 = .ok (.aload_n 0, 1) := by decide +kernel
theorem d176_47 : decode (zb 176) 47 = .ok (.getfield 44, 3) := by decide +kernel
theorem d176_50 : decode (zb 176) 50 = .ok (.bipush 42, 2) := by decide +kernel
theorem d176_52 : decode (zb 176) 52 = .ok (.aload_n 0, 1) := by decide +kernel
theorem d176_53 : decode (zb 176) 53 = .ok (.getfield 44, 3) := by decide +kernel
theorem d176_56 : decode (zb 176) 56 = .ok (.bipush 7, 2) := by decide +kernel
theorem d176_58 : decode (zb 176) 58 = .ok (.iaload, 1) := by decide +kernel
theorem d176_59 : decode (zb 176) 59 = .ok (.iadd, 1) := by decide +kernel
theorem d176_60 : decode (zb 176) 60 = .ok (.iload_n 1, 1) := by decide +kernel
theorem d176_61 : decode (zb 176) 61 = .ok (.iastore, 1) := by decide +kernel
theorem d176_62 : decode (zb 176) 62 = .ok (.aload_n 0, 1) := by decide +kernel
theorem d176_63 : decode (zb 176) 63 = .ok (.getfield 44, 3) := by decide +kernel
theorem d176_66 : decode (zb 176) 66 = .ok (.bipush 7, 2) := by decide +kernel
theorem d176_68 : decode (zb 176) 68 = .ok (.dup2, 1) := by decide +kernel
theorem d176_69 : decode (zb 176) 69 = .ok (.iaload, 1) := by decide +kernel
theorem d176_70 : decode (zb 176) 70 = .ok (.iconst 1, 1) := by decide +kernel
theorem d176_71 : decode (zb 176) 71 = .ok (.iadd, 1) := by decide +kernel
theorem d176_72 : decode (zb 176) 72 = .ok (.iastore, 1) := by decide +kernel
theorem d176_73 : decode (zb 176) 73 = .ok (.aload_n 0, 1) := by decide +kernel
theorem d176_74 : decode (zb 176) 74 = .ok (.aload_n 0, 1) := by decide +kernel
theorem d176_75 : decode (zb 176) 75 = .ok (.invokevirtual 233, 3) := by decide +kernel
theorem d176_78 : decode (zb 176) 78 = .ok (.invokevirtual 230, 3) := by decide +kernel
theorem d176_81 : decode (zb 176) 81 = .ok (.aload_n 0, 1) := by decide +kernel
theorem d176_82 : decode (zb 176) 82 = .ok (.invokevirtual 236, 3) := by decide +kernel
theorem d176_85 : decode (zb 176) 85 = .ok (.return_, 1) := by decide +kernel
theorem zo_177 : zo 177 = 11 := by decide +kernel
theorem zret_177 : zret 177 = none := by decide +kernel
theorem d177_0 : decode (zb 177) 0 = .ok (.aload_n 0, 1) := by decide +kernel
theorem d177_1 : decode (zb 177) 1 = .ok (.iconst 0, 1) := by decide +kernel
theorem d177_2 : decode (zb 177) 2 = .ok (.invokevirtual 205, 3) := by decide +kernel
theorem d177_5 : decode (zb 177) 5 = .ok (.aload_n 0, 1) := by decide +kernel
theorem d177_6 : decode (zb 177) 6 = .ok (.iconst 0, 1) := by decide +kernel
theorem d177_7 : decode (zb 177) 7 = .ok (.putfield 239, 3) := by decide +kernel
theorem d177_10 : decode (zb 177) 10 = .ok (.iconst 0, 1) := by decide +kernel
theorem d177_11 : decode (zb 177) 11 = .ok (.istore_n 1, 1) := by decide +kernel
theorem d177_12 : decode (zb 177) 12 = .ok (.iload_n 1, 1) := by decide +kernel
theorem d177_13 : decode (zb 177) 13 = .ok (.aload_n 0, 1) := by decide +kernel
theorem d177_14 : decode (zb 177) 14 = .ok (.getfield 25, 3) := by decide +kernel
theorem d177_17 : decode (zb 177) 17 = .ok (.bipush 17, 2) := by decide +kernel
theorem d177_19 : decode (zb 177) 19 = .ok (.iaload, 1) := by decide +kernel
theorem d177_20 : decode (zb 177) 20 = .ok (.if_icmp .gt 50, 3) := by decide +kernel
theorem d177_23 : decode (zb 177) 23 = .ok (.aload_n 0, 1) := by decide +kernel
theorem d177_24 : decode (zb 177) 24 = .ok (.getfield 44, 3) := by decide +kernel
theorem d177_27 : decode (zb 177) 27 = .ok (.iconst 0, 1) := by decide +kernel
theorem d177_28 : decode (zb 177) 28 = .ok (.iaload, 1) := by decide +kernel
theorem d177_29 : decode (zb 177) 29 = .ok (.bipush (-4), 2) := by decide +kernel
theorem d177_31 : decode (zb 177) 31 = .ok (.if_icmp .eq 39, 3) := by decide +kernel
theorem d177_34 : decode (zb 177) 34 = .ok (.aload_n 0, 1) := by decide +kernel
theorem d177_35 : decode (zb 177) 35 = .ok (.getfield 47, 3) := by decide +kernel
theorem d177_38 : decode (zb 177) 38 = .ok (.aload_n 0, 1) := by decide +kernel
theorem d177_39 : decode (zb 177) 39 = .ok (.getfield 239, 3) := by decide +kernel
theorem d177_42 : decode (zb 177) 42 = .ok (.aload_n 0, 1) := by decide +kernel
theorem d177_43 : decode (zb 177) 43 = .ok (.invokevirtual 224, 3) := by decide +kernel
theorem d177_46 : decode (zb 177) 46 = .ok (.bipush 8, 2) := by decide +kernel
theorem d177_48 : decode (zb 177) 48 = .ok (.idiv, 1) := by decide +kernel
theorem d177_49 : decode (zb 177) 49 = .ok (.iastore, 1) := by decide +kernel
theorem d177_50 : decode (zb 177) 50 = .ok (.aload_n 0, 1) := by decide +kernel
theorem d177_51 : decode (zb 177) 51 = .ok (.dup, 1) := by decide +kernel
theorem d177_52 : decode (zb 177) 52 = .ok (.getfield 239, 3) := by decide +kernel
theorem d177_55 : decode (zb 177) 55 = .ok (.iconst 1, 1) := by decide +kernel
theorem d177_56 : decode (zb 177) 56 = .ok (.iadd, 1) := by decide +kernel
theorem d177_57 : decode (zb 177) 57 = .ok (.putfield 239, 3) := by decide +kernel
theorem d177_60 : decode (zb 177) 60 = .ok (.aload_n 0, 1) := by decide +kernel
theorem d177_61 : decode (zb 177) 61 = .ok (.invokevirtual 236, 3) := by decide +kernel
theorem d177_64 : decode (zb 177) 64 = .ok (.iinc 1 1, 3) := by decide +kernel
theorem d177_67 : decode (zb 177) 67 = .ok (.goto (-55), 3) := by decide +kernel
theorem d177_70 : decode (zb 177) 70 = .ok (.return_, 1) := by decide +kernel
theorem zo_178 : zo 178 = 11 := by decide +kernel
theorem zret_178 : zret 178 = none := by decide +kernel
theorem d178_0 : decode (zb 178) 0 = .ok (.aload_n 0, 1) := by decide +kernel
theorem d178_1 : decode (zb 178) 1 = .ok (.invokevirtual 242, 3) := by decide +kernel
theorem d178_4 : decode (zb 178) 4 = .ok (.aload_n 0, 1) := by decide +kernel
theorem d178_5 : decode (zb 178) 5 = .ok (.iconst 1, 1) := by decide +kernel
theorem d178_6 : decode (zb 178) 6 = .ok (.invokevirtual 205, 3) := by decide +kernel
theorem d178_9 : decode (zb 178) 9 = .ok (.iconst 0, 1) := by decide +kernel
theorem d178_10 : decode (zb 178) 10 = .ok (.istore_n 1, 1) := by decide +kernel
theorem d178_11 : decode (zb 178) 11 = .ok (.iload_n 1, 1) := by decide +kernel
theorem d178_12 : decode (zb 178) 12 = .ok (.aload_n 0, 1) := by decide +kernel
theorem d178_13 : decode (zb 178) 13 = .ok (.getfield 239, 3) := by decide +kernel
theorem d178_16 : decode (zb 178) 16 = .ok (.if_icmp .ge 100, 3) := by decide +kernel
theorem d178_19 : decode (zb 178) 19 = .ok (.aload_n 0, 1) := by decide +kernel
theorem d178_20 : decode (zb 178) 20 = .ok (.aload_n 0, 1) := by decide +kernel
theorem d178_21 : decode (zb 178) 21 = .ok (.getfield 47, 3) := by decide +kernel
theorem d178_24 : decode (zb 178) 24 = .ok (.iload_n 1, 1) := by decide +kernel
theorem d178_25 : decode (zb 178) 25 = .ok (.iaload, 1) := by decide +kernel
theorem d178_26 : decode (zb 178) 26 = .ok (.invokevirtual 227, 3) := by decide +kernel
theorem d178_29 : decode (zb 178) 29 = .ok (.bipush (-4), 2) := by decide +kernel
theorem d178_31 : decode (zb 178) 31 = .ok (.if_icmp .ne 79, 3) := by decide +kernel
theorem d178_34 : decode (zb 178) 34 = .ok (.aload_n 0, 1) := by decide +kernel
theorem d178_35 : decode (zb 178) 35 = .ok (.aload_n 0, 1) := by decide +kernel
theorem d178_36 : decode (zb 178) 36 = .ok (.getfield 47, 3) := by decide +kernel
theorem d178_39 : decode (zb 178) 39 = .ok (.iload_n 1, 1) := by decide +kernel
theorem d178_40 : decode (zb 178) 40 = .ok (.iaload, 1) := by decide +kernel
theorem d178_41 : decode (zb 178) 41 = .ok (.invokevirtual 245, 3) := by decide +kernel
theorem d178_44 : decode (zb 178) 44 = .ok (.ifCond .ne 66, 3) := by decide +kernel
theorem d178_47 : decode (zb 178) 47 = .ok (.aload_n 0, 1) := by decide +kernel
theorem d178_48 : decode (zb 178) 48 = .ok (.getfield 44, 3) := by decide +kernel
theorem d178_51 : decode (zb 178) 51 = .ok (.bipush 48, 2) := by decide +kernel
theorem d178_53 : decode (zb 178) 53 = .ok (.aload_n 0, 1) := by decide +kernel
theorem d178_54 : decode (zb 178) 54 = .ok (.getfield 44, 3) := by decide +kernel
theorem d178_57 : decode (zb 178) 57 = .ok (.bipush 8, 2) := by decide +kernel
theorem d178_59 : decode (zb 178) 59 = .ok (.iaload, 1) := by decide +kernel
theorem d178_60 : decode (zb 178) 60 = .ok (.iadd, 1) := by decide +kernel
theorem d178_61 : decode (zb 178) 61 = .ok (.aload_n 0, 1) := by decide +kernel
theorem d178_62 : decode (zb 178) 62 = .ok (.getfield 47, 3) := by decide +kernel
theorem d178_65 : decode (zb 178) 65 = .ok (.iload_n 1, 1) := by decide +kernel
theorem d178_66 : decode (zb 178) 66 = .ok (.iaload, 1) := by decide +kernel
theorem d178_67 : decode (zb 178) 67 = .ok (.iastore, 1) := by decide +kernel
theorem d178_68 : decode (zb 178) 68 = .ok (.aload_n 0, 1) := by decide +kernel
theorem d178_69 : decode (zb 178) 69 = .ok (.getfield 44, 3) := by decide +kernel
theorem d178_72 : decode (zb 178) 72 = .ok (.bipush 80, 2) := by decide +kernel
theorem d178_74 : decode (zb 178) 74 = .ok (.aload_n 0, 1) := by decide +kernel
theorem d178_75 : decode (zb 178) 75 = .ok (.getfield 44, 3) := by decide +kernel
theorem d178_78 : decode (zb 178) 78 = .ok (.bipush 8, 2) := by decide +kernel
theorem d178_80 : decode (zb 178) 80 = .ok (.iaload, 1) := by decide +kernel
theorem d178_81 : decode (zb 178) 81 = .ok (.iadd, 1) := by decide +kernel
theorem d178_82 : decode (zb 178) 82 = .ok (.aload_n 0, 1) := by decide +kernel
theorem d178_83 : decode (zb 178) 83 = .ok (.getfield 44, 3) := by decide +kernel
theorem d178_86 : decode (zb 178) 86 = .ok (.iconst 2, 1) := by decide +kernel
theorem d178_87 : decode (zb 178) 87 = .ok (.iaload, 1) := by decide +kernel
theorem d178_88 : decode (zb 178) 88 = .ok (.iconst 1, 1) := by decide +kernel
theorem d178_89 : decode (zb 178) 89 = .ok (.iadd, 1) := by decide +kernel
theorem d178_90 : decode (zb 178) 90 = .ok (.aload_n 0, 1) := by decide +kernel
theorem d178_91 : decode (zb 178) 91 = .ok (.getfield 44, 3) := by decide +kernel
theorem d178_94 : decode (zb 178) 94 = .ok (.bipush 16, 2) := by decide +kernel
theorem d178_96 : decode (zb 178) 96 = .ok (.iaload, 1) := by decide +kernel
theorem d178_97 : decode (zb 178) 97 = .ok (.iadd, 1) := by decide +kernel
theorem d178_98 : decode (zb 178) 98 = .ok (.iastore, 1) := by decide +kernel
theorem d178_99 : decode (zb 178) 99 = .ok (.aload_n 0, 1) := by decide +kernel
theorem d178_100 : decode (zb 178) 100 = .ok (.getfield 44, 3) := by decide +kernel
theorem d178_103 : decode (zb 178) 103 = .ok (.bipush 8, 2) := by decide +kernel
theorem d178_105 : decode (zb 178) 105 = .ok (.dup2, 1) := by decide +kernel
theorem d178_106 : decode (zb 178) 106 = .ok (.iaload, 1) := by decide +kernel
theorem d178_107 : decode (zb 178) 107 = .ok (.iconst 1, 1) := by decide +kernel
theorem d178_108 : decode (zb 178) 108 = .ok (.iadd, 1) := by decide +kernel
theorem d178_109 : decode (zb 178) 109 = .ok (.iastore, 1) := by decide +kernel
theorem d178_110 : decode (zb 178) 110 = .ok (.iinc 1 1, 3) := by decide +kernel
theorem d178_113 : decode (zb 178) 113 = .ok (.goto (-102), 3) := by decide +kernel
theorem d178_116 : decode (zb 178) 116 = .ok (.aload_n 0, 1) := by decide +kernel
theorem d178_117 : decode (zb 178) 117 = .ok (.invokevirtual 212, 3) := by decide +kernel
theorem d178_120 : decode (zb 178) 120 = .ok (.return_, 1) := by decide +kernel
theorem zo_179 : zo 179 = 11 := by decide +kernel
theorem zret_179 : zret 179 = none := by decide +kernel
theorem d179_0 : decode (zb 179) 0 = .ok (.aload_n 0, 1) := by decide +kernel
theorem d179_1 : decode (zb 179) 1 = .ok (.iconst 1, 1) := by decide +kernel
theorem d179_2 : decode (zb 179) 2 = .ok (.invokevirtual 205, 3) := by decide +kernel
theorem d179_5 : decode (zb 179) 5 = .ok (.aload_n 0, 1) := by decide +kernel
theorem d179_6 : decode (zb 179) 6 = .ok (.getfield 44, 3) := by decide +kernel
theorem d179_9 : decode (zb 179) 9 = .ok (.iconst 2, 1) := by decide +kernel
theorem d179_10 : decode (zb 179) 10 = .ok (.dup2, 1) := by decide +kernel
theorem d179_11 : decode (zb 179) 11 = .ok (.iaload, 1) := by decide +kernel
theorem d179_12 : decode (zb 179) 12 = .ok (.iconst 1, 1) := by decide +kernel
theorem d179_13 : decode (zb 179) 13 = .ok (.iadd, 1) := by decide +kernel
theorem d179_14 : decode (zb 179) 14 = .ok (.iastore, 1) := by decide +kernel
theorem d179_15 : decode (zb 179) 15 = .ok (.aload_n 0, 1) := by decide +kernel
theorem d179_16 : decode (zb 179) 16 = .ok (.invokevirtual 248, 3) := by decide +kernel
theorem d179_19 : decode (zb 179) 19 = .ok (.aload_n 0, 1) := by decide +kernel
theorem d179_20 : decode (zb 179) 20 = .ok (.getfield 44, 3) := by decide +kernel
theorem d179_23 : decode (zb 179) 23 = .ok (.iconst 0, 1) := by decide +kernel
theorem d179_24 : decode (zb 179) 24 = .ok (.iaload, 1) := by decide +kernel
theorem d179_25 : decode (zb 179) 25 = .ok (.bipush (-4), 2) := by decide +kernel
theorem d179_27 : decode (zb 179) 27 = .ok (.if_icmp .eq 7, 3) := by decide +kernel
theorem d179_30 : decode (zb 179) 30 = .ok (.aload_n 0, 1) := by decide +kernel
theorem d179_31 : decode (zb 179) 31 = .ok (.invokevirtual 251, 3) := by decide +kernel
theorem d179_34 : decode (zb 179) 34 = .ok (.aload_n 0, 1) := by decide +kernel
theorem d179_35 : decode (zb 179) 35 = .ok (.invokevirtual 212, 3) := by decide +kernel
theorem d179_38 : decode (zb 179) 38 = .ok (.aload_n 0, 1) := by decide +kernel
theorem d179_39 : decode (zb 179) 39 = .ok (.invokevirtual 254, 3) := by decide +kernel
theorem d179_42 : decode (zb 179) 42 = .ok (.return_, 1) := by decide +kernel
theorem zo_180 : zo 180 = 11 := by decide +kernel
theorem zret_180 : zret 180 = some .boolean := by decide +kernel
theorem d180_0 : decode (zb 180) 0 = .ok (.iconst 0, 1) := by decide +kernel
theorem d180_1 : decode (zb 180) 1 = .ok (.istore_n 1, 1) := by decide +kernel
theorem d180_2 : decode (zb 180) 2 = .ok (.iconst 0, 1) := by decide +kernel
theorem d180_3 : decode (zb 180) 3 = .ok (.istore_n 2, 1) := by decide +kernel
theorem d180_4 : decode (zb 180) 4 = .ok (.iload_n 2, 1) := by decide +kernel
theorem d180_5 : decode (zb 180) 5 = .ok (.aload_n 0, 1) := by decide +kernel
theorem d180_6 : decode (zb 180) 6 = .ok (.getfield 7, 3) := by decide +kernel
theorem d180_9 : decode (zb 180) 9 = .ok (.iconst 1, 1) := by decide +kernel
theorem d180_10 : decode (zb 180) 10 = .ok (.iaload, 1) := by decide +kernel
theorem d180_11 : decode (zb 180) 11 = .ok (.if_icmp .ge 29, 3) := by decide +kernel
theorem d180_14 : decode (zb 180) 14 = .ok (.iload_n 1, 1) := by decide +kernel
theorem d180_15 : decode (zb 180) 15 = .ok (.ifCond .ne 13, 3) := by decide +kernel
theorem d180_18 : decode (zb 180) 18 = .ok (.aload_n 0, 1) := by decide +kernel
theorem d180_19 : decode (zb 180) 19 = .ok (.iload_n 2, 1) := by decide +kernel
theorem d180_20 : decode (zb 180) 20 = .ok (.iconst 0, 1) := by decide +kernel
theorem d180_21 : decode (zb 180) 21 = .ok (.invokevirtual 192, 3) := by decide +kernel
theorem d180_24 : decode (zb 180) 24 = .ok (.iconst 3, 1) := by decide +kernel
theorem d180_25 : decode (zb 180) 25 = .ok (.if_icmp .ne 7, 3) := by decide +kernel
theorem d180_28 : decode (zb 180) 28 = .ok (.iconst 1, 1) := by decide +kernel
theorem d180_29 : decode (zb 180) 29 = .ok (.goto 4, 3) := by decide +kernel
theorem d180_32 : decode (zb 180) 32 = .ok (.iconst 0, 1) := by decide +kernel
theorem d180_33 : decode (zb 180) 33 = .ok (.istore_n 1, 1) := by decide +kernel
theorem d180_34 : decode (zb 180) 34 = .ok (.iinc 2 1, 3) := by decide +kernel
theorem d180_37 : decode (zb 180) 37 = .ok (.goto (-33), 3) := by decide +kernel
theorem d180_40 : decode (zb 180) 40 = .ok (.iload_n 1, 1) := by decide +kernel
theorem d180_41 : decode (zb 180) 41 = .ok (.ireturn, 1) := by decide +kernel
theorem run167 {h : zH} : zrun 167 [vR 87] h = zX 167 0 [vR 87] [] h := rfl
theorem e167_0 {I : Nat → Int → Int} {b : Bool} {S : Nat} : zX 167 0 [vR 87] [] (I, zRs b, 103, S) = (zrun 166 [vR 87] (I, zRs b, 103, S)).bind (fun q => zX 167 8 [vR 87] (zpush q.1 [vR 91]) q.2) := (xAload_n d167_0 rfl).trans ((xGetR 4 91 d167_1 zo_167 zfl_11_19 rfl rfl rfl (Or.inl (Nat.le_of_ble_eq_true rfl))).trans ((xAload_n d167_4 rfl).trans (xInvV [vR 87] [vR 91] d167_5 zo_167 zml_11_215 rfl rfl rfl (Or.inl ⟨rfl, (Nat.le_of_ble_eq_true rfl)⟩))))
theorem e167_8 {I : Nat → Int → Int} {b : Bool} {S : Nat} {t1 : Int} : zX 167 8 [vR 87] [vI t1, vR 91] (I, zRs b, 103, S) = if 0 ≤ t1 ∧ t1 < 8 then some (some (vI (wr ((I 91 t1) + (wr ((I 99 1).tdiv 16))))), (I, zRs b, 103, S)) else none := (xIald (N := 8) (I 91 t1) rfl d167_8 rfl (Or.inl (Nat.le_of_ble_eq_true rfl)) rfl).trans (ziteC ((xAload_n d167_9 rfl).trans ((xGetR 20 99 d167_10 zo_167 zfl_11_44 rfl rfl rfl (Or.inl (Nat.le_of_ble_eq_true rfl))).trans ((xIconst d167_13).trans ((xIald (N := 392) (I 99 1) rfl d167_14 rfl (Or.inl (Nat.le_of_ble_eq_true rfl)) rfl).trans ((if_pos (by decide)).trans ((xBipush d167_15).trans ((xIdiv d167_17 (by decide)).trans ((xIadd d167_18).trans (xIret d167_19 zret_167))))))))) rfl)
theorem run168 {h : zH} : zrun 168 [vR 87] h = zX 168 0 [vR 87] [] h := rfl
theorem e168_0 {I : Nat → Int → Int} {b : Bool} {S : Nat} : zX 168 0 [vR 87] [] (I, zRs b, 103, S) = zX 168 16 [vR 87] [] ((sI I 99 1 (wr ((I 99 1) + (I 99 13)))), zRs b, 103, S) := (xAload_n d168_0 rfl).trans ((xGetR 20 99 d168_1 zo_168 zfl_11_44 rfl rfl rfl (Or.inl (Nat.le_of_ble_eq_true rfl))).trans ((xIconst d168_4).trans ((xDup2 d168_5 rfl rfl).trans ((xIald (N := 392) (I 99 1) rfl d168_6 rfl (Or.inl (Nat.le_of_ble_eq_true rfl)) rfl).trans ((if_pos (by decide)).trans ((xAload_n d168_7 rfl).trans ((xGetR 20 99 d168_8 zo_168 zfl_11_44 rfl rfl rfl (Or.inl (Nat.le_of_ble_eq_true rfl))).trans ((xBipush d168_11).trans ((xIald (N := 392) (I 99 13) rfl d168_13 rfl (Or.inl (Nat.le_of_ble_eq_true rfl)) rfl).trans ((if_pos (by decide)).trans ((xIadd d168_14).trans ((xIast (N := 392) d168_15 rfl (Nat.le_of_ble_eq_true rfl) rfl).trans (if_pos (by decide))))))))))))))
theorem e168_16 {I : Nat → Int → Int} {b : Bool} {S : Nat} : zX 168 16 [vR 87] [] (I, zRs b, 103, S) = if (I 99 0) = (-4) then some (none, (I, zRs b, 103, S)) else (zrun 166 [vR 87] (I, zRs b, 103, S)).bind (fun q => zX 168 40 [vR 87] (zpush q.1 [vR 87, vI 16, vI (I 99 1)]) q.2) := (xAload_n d168_16 rfl).trans ((xGetR 20 99 d168_17 zo_168 zfl_11_44 rfl rfl rfl (Or.inl (Nat.le_of_ble_eq_true rfl))).trans ((xIconst d168_20).trans ((xIald (N := 392) (I 99 0) rfl d168_21 rfl (Or.inl (Nat.le_of_ble_eq_true rfl)) rfl).trans ((if_pos (by decide)).trans ((xBipush d168_22).trans ((xIcmpEq (t := 82) d168_24 rfl).trans (ziteC (xVret d168_82 zret_168) ((xAload_n d168_27 rfl).trans ((xGetR 20 99 d168_28 zo_168 zfl_11_44 rfl rfl rfl (Or.inl (Nat.le_of_ble_eq_true rfl))).trans ((xIconst d168_31).trans ((xIald (N := 392) (I 99 1) rfl d168_32 rfl (Or.inl (Nat.le_of_ble_eq_true rfl)) rfl).trans ((if_pos (by decide)).trans ((xBipush d168_33).trans ((xAload_n d168_35 rfl).trans ((xAload_n d168_36 rfl).trans (xInvV [vR 87] [vR 87, vI 16, vI (I 99 1)] d168_37 zo_168 zml_11_215 rfl rfl rfl (Or.inl ⟨rfl, (Nat.le_of_ble_eq_true rfl)⟩)))))))))))))))))
theorem e168_40 {I : Nat → Int → Int} {b : Bool} {S : Nat} {t0 t1 t3 : Int} : zX 168 40 [vR 87] [vI t3, vR 87, vI t1, vI t0] (I, zRs b, 103, S) = (zrun 148 [vR 87, vI t3] (I, zRs b, 103, S)).bind (fun q => zX 168 43 [vR 87] (zpush q.1 [vI t1, vI t0]) q.2) := xInvV [vR 87, vI t3] [vI t1, vI t0] d168_40 zo_168 zml_11_168 rfl rfl rfl (Or.inl ⟨rfl, (Nat.le_of_ble_eq_true rfl)⟩)
theorem e168_43 {I : Nat → Int → Int} {b : Bool} {S : Nat} {t0 t1 t2 : Int} : zX 168 43 [vR 87] [vI t2, vI t1, vI t0] (I, zRs b, 103, S) = if t0 < (wr (t1 * t2)) then some (none, (I, zRs b, 103, S)) else (zrun 166 [vR 87] (I, zRs b, 103, S)).bind (fun q => zX 168 61 [vR 87] (zpush q.1 [vR 87, vI 16, vI (I 99 1), vI 1, vR 99]) q.2) := (xImul d168_43).trans ((xIcmpLt (t := 82) d168_44 rfl).trans (ziteC (xVret d168_82 zret_168) ((xAload_n d168_47 rfl).trans ((xGetR 20 99 d168_48 zo_168 zfl_11_44 rfl rfl rfl (Or.inl (Nat.le_of_ble_eq_true rfl))).trans ((xIconst d168_51).trans ((xDup2 d168_52 rfl rfl).trans ((xIald (N := 392) (I 99 1) rfl d168_53 rfl (Or.inl (Nat.le_of_ble_eq_true rfl)) rfl).trans ((if_pos (by decide)).trans ((xBipush d168_54).trans ((xAload_n d168_56 rfl).trans ((xAload_n d168_57 rfl).trans (xInvV [vR 87] [vR 87, vI 16, vI (I 99 1), vI 1, vR 99] d168_58 zo_168 zml_11_215 rfl rfl rfl (Or.inl ⟨rfl, (Nat.le_of_ble_eq_true rfl)⟩)))))))))))))
theorem e168_61 {I : Nat → Int → Int} {b : Bool} {S : Nat} {t1 t2 t3 t5 : Int} : zX 168 61 [vR 87] [vI t5, vR 87, vI t3, vI t2, vI t1, vR 99] (I, zRs b, 103, S) = (zrun 148 [vR 87, vI t5] (I, zRs b, 103, S)).bind (fun q => zX 168 64 [vR 87] (zpush q.1 [vI t3, vI t2, vI t1, vR 99]) q.2) := xInvV [vR 87, vI t5] [vI t3, vI t2, vI t1, vR 99] d168_61 zo_168 zml_11_168 rfl rfl rfl (Or.inl ⟨rfl, (Nat.le_of_ble_eq_true rfl)⟩)
theorem e168_64 {I : Nat → Int → Int} {b : Bool} {S : Nat} {t1 t2 t3 t4 : Int} : zX 168 64 [vR 87] [vI t4, vI t3, vI t2, vI t1, vR 99] (I, zRs b, 103, S) = if 0 ≤ t1 ∧ t1 < 392 then (zrun 164 [vR 87, vI (wr (((sI I 99 t1 (wr (t2 - (wr (t3 * t4))))) 99 0) + 1))] ((sI I 99 t1 (wr (t2 - (wr (t3 * t4))))), zRs b, 103, S)).bind (fun q => zX 168 79 [vR 87] (zpush q.1 []) q.2) else none := (xImul d168_64).trans ((xIsub d168_65).trans ((xIast (N := 392) d168_66 rfl (Nat.le_of_ble_eq_true rfl) rfl).trans (ziteC ((xAload_n d168_67 rfl).trans ((xAload_n d168_68 rfl).trans ((xGetR 20 99 d168_69 zo_168 zfl_11_44 rfl rfl rfl (Or.inl (Nat.le_of_ble_eq_true rfl))).trans ((xIconst d168_72).trans ((xIald (N := 392) ((sI I 99 t1 (wr (t2 - (wr (t3 * t4))))) 99 0) rfl d168_73 rfl (Or.inl (Nat.le_of_ble_eq_true rfl)) rfl).trans ((if_pos (by decide)).trans ((xIconst d168_74).trans ((xIadd d168_75).trans (xInvV [vR 87, vI (wr (((sI I 99 t1 (wr (t2 - (wr (t3 * t4))))) 99 0) + 1))] [] d168_76 zo_168 zml_11_209 rfl rfl rfl (Or.inl ⟨rfl, (Nat.le_of_ble_eq_true rfl)⟩)))))))))) rfl)))
theorem e168_79 {I : Nat → Int → Int} {b : Bool} {S : Nat} : zX 168 79 [vR 87] [] (I, zRs b, 103, S) = zX 168 16 [vR 87] [] (I, zRs b, 103, S) := xGoto (t := 16) d168_79 rfl
theorem run169 {h : zH} : zrun 169 [vR 87] h = zX 169 0 [vR 87, none, none, none, none, none] [] h := rfl
theorem e169_0 {I : Nat → Int → Int} {b : Bool} {S : Nat} : zX 169 0 [vR 87, none, none, none, none, none] [] (I, zRs b, 103, S) = (zrun 166 [vR 87] (I, zRs b, 103, S)).bind (fun q => zX 169 4 [vR 87, none, none, none, none, none] (zpush q.1 []) q.2) := (xAload_n d169_0 rfl).trans (xInvV [vR 87] [] d169_1 zo_169 zml_11_215 rfl rfl rfl (Or.inl ⟨rfl, (Nat.le_of_ble_eq_true rfl)⟩))
theorem e169_4 {I : Nat → Int → Int} {b : Bool} {S : Nat} {t0 : Int} : zX 169 4 [vR 87, none, none, none, none, none] [vI t0] (I, zRs b, 103, S) = (zrun 149 [vR 87, vI t0, vI (wr ((I 99 1).tdiv 16))] (I, zRs b, 103, S)).bind (fun q => zX 169 31 [vR 87, vI t0, vI (wr ((I 99 1).tdiv 16)), vI ((I 99 1).tmod 16), none, none] (zpush q.1 []) q.2) := (xIstore_n d169_4 rfl rfl).trans ((xAload_n d169_5 rfl).trans ((xGetR 20 99 d169_6 zo_169 zfl_11_44 rfl rfl rfl (Or.inl (Nat.le_of_ble_eq_true rfl))).trans ((xIconst d169_9).trans ((xIald (N := 392) (I 99 1) rfl d169_10 rfl (Or.inl (Nat.le_of_ble_eq_true rfl)) rfl).trans ((if_pos (by decide)).trans ((xBipush d169_11).trans ((xIdiv d169_13 (by decide)).trans ((xIstore_n d169_14 rfl rfl).trans ((xAload_n d169_15 rfl).trans ((xGetR 20 99 d169_16 zo_169 zfl_11_44 rfl rfl rfl (Or.inl (Nat.le_of_ble_eq_true rfl))).trans ((xIconst d169_19).trans ((xIald (N := 392) (I 99 1) rfl d169_20 rfl (Or.inl (Nat.le_of_ble_eq_true rfl)) rfl).trans ((if_pos (by decide)).trans ((xBipush d169_21).trans ((xIrem d169_23 (by decide)).trans ((xIstore_n d169_24 rfl rfl).trans ((xAload_n d169_25 rfl).trans ((xIload_n d169_26 rfl).trans ((xIload_n d169_27 rfl).trans (xInvV [vR 87, vI t0, vI (wr ((I 99 1).tdiv 16))] [] d169_28 zo_169 zml_11_171 rfl rfl rfl (Or.inl ⟨rfl, (Nat.le_of_ble_eq_true rfl)⟩)))))))))))))))))))))
theorem e169_31 {I : Nat → Int → Int} {b : Bool} {S : Nat} {a1 a2 a3 t0 : Int} : zX 169 31 [vR 87, vI a1, vI a2, vI a3, none, none] [vI t0] (I, zRs b, 103, S) = (zrun 148 [vR 87, vI a1] (I, zRs b, 103, S)).bind (fun q => zX 169 43 [vR 87, vI a1, vI a2, vI a3, vI t0, none] (zpush q.1 [vI (wr (a2 + 1)), vI a1, vR 87]) q.2) := (xIstore d169_31 rfl rfl).trans ((xAload_n d169_33 rfl).trans ((xIload_n d169_34 rfl).trans ((xIload_n d169_35 rfl).trans ((xIconst d169_36).trans ((xIadd d169_37).trans ((xAload_n d169_38 rfl).trans ((xIload_n d169_39 rfl).trans (xInvV [vR 87, vI a1] [vI (wr (a2 + 1)), vI a1, vR 87] d169_40 zo_169 zml_11_168 rfl rfl rfl (Or.inl ⟨rfl, (Nat.le_of_ble_eq_true rfl)⟩)))))))))
theorem e169_43 {I : Nat → Int → Int} {b : Bool} {S : Nat} {a1 a2 a3 a4 t1 t2 t3 : Int} : zX 169 43 [vR 87, vI a1, vI a2, vI a3, vI a4, none] [vI t3, vI t2, vI t1, vR 87] (I, zRs b, 103, S) = if t3 ≤ t2 then (zrun 149 [vR 87, vI t1, vI a2] (I, zRs b, 103, S)).bind (fun q => zX 169 56 [vR 87, vI a1, vI a2, vI a3, vI a4, none] (zpush q.1 []) q.2) else (zrun 149 [vR 87, vI t1, vI (wr (a2 + 1))] (I, zRs b, 103, S)).bind (fun q => zX 169 56 [vR 87, vI a1, vI a2, vI a3, vI a4, none] (zpush q.1 []) q.2) := (xIcmpGe (t := 52) d169_43 rfl).trans (ziteC ((xIload_n d169_52 rfl).trans (xInvV [vR 87, vI t1, vI a2] [] d169_53 zo_169 zml_11_171 rfl rfl rfl (Or.inl ⟨rfl, (Nat.le_of_ble_eq_true rfl)⟩))) ((xIload_n d169_46 rfl).trans ((xIconst d169_47).trans ((xIadd d169_48).trans ((xGoto (t := 53) d169_49 rfl).trans (xInvV [vR 87, vI t1, vI (wr (a2 + 1))] [] d169_53 zo_169 zml_11_171 rfl rfl rfl (Or.inl ⟨rfl, (Nat.le_of_ble_eq_true rfl)⟩)))))))
theorem e169_56 {I : Nat → Int → Int} {b : Bool} {S : Nat} {a1 a2 a3 a4 t0 : Int} : zX 169 56 [vR 87, vI a1, vI a2, vI a3, vI a4, none] [vI t0] (I, zRs b, 103, S) = if (I 99 14) = 0 then some (some (vI a4), (I, zRs b, 103, S)) else if (I 99 14) = 1 then some (some (vI (wr ((wr ((wr (a4 * (wr (16 - a3)))) + (wr (t0 * a3)))).tdiv 16))), (I, zRs b, 103, S)) else if 8 ≤ a3 then some (some (vI t0), (I, zRs b, 103, S)) else some (some (vI a4), (I, zRs b, 103, S)) := (xIstore d169_56 rfl rfl).trans ((xAload_n d169_58 rfl).trans ((xGetR 20 99 d169_59 zo_169 zfl_11_44 rfl rfl rfl (Or.inl (Nat.le_of_ble_eq_true rfl))).trans ((xBipush d169_62).trans ((xIald (N := 392) (I 99 14) rfl d169_64 rfl (Or.inl (Nat.le_of_ble_eq_true rfl)) rfl).trans ((if_pos (by decide)).trans ((xIfNe (t := 73) d169_65 rfl).trans (ziteC ((xIload d169_68 rfl).trans ((xGoto (t := 115) d169_70 rfl).trans (xIret d169_115 zret_169))) ((xAload_n d169_73 rfl).trans ((xGetR 20 99 d169_74 zo_169 zfl_11_44 rfl rfl rfl (Or.inl (Nat.le_of_ble_eq_true rfl))).trans ((xBipush d169_77).trans ((xIald (N := 392) (I 99 14) rfl d169_79 rfl (Or.inl (Nat.le_of_ble_eq_true rfl)) rfl).trans ((if_pos (by decide)).trans ((xIconst d169_80).trans ((xIcmpNe (t := 102) d169_81 rfl).trans (ziteC ((xIload d169_84 rfl).trans ((xBipush d169_86).trans ((xIload_n d169_88 rfl).trans ((xIsub d169_89).trans ((xImul d169_90).trans ((xIload d169_91 rfl).trans ((xIload_n d169_93 rfl).trans ((xImul d169_94).trans ((xIadd d169_95).trans ((xBipush d169_96).trans ((xIdiv d169_98 (by decide)).trans ((xGoto (t := 115) d169_99 rfl).trans (xIret d169_115 zret_169))))))))))))) ((xIload_n d169_102 rfl).trans ((xBipush d169_103).trans ((xIcmpGe (t := 113) d169_105 rfl).trans (ziteC ((xIload d169_113 rfl).trans (xIret d169_115 zret_169)) ((xIload d169_108 rfl).trans ((xGoto (t := 115) d169_110 rfl).trans (xIret d169_115 zret_169))))))))))))))))))))))
theorem run170 {h : zH} {x0 : Int} : zrun 170 [vR 87, vI x0] h = zX 170 0 [vR 87, vI x0, none] [] h := rfl
theorem e170_0 {I : Nat → Int → Int} {b : Bool} {S : Nat} {x0 : Int} : zX 170 0 [vR 87, vI x0, none] [] (I, zRs b, 103, S) = zX 170 2 [vR 87, vI x0, vI 0] [] (I, zRs b, 103, S) := (xIconst d170_0).trans (xIstore_n d170_1 rfl rfl)
theorem e170_2 {I : Nat → Int → Int} {b : Bool} {S : Nat} {a1 a2 : Int} : zX 170 2 [vR 87, vI a1, vI a2] [] (I, zRs b, 103, S) = if (I 99 7) ≤ a2 then some (some (vI (-4)), (I, zRs b, 103, S)) else if 0 ≤ (wr (42 + a2)) ∧ (wr (42 + a2)) < 392 then if (I 99 (wr (42 + a2))) = a1 then some (some (vI a2), (I, zRs b, 103, S)) else zX 170 2 [vR 87, vI a1, vI (wr (a2 + 1))] [] (I, zRs b, 103, S) else none := (xIload_n d170_2 rfl).trans ((xAload_n d170_3 rfl).trans ((xGetR 20 99 d170_4 zo_170 zfl_11_44 rfl rfl rfl (Or.inl (Nat.le_of_ble_eq_true rfl))).trans ((xBipush d170_7).trans ((xIald (N := 392) (I 99 7) rfl d170_9 rfl (Or.inl (Nat.le_of_ble_eq_true rfl)) rfl).trans ((if_pos (by decide)).trans ((xIcmpGe (t := 34) d170_10 rfl).trans (ziteC ((xBipush d170_34).trans (xIret d170_36 zret_170)) ((xAload_n d170_13 rfl).trans ((xGetR 20 99 d170_14 zo_170 zfl_11_44 rfl rfl rfl (Or.inl (Nat.le_of_ble_eq_true rfl))).trans ((xBipush d170_17).trans ((xIload_n d170_19 rfl).trans ((xIadd d170_20).trans ((xIald (N := 392) (I 99 (wr (42 + a2))) rfl d170_21 rfl (Or.inl (Nat.le_of_ble_eq_true rfl)) rfl).trans (ziteC ((xIload_n d170_22 rfl).trans ((xIcmpNe (t := 28) d170_23 rfl).trans (ziteC ((xIload_n d170_26 rfl).trans (xIret d170_27 zret_170)) ((xIinc d170_28 rfl rfl rfl).trans (xGoto (t := 2) d170_31 rfl))))) rfl))))))))))))))
theorem run171 {h : zH} {x0 : Int} : zrun 171 [vR 87, vI x0] h = zX 171 0 [vR 87, vI x0, none] [] h := rfl
theorem e171_0 {I : Nat → Int → Int} {b : Bool} {S : Nat} {x0 : Int} : zX 171 0 [vR 87, vI x0, none] [] (I, zRs b, 103, S) = zX 171 5 [vR 87, vI x0, vI (wr (42 + x0))] [] (I, zRs b, 103, S) := (xBipush d171_0).trans ((xIload_n d171_2 rfl).trans ((xIadd d171_3).trans (xIstore_n d171_4 rfl rfl)))
theorem e171_5 {I : Nat → Int → Int} {b : Bool} {S : Nat} {a1 a2 : Int} : zX 171 5 [vR 87, vI a1, vI a2] [] (I, zRs b, 103, S) = if (wr ((wr (42 + (I 99 7))) - 1)) ≤ a2 then some (none, ((sI I 99 7 (wr ((I 99 7) - 1))), zRs b, 103, S)) else if 0 ≤ (wr (a2 + 1)) ∧ (wr (a2 + 1)) < 392 then if 0 ≤ a2 ∧ a2 < 392 then zX 171 5 [vR 87, vI a1, vI (wr (a2 + 1))] [] ((sI I 99 a2 (I 99 (wr (a2 + 1)))), zRs b, 103, S) else none else none := (xIload_n d171_5 rfl).trans ((xBipush d171_6).trans ((xAload_n d171_8 rfl).trans ((xGetR 20 99 d171_9 zo_171 zfl_11_44 rfl rfl rfl (Or.inl (Nat.le_of_ble_eq_true rfl))).trans ((xBipush d171_12).trans ((xIald (N := 392) (I 99 7) rfl d171_14 rfl (Or.inl (Nat.le_of_ble_eq_true rfl)) rfl).trans ((if_pos (by decide)).trans ((xIadd d171_15).trans ((xIconst d171_16).trans ((xIsub d171_17).trans ((xIcmpGe (t := 41) d171_18 rfl).trans (ziteC ((xAload_n d171_41 rfl).trans ((xGetR 20 99 d171_42 zo_171 zfl_11_44 rfl rfl rfl (Or.inl (Nat.le_of_ble_eq_true rfl))).trans ((xBipush d171_45).trans ((xDup2 d171_47 rfl rfl).trans ((xIald (N := 392) (I 99 7) rfl d171_48 rfl (Or.inl (Nat.le_of_ble_eq_true rfl)) rfl).trans ((if_pos (by decide)).trans ((xIconst d171_49).trans ((xIsub d171_50).trans ((xIast (N := 392) d171_51 rfl (Nat.le_of_ble_eq_true rfl) rfl).trans ((if_pos (by decide)).trans (xVret d171_52 zret_171))))))))))) ((xAload_n d171_21 rfl).trans ((xGetR 20 99 d171_22 zo_171 zfl_11_44 rfl rfl rfl (Or.inl (Nat.le_of_ble_eq_true rfl))).trans ((xIload_n d171_25 rfl).trans ((xAload_n d171_26 rfl).trans ((xGetR 20 99 d171_27 zo_171 zfl_11_44 rfl rfl rfl (Or.inl (Nat.le_of_ble_eq_true rfl))).trans ((xIload_n d171_30 rfl).trans ((xIconst d171_31).trans ((xIadd d171_32).trans ((xIald (N := 392) (I 99 (wr (a2 + 1))) rfl d171_33 rfl (Or.inl (Nat.le_of_ble_eq_true rfl)) rfl).trans (ziteC ((xIast (N := 392) d171_34 rfl (Nat.le_of_ble_eq_true rfl) rfl).trans (ziteC ((xIinc d171_35 rfl rfl rfl).trans (xGoto (t := 5) d171_38 rfl)) rfl)) rfl)))))))))))))))))))))
theorem run172 {h : zH} {x0 : Int} : zrun 172 [vR 87, vI x0] h = zX 172 0 [vR 87, vI x0] [] h := rfl
theorem e172_0 {I : Nat → Int → Int} {b : Bool} {S : Nat} {x0 : Int} : zX 172 0 [vR 87, vI x0] [] (I, zRs b, 103, S) = if (I 99 7) = (I 99 15) then (zrun 171 [vR 87, vI 0] (I, zRs b, 103, S)).bind (fun q => zX 172 22 [vR 87, vI x0] (zpush q.1 []) q.2) else zX 172 22 [vR 87, vI x0] [] (I, zRs b, 103, S) := (xAload_n d172_0 rfl).trans ((xGetR 20 99 d172_1 zo_172 zfl_11_44 rfl rfl rfl (Or.inl (Nat.le_of_ble_eq_true rfl))).trans ((xBipush d172_4).trans ((xIald (N := 392) (I 99 7) rfl d172_6 rfl (Or.inl (Nat.le_of_ble_eq_true rfl)) rfl).trans ((if_pos (by decide)).trans ((xAload_n d172_7 rfl).trans ((xGetR 20 99 d172_8 zo_172 zfl_11_44 rfl rfl rfl (Or.inl (Nat.le_of_ble_eq_true rfl))).trans ((xBipush d172_11).trans ((xIald (N := 392) (I 99 15) rfl d172_13 rfl (Or.inl (Nat.le_of_ble_eq_true rfl)) rfl).trans ((if_pos (by decide)).trans ((xIcmpNe (t := 22) d172_14 rfl).trans (ziteC ((xAload_n d172_17 rfl).trans ((xIconst d172_18).trans (xInvV [vR 87, vI 0] [] d172_19 zo_172 zml_11_218 rfl rfl rfl (Or.inl ⟨rfl, (Nat.le_of_ble_eq_true rfl)⟩)))) rfl)))))))))))
theorem e172_22 {I : Nat → Int → Int} {b : Bool} {S : Nat} {a1 : Int} : zX 172 22 [vR 87, vI a1] [] (I, zRs b, 103, S) = if 0 ≤ (wr (42 + (I 99 7))) ∧ (wr (42 + (I 99 7))) < 392 then some (none, ((sI (sI I 99 (wr (42 + (I 99 7))) a1) 99 7 (wr (((sI I 99 (wr (42 + (I 99 7))) a1) 99 7) + 1))), zRs b, 103, S)) else none := (xAload_n d172_22 rfl).trans ((xGetR 20 99 d172_23 zo_172 zfl_11_44 rfl rfl rfl (Or.inl (Nat.le_of_ble_eq_true rfl))).trans ((xBipush d172_26).trans ((xAload_n d172_28 rfl).trans ((xGetR 20 99 d172_29 zo_172 zfl_11_44 rfl rfl rfl (Or.inl (Nat.le_of_ble_eq_true rfl))).trans ((xBipush d172_32).trans ((xIald (N := 392) (I 99 7) rfl d172_34 rfl (Or.inl (Nat.le_of_ble_eq_true rfl)) rfl).trans ((if_pos (by decide)).trans ((xIadd d172_35).trans ((xIload_n d172_36 rfl).trans ((xIast (N := 392) d172_37 rfl (Nat.le_of_ble_eq_true rfl) rfl).trans (ziteC ((xAload_n d172_38 rfl).trans ((xGetR 20 99 d172_39 zo_172 zfl_11_44 rfl rfl rfl (Or.inl (Nat.le_of_ble_eq_true rfl))).trans ((xBipush d172_42).trans ((xDup2 d172_44 rfl rfl).trans ((xIald (N := 392) ((sI I 99 (wr (42 + (I 99 7))) a1) 99 7) rfl d172_45 rfl (Or.inl (Nat.le_of_ble_eq_true rfl)) rfl).trans ((if_pos (by decide)).trans ((xIconst d172_46).trans ((xIadd d172_47).trans ((xIast (N := 392) d172_48 rfl (Nat.le_of_ble_eq_true rfl) rfl).trans ((if_pos (by decide)).trans (xVret d172_49 zret_172))))))))))) rfl)))))))))))
theorem run173 {h : zH} {x0 : Int} : zrun 173 [vR 87, vI x0] h = zX 173 0 [vR 87, vI x0, none, none] [] h := rfl
theorem e173_0 {I : Nat → Int → Int} {b : Bool} {S : Nat} {x0 : Int} : zX 173 0 [vR 87, vI x0, none, none] [] (I, zRs b, 103, S) = zX 173 4 [vR 87, vI x0, vI 0, vI 0] [] (I, zRs b, 103, S) := (xIconst d173_0).trans ((xIstore_n d173_1 rfl rfl).trans ((xIconst d173_2).trans (xIstore_n d173_3 rfl rfl)))
theorem e173_4 {I : Nat → Int → Int} {b : Bool} {S : Nat} {a1 a2 a3 : Int} : zX 173 4 [vR 87, vI a1, vI a2, vI a3] [] (I, zRs b, 103, S) = if (I 99 8) ≤ a3 then if a2 = 0 ∨ a2 = 1 then some (some (vI a2), (I, zRs b, 103, S)) else none else if a2 = 0 then if 0 ≤ (wr (48 + a3)) ∧ (wr (48 + a3)) < 392 then if (I 99 (wr (48 + a3))) = a1 then zX 173 4 [vR 87, vI a1, vI 1, vI (wr (a3 + 1))] [] (I, zRs b, 103, S) else zX 173 4 [vR 87, vI a1, vI 0, vI (wr (a3 + 1))] [] (I, zRs b, 103, S) else none else zX 173 4 [vR 87, vI a1, vI 1, vI (wr (a3 + 1))] [] (I, zRs b, 103, S) := (xIload_n d173_4 rfl).trans ((xAload_n d173_5 rfl).trans ((xGetR 20 99 d173_6 zo_173 zfl_11_44 rfl rfl rfl (Or.inl (Nat.le_of_ble_eq_true rfl))).trans ((xBipush d173_9).trans ((xIald (N := 392) (I 99 8) rfl d173_11 rfl (Or.inl (Nat.le_of_ble_eq_true rfl)) rfl).trans ((if_pos (by decide)).trans ((xIcmpGe (t := 44) d173_12 rfl).trans (ziteC ((xIload_n d173_44 rfl).trans (xZretG d173_45 zret_173)) ((xIload_n d173_15 rfl).trans ((xIfNe (t := 32) d173_16 rfl).trans (ziteC ((xAload_n d173_19 rfl).trans ((xGetR 20 99 d173_20 zo_173 zfl_11_44 rfl rfl rfl (Or.inl (Nat.le_of_ble_eq_true rfl))).trans ((xBipush d173_23).trans ((xIload_n d173_25 rfl).trans ((xIadd d173_26).trans ((xIald (N := 392) (I 99 (wr (48 + a3))) rfl d173_27 rfl (Or.inl (Nat.le_of_ble_eq_true rfl)) rfl).trans (ziteC ((xIload_n d173_28 rfl).trans ((xIcmpNe (t := 36) d173_29 rfl).trans (ziteC ((xIconst d173_32).trans ((xGoto (t := 37) d173_33 rfl).trans ((xIstore_n d173_37 rfl rfl).trans ((xIinc d173_38 rfl rfl rfl).trans (xGoto (t := 4) d173_41 rfl))))) ((xIconst d173_36).trans ((xIstore_n d173_37 rfl rfl).trans ((xIinc d173_38 rfl rfl rfl).trans (xGoto (t := 4) d173_41 rfl))))))) rfl))))))) ((xIconst d173_32).trans ((xGoto (t := 37) d173_33 rfl).trans ((xIstore_n d173_37 rfl rfl).trans ((xIinc d173_38 rfl rfl rfl).trans (xGoto (t := 4) d173_41 rfl)))))))))))))))
theorem run174 {h : zH} : zrun 174 [vR 87] h = zX 174 0 [vR 87, none, none, none] [] h := rfl
theorem e174_0 {I : Nat → Int → Int} {b : Bool} {S : Nat} : zX 174 0 [vR 87, none, none, none] [] (I, zRs b, 103, S) = zX 174 12 [vR 87, vI 0, vI (I 99 8), vI 0] [] (I, zRs b, 103, S) := (xIconst d174_0).trans ((xIstore_n d174_1 rfl rfl).trans ((xAload_n d174_2 rfl).trans ((xGetR 20 99 d174_3 zo_174 zfl_11_44 rfl rfl rfl (Or.inl (Nat.le_of_ble_eq_true rfl))).trans ((xBipush d174_6).trans ((xIald (N := 392) (I 99 8) rfl d174_8 rfl (Or.inl (Nat.le_of_ble_eq_true rfl)) rfl).trans ((if_pos (by decide)).trans ((xIstore_n d174_9 rfl rfl).trans ((xIconst d174_10).trans (xIstore_n d174_11 rfl rfl)))))))))
theorem e174_12 {I : Nat → Int → Int} {b : Bool} {S : Nat} {a1 a2 a3 : Int} : zX 174 12 [vR 87, vI a1, vI a2, vI a3] [] (I, zRs b, 103, S) = if a2 ≤ a3 then some (none, ((sI I 99 8 a1), zRs b, 103, S)) else if 0 ≤ (wr (80 + a3)) ∧ (wr (80 + a3)) < 392 then if (I 99 2) < (I 99 (wr (80 + a3))) then if 0 ≤ (wr (48 + a3)) ∧ (wr (48 + a3)) < 392 then if 0 ≤ (wr (48 + a1)) ∧ (wr (48 + a1)) < 392 then if 0 ≤ (wr (80 + a3)) ∧ (wr (80 + a3)) < 392 then if 0 ≤ (wr (80 + a1)) ∧ (wr (80 + a1)) < 392 then zX 174 12 [vR 87, vI (wr (a1 + 1)), vI a2, vI (wr (a3 + 1))] [] ((sI (sI I 99 (wr (48 + a1)) (I 99 (wr (48 + a3)))) 99 (wr (80 + a1)) ((sI I 99 (wr (48 + a1)) (I 99 (wr (48 + a3)))) 99 (wr (80 + a3)))), zRs b, 103, S) else none else none else none else none else if 0 ≤ (wr (48 + a3)) ∧ (wr (48 + a3)) < 392 then (zrun 172 [vR 87, vI (I 99 (wr (48 + a3)))] (I, zRs b, 103, S)).bind (fun q => zX 174 48 [vR 87, vI a1, vI a2, vI a3] (zpush q.1 []) q.2) else none else none := (xIload_n d174_12 rfl).trans ((xIload_n d174_13 rfl).trans ((xIcmpGe (t := 96) d174_14 rfl).trans (ziteC ((xAload_n d174_96 rfl).trans ((xGetR 20 99 d174_97 zo_174 zfl_11_44 rfl rfl rfl (Or.inl (Nat.le_of_ble_eq_true rfl))).trans ((xBipush d174_100).trans ((xIload_n d174_102 rfl).trans ((xIast (N := 392) d174_103 rfl (Nat.le_of_ble_eq_true rfl) rfl).trans ((if_pos (by decide)).trans (xVret d174_104 zret_174))))))) ((xAload_n d174_17 rfl).trans ((xGetR 20 99 d174_18 zo_174 zfl_11_44 rfl rfl rfl (Or.inl (Nat.le_of_ble_eq_true rfl))).trans ((xBipush d174_21).trans ((xIload_n d174_23 rfl).trans ((xIadd d174_24).trans ((xIald (N := 392) (I 99 (wr (80 + a3))) rfl d174_25 rfl (Or.inl (Nat.le_of_ble_eq_true rfl)) rfl).trans (ziteC ((xAload_n d174_26 rfl).trans ((xGetR 20 99 d174_27 zo_174 zfl_11_44 rfl rfl rfl (Or.inl (Nat.le_of_ble_eq_true rfl))).trans ((xIconst d174_30).trans ((xIald (N := 392) (I 99 2) rfl d174_31 rfl (Or.inl (Nat.le_of_ble_eq_true rfl)) rfl).trans ((if_pos (by decide)).trans ((xIcmpGt (t := 51) d174_32 rfl).trans (ziteC ((xAload_n d174_51 rfl).trans ((xGetR 20 99 d174_52 zo_174 zfl_11_44 rfl rfl rfl (Or.inl (Nat.le_of_ble_eq_true rfl))).trans ((xBipush d174_55).trans ((xIload_n d174_57 rfl).trans ((xIadd d174_58).trans ((xAload_n d174_59 rfl).trans ((xGetR 20 99 d174_60 zo_174 zfl_11_44 rfl rfl rfl (Or.inl (Nat.le_of_ble_eq_true rfl))).trans ((xBipush d174_63).trans ((xIload_n d174_65 rfl).trans ((xIadd d174_66).trans ((xIald (N := 392) (I 99 (wr (48 + a3))) rfl d174_67 rfl (Or.inl (Nat.le_of_ble_eq_true rfl)) rfl).trans (ziteC ((xIast (N := 392) d174_68 rfl (Nat.le_of_ble_eq_true rfl) rfl).trans (ziteC ((xAload_n d174_69 rfl).trans ((xGetR 20 99 d174_70 zo_174 zfl_11_44 rfl rfl rfl (Or.inl (Nat.le_of_ble_eq_true rfl))).trans ((xBipush d174_73).trans ((xIload_n d174_75 rfl).trans ((xIadd d174_76).trans ((xAload_n d174_77 rfl).trans ((xGetR 20 99 d174_78 zo_174 zfl_11_44 rfl rfl rfl (Or.inl (Nat.le_of_ble_eq_true rfl))).trans ((xBipush d174_81).trans ((xIload_n d174_83 rfl).trans ((xIadd d174_84).trans ((xIald (N := 392) ((sI I 99 (wr (48 + a1)) (I 99 (wr (48 + a3)))) 99 (wr (80 + a3))) rfl d174_85 rfl (Or.inl (Nat.le_of_ble_eq_true rfl)) rfl).trans (ziteC ((xIast (N := 392) d174_86 rfl (Nat.le_of_ble_eq_true rfl) rfl).trans (ziteC ((xIinc d174_87 rfl rfl rfl).trans ((xIinc d174_90 rfl rfl rfl).trans (xGoto (t := 12) d174_93 rfl))) rfl)) rfl)))))))))))) rfl)) rfl)))))))))))) ((xAload_n d174_35 rfl).trans ((xAload_n d174_36 rfl).trans ((xGetR 20 99 d174_37 zo_174 zfl_11_44 rfl rfl rfl (Or.inl (Nat.le_of_ble_eq_true rfl))).trans ((xBipush d174_40).trans ((xIload_n d174_42 rfl).trans ((xIadd d174_43).trans ((xIald (N := 392) (I 99 (wr (48 + a3))) rfl d174_44 rfl (Or.inl (Nat.le_of_ble_eq_true rfl)) rfl).trans (ziteC (xInvV [vR 87, vI (I 99 (wr (48 + a3)))] [] d174_45 zo_174 zml_11_221 rfl rfl rfl (Or.inl ⟨rfl, (Nat.le_of_ble_eq_true rfl)⟩)) rfl))))))))))))))) rfl))))))))))
theorem e174_48 {I : Nat → Int → Int} {b : Bool} {S : Nat} {a1 a2 a3 : Int} : zX 174 48 [vR 87, vI a1, vI a2, vI a3] [] (I, zRs b, 103, S) = zX 174 12 [vR 87, vI a1, vI a2, vI (wr (a3 + 1))] [] (I, zRs b, 103, S) := (xGoto (t := 90) d174_48 rfl).trans ((xIinc d174_90 rfl rfl rfl).trans (xGoto (t := 12) d174_93 rfl))
theorem run175 {h : zH} {x0 : Int} : zrun 175 [vR 87, vI x0] h = zX 175 0 [vR 87, vI x0] [] h := rfl
theorem e175_0 {I : Nat → Int → Int} {b : Bool} {S : Nat} {x0 : Int} : zX 175 0 [vR 87, vI x0] [] (I, zRs b, 103, S) = if 200 ≤ (I 99 4) then some (none, ((sI (sI I 99 4 (wr ((I 99 4) + 1))) 99 3 x0), zRs b, 103, S)) else if 0 ≤ (wr (112 + (I 99 4))) ∧ (wr (112 + (I 99 4))) < 392 then some (none, ((sI (sI (sI I 99 (wr (112 + (I 99 4))) x0) 99 4 (wr (((sI I 99 (wr (112 + (I 99 4))) x0) 99 4) + 1))) 99 3 x0), zRs b, 103, S)) else none := (xAload_n d175_0 rfl).trans ((xGetR 20 99 d175_1 zo_175 zfl_11_44 rfl rfl rfl (Or.inl (Nat.le_of_ble_eq_true rfl))).trans ((xIconst d175_4).trans ((xIald (N := 392) (I 99 4) rfl d175_5 rfl (Or.inl (Nat.le_of_ble_eq_true rfl)) rfl).trans ((if_pos (by decide)).trans ((xSipush d175_6).trans ((xIcmpGe (t := 27) d175_9 rfl).trans (ziteC ((xAload_n d175_27 rfl).trans ((xGetR 20 99 d175_28 zo_175 zfl_11_44 rfl rfl rfl (Or.inl (Nat.le_of_ble_eq_true rfl))).trans ((xIconst d175_31).trans ((xDup2 d175_32 rfl rfl).trans ((xIald (N := 392) (I 99 4) rfl d175_33 rfl (Or.inl (Nat.le_of_ble_eq_true rfl)) rfl).trans ((if_pos (by decide)).trans ((xIconst d175_34).trans ((xIadd d175_35).trans ((xIast (N := 392) d175_36 rfl (Nat.le_of_ble_eq_true rfl) rfl).trans ((if_pos (by decide)).trans ((xAload_n d175_37 rfl).trans ((xGetR 20 99 d175_38 zo_175 zfl_11_44 rfl rfl rfl (Or.inl (Nat.le_of_ble_eq_true rfl))).trans ((xIconst d175_41).trans ((xIload_n d175_42 rfl).trans ((xIast (N := 392) d175_43 rfl (Nat.le_of_ble_eq_true rfl) rfl).trans ((if_pos (by decide)).trans (xVret d175_44 zret_175))))))))))))))))) ((xAload_n d175_12 rfl).trans ((xGetR 20 99 d175_13 zo_175 zfl_11_44 rfl rfl rfl (Or.inl (Nat.le_of_ble_eq_true rfl))).trans ((xBipush d175_16).trans ((xAload_n d175_18 rfl).trans ((xGetR 20 99 d175_19 zo_175 zfl_11_44 rfl rfl rfl (Or.inl (Nat.le_of_ble_eq_true rfl))).trans ((xIconst d175_22).trans ((xIald (N := 392) (I 99 4) rfl d175_23 rfl (Or.inl (Nat.le_of_ble_eq_true rfl)) rfl).trans ((if_pos (by decide)).trans ((xIadd d175_24).trans ((xIload_n d175_25 rfl).trans ((xIast (N := 392) d175_26 rfl (Nat.le_of_ble_eq_true rfl) rfl).trans (ziteC ((xAload_n d175_27 rfl).trans ((xGetR 20 99 d175_28 zo_175 zfl_11_44 rfl rfl rfl (Or.inl (Nat.le_of_ble_eq_true rfl))).trans ((xIconst d175_31).trans ((xDup2 d175_32 rfl rfl).trans ((xIald (N := 392) ((sI I 99 (wr (112 + (I 99 4))) x0) 99 4) rfl d175_33 rfl (Or.inl (Nat.le_of_ble_eq_true rfl)) rfl).trans ((if_pos (by decide)).trans ((xIconst d175_34).trans ((xIadd d175_35).trans ((xIast (N := 392) d175_36 rfl (Nat.le_of_ble_eq_true rfl) rfl).trans ((if_pos (by decide)).trans ((xAload_n d175_37 rfl).trans ((xGetR 20 99 d175_38 zo_175 zfl_11_44 rfl rfl rfl (Or.inl (Nat.le_of_ble_eq_true rfl))).trans ((xIconst d175_41).trans ((xIload_n d175_42 rfl).trans ((xIast (N := 392) d175_43 rfl (Nat.le_of_ble_eq_true rfl) rfl).trans ((if_pos (by decide)).trans (xVret d175_44 zret_175))))))))))))))))) rfl)))))))))))))))))))
theorem run176 {h : zH} : zrun 176 [vR 87] h = zX 176 0 [vR 87, none, none] [] h := rfl
theorem e176_0 {I : Nat → Int → Int} {b : Bool} {S : Nat} : zX 176 0 [vR 87, none, none] [] (I, zRs b, 103, S) = (zrun 167 [vR 87] (I, zRs b, 103, S)).bind (fun q => zX 176 4 [vR 87, none, none] (zpush q.1 []) q.2) := (xAload_n d176_0 rfl).trans (xInvV [vR 87] [] d176_1 zo_176 zml_11_224 rfl rfl rfl (Or.inl ⟨rfl, (Nat.le_of_ble_eq_true rfl)⟩))
theorem e176_4 {I : Nat → Int → Int} {b : Bool} {S : Nat} {t0 : Int} : zX 176 4 [vR 87, none, none] [vI t0] (I, zRs b, 103, S) = (zrun 170 [vR 87, vI (wr (t0.tdiv 8))] (I, zRs b, 103, S)).bind (fun q => zX 176 13 [vR 87, vI (wr (t0.tdiv 8)), none] (zpush q.1 []) q.2) := (xBipush d176_4).trans ((xIdiv d176_6 (by decide)).trans ((xIstore_n d176_7 rfl rfl).trans ((xAload_n d176_8 rfl).trans ((xIload_n d176_9 rfl).trans (xInvV [vR 87, vI (wr (t0.tdiv 8))] [] d176_10 zo_176 zml_11_227 rfl rfl rfl (Or.inl ⟨rfl, (Nat.le_of_ble_eq_true rfl)⟩))))))
theorem e176_13 {I : Nat → Int → Int} {b : Bool} {S : Nat} {a1 t0 : Int} : zX 176 13 [vR 87, vI a1, none] [vI t0] (I, zRs b, 103, S) = if t0 = (-4) then (zrun 175 [vR 87, vI (I 99 3)] ((sI I 99 5 (wr ((I 99 5) + 1))), zRs b, 103, S)).bind (fun q => zX 176 40 [vR 87, vI a1, vI t0] (zpush q.1 []) q.2) else (zrun 171 [vR 87, vI t0] (I, zRs b, 103, S)).bind (fun q => zX 176 46 [vR 87, vI a1, vI t0] (zpush q.1 []) q.2) := (xIstore_n d176_13 rfl rfl).trans ((xIload_n d176_14 rfl).trans ((xBipush d176_15).trans ((xIcmpNe (t := 41) d176_17 rfl).trans (ziteC ((xAload_n d176_20 rfl).trans ((xGetR 20 99 d176_21 zo_176 zfl_11_44 rfl rfl rfl (Or.inl (Nat.le_of_ble_eq_true rfl))).trans ((xIconst d176_24).trans ((xDup2 d176_25 rfl rfl).trans ((xIald (N := 392) (I 99 5) rfl d176_26 rfl (Or.inl (Nat.le_of_ble_eq_true rfl)) rfl).trans ((if_pos (by decide)).trans ((xIconst d176_27).trans ((xIadd d176_28).trans ((xIast (N := 392) d176_29 rfl (Nat.le_of_ble_eq_true rfl) rfl).trans ((if_pos (by decide)).trans ((xAload_n d176_30 rfl).trans ((xAload_n d176_31 rfl).trans ((xGetR 20 99 d176_32 zo_176 zfl_11_44 rfl rfl rfl (Or.inl (Nat.le_of_ble_eq_true rfl))).trans ((xIconst d176_35).trans ((xIald (N := 392) (I 99 3) (sI_k (by decide)) d176_36 rfl (Or.inl (Nat.le_of_ble_eq_true rfl)) rfl).trans ((if_pos (by decide)).trans (xInvV [vR 87, vI (I 99 3)] [] d176_37 zo_176 zml_11_230 rfl rfl rfl (Or.inl ⟨rfl, (Nat.le_of_ble_eq_true rfl)⟩)))))))))))))))))) ((xAload_n d176_41 rfl).trans ((xIload_n d176_42 rfl).trans (xInvV [vR 87, vI t0] [] d176_43 zo_176 zml_11_218 rfl rfl rfl (Or.inl ⟨rfl, (Nat.le_of_ble_eq_true rfl)⟩))))))))
theorem e176_40 {I : Nat → Int → Int} {b : Bool} {S : Nat} {a1 a2 : Int} : zX 176 40 [vR 87, vI a1, vI a2] [] (I, zRs b, 103, S) = some (none, (I, zRs b, 103, S)) := xVret d176_40 zret_176
theorem e176_46 {I : Nat → Int → Int} {b : Bool} {S : Nat} {a1 a2 : Int} : zX 176 46 [vR 87, vI a1, vI a2] [] (I, zRs b, 103, S) = if 0 ≤ (wr (42 + (I 99 7))) ∧ (wr (42 + (I 99 7))) < 392 then (zrun 169 [vR 87] ((sI (sI I 99 (wr (42 + (I 99 7))) a1) 99 7 (wr (((sI I 99 (wr (42 + (I 99 7))) a1) 99 7) + 1))), zRs b, 103, S)).bind (fun q => zX 176 78 [vR 87, vI a1, vI a2] (zpush q.1 [vR 87]) q.2) else none := (xAload_n d176_46 rfl).trans ((xGetR 20 99 d176_47 zo_176 zfl_11_44 rfl rfl rfl (Or.inl (Nat.le_of_ble_eq_true rfl))).trans ((xBipush d176_50).trans ((xAload_n d176_52 rfl).trans ((xGetR 20 99 d176_53 zo_176 zfl_11_44 rfl rfl rfl (Or.inl (Nat.le_of_ble_eq_true rfl))).trans ((xBipush d176_56).trans ((xIald (N := 392) (I 99 7) rfl d176_58 rfl (Or.inl (Nat.le_of_ble_eq_true rfl)) rfl).trans ((if_pos (by decide)).trans ((xIadd d176_59).trans ((xIload_n d176_60 rfl).trans ((xIast (N := 392) d176_61 rfl (Nat.le_of_ble_eq_true rfl) rfl).trans (ziteC ((xAload_n d176_62 rfl).trans ((xGetR 20 99 d176_63 zo_176 zfl_11_44 rfl rfl rfl (Or.inl (Nat.le_of_ble_eq_true rfl))).trans ((xBipush d176_66).trans ((xDup2 d176_68 rfl rfl).trans ((xIald (N := 392) ((sI I 99 (wr (42 + (I 99 7))) a1) 99 7) rfl d176_69 rfl (Or.inl (Nat.le_of_ble_eq_true rfl)) rfl).trans ((if_pos (by decide)).trans ((xIconst d176_70).trans ((xIadd d176_71).trans ((xIast (N := 392) d176_72 rfl (Nat.le_of_ble_eq_true rfl) rfl).trans ((if_pos (by decide)).trans ((xAload_n d176_73 rfl).trans ((xAload_n d176_74 rfl).trans (xInvV [vR 87] [vR 87] d176_75 zo_176 zml_11_233 rfl rfl rfl (Or.inl ⟨rfl, (Nat.le_of_ble_eq_true rfl)⟩)))))))))))))) rfl)))))))))))
theorem e176_78 {I : Nat → Int → Int} {b : Bool} {S : Nat} {a1 a2 t1 : Int} : zX 176 78 [vR 87, vI a1, vI a2] [vI t1, vR 87] (I, zRs b, 103, S) = (zrun 175 [vR 87, vI t1] (I, zRs b, 103, S)).bind (fun q => zX 176 81 [vR 87, vI a1, vI a2] (zpush q.1 []) q.2) := xInvV [vR 87, vI t1] [] d176_78 zo_176 zml_11_230 rfl rfl rfl (Or.inl ⟨rfl, (Nat.le_of_ble_eq_true rfl)⟩)
theorem e176_81 {I : Nat → Int → Int} {b : Bool} {S : Nat} {a1 a2 : Int} : zX 176 81 [vR 87, vI a1, vI a2] [] (I, zRs b, 103, S) = (zrun 168 [vR 87] (I, zRs b, 103, S)).bind (fun q => zX 176 85 [vR 87, vI a1, vI a2] (zpush q.1 []) q.2) := (xAload_n d176_81 rfl).trans (xInvV [vR 87] [] d176_82 zo_176 zml_11_236 rfl rfl rfl (Or.inl ⟨rfl, (Nat.le_of_ble_eq_true rfl)⟩))
theorem e176_85 {I : Nat → Int → Int} {b : Bool} {S : Nat} {a1 a2 : Int} : zX 176 85 [vR 87, vI a1, vI a2] [] (I, zRs b, 103, S) = some (none, (I, zRs b, 103, S)) := xVret d176_85 zret_176
theorem run177 {h : zH} : zrun 177 [vR 87] h = zX 177 0 [vR 87, none] [] h := rfl
theorem e177_0 {I : Nat → Int → Int} {b : Bool} {S : Nat} : zX 177 0 [vR 87, none] [] (I, zRs b, 103, S) = (zrun 160 [vR 87, vI 0] (I, zRs b, 103, S)).bind (fun q => zX 177 5 [vR 87, none] (zpush q.1 []) q.2) := (xAload_n d177_0 rfl).trans ((xIconst d177_1).trans (xInvV [vR 87, vI 0] [] d177_2 zo_177 zml_11_205 rfl rfl rfl (Or.inl ⟨rfl, (Nat.le_of_ble_eq_true rfl)⟩)))
theorem e177_5 {I : Nat → Int → Int} {b : Bool} {S : Nat} : zX 177 5 [vR 87, none] [] (I, zRs b, 103, S) = zX 177 12 [vR 87, vI 0] [] ((sI I 87 23 0), zRs b, 103, S) := (xAload_n d177_5 rfl).trans ((xIconst d177_6).trans ((xPutI 23 d177_7 zo_177 zfl_11_239 rfl rfl (Nat.le_of_ble_eq_true rfl) (Or.inl rfl)).trans ((xIconst d177_10).trans (xIstore_n d177_11 rfl rfl))))
theorem e177_12 {I : Nat → Int → Int} {b : Bool} {S : Nat} {a1 : Int} : zX 177 12 [vR 87, vI a1] [] (I, zRs b, 103, S) = if (I 93 17) < a1 then some (none, (I, zRs b, 103, S)) else if (I 99 0) = (-4) then some (none, (I, zRs b, 103, S)) else (zrun 167 [vR 87] (I, zRs b, 103, S)).bind (fun q => zX 177 46 [vR 87, vI a1] (zpush q.1 [vI (I 87 23), vR 100]) q.2) := (xIload_n d177_12 rfl).trans ((xAload_n d177_13 rfl).trans ((xGetR 6 93 d177_14 zo_177 zfl_11_25 rfl rfl rfl (Or.inl (Nat.le_of_ble_eq_true rfl))).trans ((xBipush d177_17).trans ((xIald (N := 392) (I 93 17) rfl d177_19 rfl (Or.inl (Nat.le_of_ble_eq_true rfl)) rfl).trans ((if_pos (by decide)).trans ((xIcmpGt (t := 70) d177_20 rfl).trans (ziteC (xVret d177_70 zret_177) ((xAload_n d177_23 rfl).trans ((xGetR 20 99 d177_24 zo_177 zfl_11_44 rfl rfl rfl (Or.inl (Nat.le_of_ble_eq_true rfl))).trans ((xIconst d177_27).trans ((xIald (N := 392) (I 99 0) rfl d177_28 rfl (Or.inl (Nat.le_of_ble_eq_true rfl)) rfl).trans ((if_pos (by decide)).trans ((xBipush d177_29).trans ((xIcmpEq (t := 70) d177_31 rfl).trans (ziteC (xVret d177_70 zret_177) ((xAload_n d177_34 rfl).trans ((xGetR 22 100 d177_35 zo_177 zfl_11_47 rfl rfl rfl (Or.inl (Nat.le_of_ble_eq_true rfl))).trans ((xAload_n d177_38 rfl).trans ((xGetI 23 (I 87 23) rfl d177_39 zo_177 zfl_11_239 (by decide) rfl rfl (Or.inl (Nat.le_of_ble_eq_true rfl))).trans ((xAload_n d177_42 rfl).trans (xInvV [vR 87] [vI (I 87 23), vR 100] d177_43 zo_177 zml_11_224 rfl rfl rfl (Or.inl ⟨rfl, (Nat.le_of_ble_eq_true rfl)⟩))))))))))))))))))))))
theorem e177_46 {I : Nat → Int → Int} {b : Bool} {S : Nat} {a1 t1 t2 : Int} : zX 177 46 [vR 87, vI a1] [vI t2, vI t1, vR 100] (I, zRs b, 103, S) = if 0 ≤ t1 ∧ t1 < 18 then (zrun 168 [vR 87] ((sI (sI I 100 t1 (wr (t2.tdiv 8))) 87 23 (wr ((I 87 23) + 1))), zRs b, 103, S)).bind (fun q => zX 177 64 [vR 87, vI a1] (zpush q.1 []) q.2) else none := (xBipush d177_46).trans ((xIdiv d177_48 (by decide)).trans ((xIast (N := 18) d177_49 rfl (Nat.le_of_ble_eq_true rfl) rfl).trans (ziteC ((xAload_n d177_50 rfl).trans ((xDup d177_51 rfl).trans ((xGetI 23 (I 87 23) (sI_p (by decide)) d177_52 zo_177 zfl_11_239 (by decide) rfl rfl (Or.inl (Nat.le_of_ble_eq_true rfl))).trans ((xIconst d177_55).trans ((xIadd d177_56).trans ((xPutI 23 d177_57 zo_177 zfl_11_239 rfl rfl (Nat.le_of_ble_eq_true rfl) (Or.inl rfl)).trans ((xAload_n d177_60 rfl).trans (xInvV [vR 87] [] d177_61 zo_177 zml_11_236 rfl rfl rfl (Or.inl ⟨rfl, (Nat.le_of_ble_eq_true rfl)⟩))))))))) rfl)))
theorem e177_64 {I : Nat → Int → Int} {b : Bool} {S : Nat} {a1 : Int} : zX 177 64 [vR 87, vI a1] [] (I, zRs b, 103, S) = zX 177 12 [vR 87, vI (wr (a1 + 1))] [] (I, zRs b, 103, S) := (xIinc d177_64 rfl rfl rfl).trans (xGoto (t := 12) d177_67 rfl)
theorem run178 {h : zH} : zrun 178 [vR 87] h = zX 178 0 [vR 87, none] [] h := rfl
theorem e178_0 {I : Nat → Int → Int} {b : Bool} {S : Nat} : zX 178 0 [vR 87, none] [] (I, zRs b, 103, S) = (zrun 177 [vR 87] (I, zRs b, 103, S)).bind (fun q => zX 178 4 [vR 87, none] (zpush q.1 []) q.2) := (xAload_n d178_0 rfl).trans (xInvV [vR 87] [] d178_1 zo_178 zml_11_242 rfl rfl rfl (Or.inl ⟨rfl, (Nat.le_of_ble_eq_true rfl)⟩))
theorem e178_4 {I : Nat → Int → Int} {b : Bool} {S : Nat} : zX 178 4 [vR 87, none] [] (I, zRs b, 103, S) = (zrun 160 [vR 87, vI 1] (I, zRs b, 103, S)).bind (fun q => zX 178 9 [vR 87, none] (zpush q.1 []) q.2) := (xAload_n d178_4 rfl).trans ((xIconst d178_5).trans (xInvV [vR 87, vI 1] [] d178_6 zo_178 zml_11_205 rfl rfl rfl (Or.inl ⟨rfl, (Nat.le_of_ble_eq_true rfl)⟩)))
theorem e178_9 {I : Nat → Int → Int} {b : Bool} {S : Nat} : zX 178 9 [vR 87, none] [] (I, zRs b, 103, S) = zX 178 11 [vR 87, vI 0] [] (I, zRs b, 103, S) := (xIconst d178_9).trans (xIstore_n d178_10 rfl rfl)
theorem e178_11 {I : Nat → Int → Int} {b : Bool} {S : Nat} {a1 : Int} : zX 178 11 [vR 87, vI a1] [] (I, zRs b, 103, S) = if (I 87 23) ≤ a1 then (zrun 161 [vR 87] (I, zRs b, 103, S)).bind (fun q => zX 178 120 [vR 87, vI a1] (zpush q.1 []) q.2) else if 0 ≤ a1 ∧ a1 < 18 then (zrun 170 [vR 87, vI (I 100 a1)] (I, zRs b, 103, S)).bind (fun q => zX 178 29 [vR 87, vI a1] (zpush q.1 []) q.2) else none := (xIload_n d178_11 rfl).trans ((xAload_n d178_12 rfl).trans ((xGetI 23 (I 87 23) rfl d178_13 zo_178 zfl_11_239 (by decide) rfl rfl (Or.inl (Nat.le_of_ble_eq_true rfl))).trans ((xIcmpGe (t := 116) d178_16 rfl).trans (ziteC ((xAload_n d178_116 rfl).trans (xInvV [vR 87] [] d178_117 zo_178 zml_11_212 rfl rfl rfl (Or.inl ⟨rfl, (Nat.le_of_ble_eq_true rfl)⟩))) ((xAload_n d178_19 rfl).trans ((xAload_n d178_20 rfl).trans ((xGetR 22 100 d178_21 zo_178 zfl_11_47 rfl rfl rfl (Or.inl (Nat.le_of_ble_eq_true rfl))).trans ((xIload_n d178_24 rfl).trans ((xIald (N := 18) (I 100 a1) rfl d178_25 rfl (Or.inl (Nat.le_of_ble_eq_true rfl)) rfl).trans (ziteC (xInvV [vR 87, vI (I 100 a1)] [] d178_26 zo_178 zml_11_227 rfl rfl rfl (Or.inl ⟨rfl, (Nat.le_of_ble_eq_true rfl)⟩)) rfl))))))))))
theorem e178_29 {I : Nat → Int → Int} {b : Bool} {S : Nat} {a1 t0 : Int} : zX 178 29 [vR 87, vI a1] [vI t0] (I, zRs b, 103, S) = if t0 = (-4) then if 0 ≤ a1 ∧ a1 < 18 then (zrun 173 [vR 87, vI (I 100 a1)] (I, zRs b, 103, S)).bind (fun q => zX 178 44 [vR 87, vI a1] (zpush q.1 []) q.2) else none else zX 178 11 [vR 87, vI (wr (a1 + 1))] [] (I, zRs b, 103, S) := (xBipush d178_29).trans ((xIcmpNe (t := 110) d178_31 rfl).trans (ziteC ((xAload_n d178_34 rfl).trans ((xAload_n d178_35 rfl).trans ((xGetR 22 100 d178_36 zo_178 zfl_11_47 rfl rfl rfl (Or.inl (Nat.le_of_ble_eq_true rfl))).trans ((xIload_n d178_39 rfl).trans ((xIald (N := 18) (I 100 a1) rfl d178_40 rfl (Or.inl (Nat.le_of_ble_eq_true rfl)) rfl).trans (ziteC (xInvV [vR 87, vI (I 100 a1)] [] d178_41 zo_178 zml_11_245 rfl rfl rfl (Or.inl ⟨rfl, (Nat.le_of_ble_eq_true rfl)⟩)) rfl)))))) ((xIinc d178_110 rfl rfl rfl).trans (xGoto (t := 11) d178_113 rfl))))
theorem e178_44 {I : Nat → Int → Int} {b : Bool} {S : Nat} {a1 t0 : Int} : zX 178 44 [vR 87, vI a1] [vI t0] (I, zRs b, 103, S) = if t0 = 0 then if 0 ≤ a1 ∧ a1 < 18 then if 0 ≤ (wr (48 + (I 99 8))) ∧ (wr (48 + (I 99 8))) < 392 then if 0 ≤ (wr (80 + ((sI I 99 (wr (48 + (I 99 8))) (I 100 a1)) 99 8))) ∧ (wr (80 + ((sI I 99 (wr (48 + (I 99 8))) (I 100 a1)) 99 8))) < 392 then zX 178 11 [vR 87, vI (wr (a1 + 1))] [] ((sI (sI (sI I 99 (wr (48 + (I 99 8))) (I 100 a1)) 99 (wr (80 + ((sI I 99 (wr (48 + (I 99 8))) (I 100 a1)) 99 8))) (wr ((wr (((sI I 99 (wr (48 + (I 99 8))) (I 100 a1)) 99 2) + 1)) + ((sI I 99 (wr (48 + (I 99 8))) (I 100 a1)) 99 16)))) 99 8 (wr (((sI (sI I 99 (wr (48 + (I 99 8))) (I 100 a1)) 99 (wr (80 + ((sI I 99 (wr (48 + (I 99 8))) (I 100 a1)) 99 8))) (wr ((wr (((sI I 99 (wr (48 + (I 99 8))) (I 100 a1)) 99 2) + 1)) + ((sI I 99 (wr (48 + (I 99 8))) (I 100 a1)) 99 16)))) 99 8) + 1))), zRs b, 103, S) else none else none else none else zX 178 11 [vR 87, vI (wr (a1 + 1))] [] (I, zRs b, 103, S) := (xIfNe (t := 110) d178_44 rfl).trans (ziteC ((xAload_n d178_47 rfl).trans ((xGetR 20 99 d178_48 zo_178 zfl_11_44 rfl rfl rfl (Or.inl (Nat.le_of_ble_eq_true rfl))).trans ((xBipush d178_51).trans ((xAload_n d178_53 rfl).trans ((xGetR 20 99 d178_54 zo_178 zfl_11_44 rfl rfl rfl (Or.inl (Nat.le_of_ble_eq_true rfl))).trans ((xBipush d178_57).trans ((xIald (N := 392) (I 99 8) rfl d178_59 rfl (Or.inl (Nat.le_of_ble_eq_true rfl)) rfl).trans ((if_pos (by decide)).trans ((xIadd d178_60).trans ((xAload_n d178_61 rfl).trans ((xGetR 22 100 d178_62 zo_178 zfl_11_47 rfl rfl rfl (Or.inl (Nat.le_of_ble_eq_true rfl))).trans ((xIload_n d178_65 rfl).trans ((xIald (N := 18) (I 100 a1) rfl d178_66 rfl (Or.inl (Nat.le_of_ble_eq_true rfl)) rfl).trans (ziteC ((xIast (N := 392) d178_67 rfl (Nat.le_of_ble_eq_true rfl) rfl).trans (ziteC ((xAload_n d178_68 rfl).trans ((xGetR 20 99 d178_69 zo_178 zfl_11_44 rfl rfl rfl (Or.inl (Nat.le_of_ble_eq_true rfl))).trans ((xBipush d178_72).trans ((xAload_n d178_74 rfl).trans ((xGetR 20 99 d178_75 zo_178 zfl_11_44 rfl rfl rfl (Or.inl (Nat.le_of_ble_eq_true rfl))).trans ((xBipush d178_78).trans ((xIald (N := 392) ((sI I 99 (wr (48 + (I 99 8))) (I 100 a1)) 99 8) rfl d178_80 rfl (Or.inl (Nat.le_of_ble_eq_true rfl)) rfl).trans ((if_pos (by decide)).trans ((xIadd d178_81).trans ((xAload_n d178_82 rfl).trans ((xGetR 20 99 d178_83 zo_178 zfl_11_44 rfl rfl rfl (Or.inl (Nat.le_of_ble_eq_true rfl))).trans ((xIconst d178_86).trans ((xIald (N := 392) ((sI I 99 (wr (48 + (I 99 8))) (I 100 a1)) 99 2) rfl d178_87 rfl (Or.inl (Nat.le_of_ble_eq_true rfl)) rfl).trans ((if_pos (by decide)).trans ((xIconst d178_88).trans ((xIadd d178_89).trans ((xAload_n d178_90 rfl).trans ((xGetR 20 99 d178_91 zo_178 zfl_11_44 rfl rfl rfl (Or.inl (Nat.le_of_ble_eq_true rfl))).trans ((xBipush d178_94).trans ((xIald (N := 392) ((sI I 99 (wr (48 + (I 99 8))) (I 100 a1)) 99 16) rfl d178_96 rfl (Or.inl (Nat.le_of_ble_eq_true rfl)) rfl).trans ((if_pos (by decide)).trans ((xIadd d178_97).trans ((xIast (N := 392) d178_98 rfl (Nat.le_of_ble_eq_true rfl) rfl).trans (ziteC ((xAload_n d178_99 rfl).trans ((xGetR 20 99 d178_100 zo_178 zfl_11_44 rfl rfl rfl (Or.inl (Nat.le_of_ble_eq_true rfl))).trans ((xBipush d178_103).trans ((xDup2 d178_105 rfl rfl).trans ((xIald (N := 392) ((sI (sI I 99 (wr (48 + (I 99 8))) (I 100 a1)) 99 (wr (80 + ((sI I 99 (wr (48 + (I 99 8))) (I 100 a1)) 99 8))) (wr ((wr (((sI I 99 (wr (48 + (I 99 8))) (I 100 a1)) 99 2) + 1)) + ((sI I 99 (wr (48 + (I 99 8))) (I 100 a1)) 99 16)))) 99 8) rfl d178_106 rfl (Or.inl (Nat.le_of_ble_eq_true rfl)) rfl).trans ((if_pos (by decide)).trans ((xIconst d178_107).trans ((xIadd d178_108).trans ((xIast (N := 392) d178_109 rfl (Nat.le_of_ble_eq_true rfl) rfl).trans ((if_pos (by decide)).trans ((xIinc d178_110 rfl rfl rfl).trans (xGoto (t := 11) d178_113 rfl)))))))))))) rfl)))))))))))))))))))))))) rfl)) rfl)))))))))))))) ((xIinc d178_110 rfl rfl rfl).trans (xGoto (t := 11) d178_113 rfl)))
theorem e178_120 {I : Nat → Int → Int} {b : Bool} {S : Nat} {a1 : Int} : zX 178 120 [vR 87, vI a1] [] (I, zRs b, 103, S) = some (none, (I, zRs b, 103, S)) := xVret d178_120 zret_178
theorem run179 {h : zH} : zrun 179 [vR 87] h = zX 179 0 [vR 87] [] h := rfl
theorem e179_0 {I : Nat → Int → Int} {b : Bool} {S : Nat} : zX 179 0 [vR 87] [] (I, zRs b, 103, S) = (zrun 160 [vR 87, vI 1] (I, zRs b, 103, S)).bind (fun q => zX 179 5 [vR 87] (zpush q.1 []) q.2) := (xAload_n d179_0 rfl).trans ((xIconst d179_1).trans (xInvV [vR 87, vI 1] [] d179_2 zo_179 zml_11_205 rfl rfl rfl (Or.inl ⟨rfl, (Nat.le_of_ble_eq_true rfl)⟩)))
theorem e179_5 {I : Nat → Int → Int} {b : Bool} {S : Nat} : zX 179 5 [vR 87] [] (I, zRs b, 103, S) = (zrun 174 [vR 87] ((sI I 99 2 (wr ((I 99 2) + 1))), zRs b, 103, S)).bind (fun q => zX 179 19 [vR 87] (zpush q.1 []) q.2) := (xAload_n d179_5 rfl).trans ((xGetR 20 99 d179_6 zo_179 zfl_11_44 rfl rfl rfl (Or.inl (Nat.le_of_ble_eq_true rfl))).trans ((xIconst d179_9).trans ((xDup2 d179_10 rfl rfl).trans ((xIald (N := 392) (I 99 2) rfl d179_11 rfl (Or.inl (Nat.le_of_ble_eq_true rfl)) rfl).trans ((if_pos (by decide)).trans ((xIconst d179_12).trans ((xIadd d179_13).trans ((xIast (N := 392) d179_14 rfl (Nat.le_of_ble_eq_true rfl) rfl).trans ((if_pos (by decide)).trans ((xAload_n d179_15 rfl).trans (xInvV [vR 87] [] d179_16 zo_179 zml_11_248 rfl rfl rfl (Or.inl ⟨rfl, (Nat.le_of_ble_eq_true rfl)⟩))))))))))))
theorem e179_19 {I : Nat → Int → Int} {b : Bool} {S : Nat} : zX 179 19 [vR 87] [] (I, zRs b, 103, S) = if (I 99 0) = (-4) then zX 179 34 [vR 87] [] (I, zRs b, 103, S) else (zrun 176 [vR 87] (I, zRs b, 103, S)).bind (fun q => zX 179 34 [vR 87] (zpush q.1 []) q.2) := (xAload_n d179_19 rfl).trans ((xGetR 20 99 d179_20 zo_179 zfl_11_44 rfl rfl rfl (Or.inl (Nat.le_of_ble_eq_true rfl))).trans ((xIconst d179_23).trans ((xIald (N := 392) (I 99 0) rfl d179_24 rfl (Or.inl (Nat.le_of_ble_eq_true rfl)) rfl).trans ((if_pos (by decide)).trans ((xBipush d179_25).trans ((xIcmpEq (t := 34) d179_27 rfl).trans (ziteC rfl ((xAload_n d179_30 rfl).trans (xInvV [vR 87] [] d179_31 zo_179 zml_11_251 rfl rfl rfl (Or.inl ⟨rfl, (Nat.le_of_ble_eq_true rfl)⟩))))))))))
theorem e179_34 {I : Nat → Int → Int} {b : Bool} {S : Nat} : zX 179 34 [vR 87] [] (I, zRs b, 103, S) = (zrun 161 [vR 87] (I, zRs b, 103, S)).bind (fun q => zX 179 38 [vR 87] (zpush q.1 []) q.2) := (xAload_n d179_34 rfl).trans (xInvV [vR 87] [] d179_35 zo_179 zml_11_212 rfl rfl rfl (Or.inl ⟨rfl, (Nat.le_of_ble_eq_true rfl)⟩))
theorem e179_38 {I : Nat → Int → Int} {b : Bool} {S : Nat} : zX 179 38 [vR 87] [] (I, zRs b, 103, S) = (zrun 178 [vR 87] (I, zRs b, 103, S)).bind (fun q => zX 179 42 [vR 87] (zpush q.1 []) q.2) := (xAload_n d179_38 rfl).trans (xInvV [vR 87] [] d179_39 zo_179 zml_11_254 rfl rfl rfl (Or.inl ⟨rfl, (Nat.le_of_ble_eq_true rfl)⟩))
theorem e179_42 {I : Nat → Int → Int} {b : Bool} {S : Nat} : zX 179 42 [vR 87] [] (I, zRs b, 103, S) = some (none, (I, zRs b, 103, S)) := xVret d179_42 zret_179
theorem run180 {h : zH} : zrun 180 [vR 87] h = zX 180 0 [vR 87, none, none] [] h := rfl
theorem e180_0 {I : Nat → Int → Int} {b : Bool} {S : Nat} : zX 180 0 [vR 87, none, none] [] (I, zRs b, 103, S) = zX 180 4 [vR 87, vI 0, vI 0] [] (I, zRs b, 103, S) := (xIconst d180_0).trans ((xIstore_n d180_1 rfl rfl).trans ((xIconst d180_2).trans (xIstore_n d180_3 rfl rfl)))
theorem e180_4 {I : Nat → Int → Int} {b : Bool} {S : Nat} {a1 a2 : Int} : zX 180 4 [vR 87, vI a1, vI a2] [] (I, zRs b, 103, S) = if (I 88 1) ≤ a2 then if a1 = 0 ∨ a1 = 1 then some (some (vI a1), (I, zRs b, 103, S)) else none else if a1 = 0 then (zrun 158 [vR 87, vI a2, vI 0] (I, zRs b, 103, S)).bind (fun q => zX 180 24 [vR 87, vI a1, vI a2] (zpush q.1 []) q.2) else zX 180 4 [vR 87, vI 1, vI (wr (a2 + 1))] [] (I, zRs b, 103, S) := (xIload_n d180_4 rfl).trans ((xAload_n d180_5 rfl).trans ((xGetR 0 88 d180_6 zo_180 zfl_11_7 rfl rfl rfl (Or.inl (Nat.le_of_ble_eq_true rfl))).trans ((xIconst d180_9).trans ((xIald (N := 234) (I 88 1) rfl d180_10 rfl (Or.inl (Nat.le_of_ble_eq_true rfl)) rfl).trans ((if_pos (by decide)).trans ((xIcmpGe (t := 40) d180_11 rfl).trans (ziteC ((xIload_n d180_40 rfl).trans (xZretG d180_41 zret_180)) ((xIload_n d180_14 rfl).trans ((xIfNe (t := 28) d180_15 rfl).trans (ziteC ((xAload_n d180_18 rfl).trans ((xIload_n d180_19 rfl).trans ((xIconst d180_20).trans (xInvV [vR 87, vI a2, vI 0] [] d180_21 zo_180 zml_11_192 rfl rfl rfl (Or.inl ⟨rfl, (Nat.le_of_ble_eq_true rfl)⟩))))) ((xIconst d180_28).trans ((xGoto (t := 33) d180_29 rfl).trans ((xIstore_n d180_33 rfl rfl).trans ((xIinc d180_34 rfl rfl rfl).trans (xGoto (t := 4) d180_37 rfl)))))))))))))))
theorem e180_24 {I : Nat → Int → Int} {b : Bool} {S : Nat} {a1 a2 t0 : Int} : zX 180 24 [vR 87, vI a1, vI a2] [vI t0] (I, zRs b, 103, S) = if t0 = 3 then zX 180 4 [vR 87, vI 1, vI (wr (a2 + 1))] [] (I, zRs b, 103, S) else zX 180 4 [vR 87, vI 0, vI (wr (a2 + 1))] [] (I, zRs b, 103, S) := (xIconst d180_24).trans ((xIcmpNe (t := 32) d180_25 rfl).trans (ziteC ((xIconst d180_28).trans ((xGoto (t := 33) d180_29 rfl).trans ((xIstore_n d180_33 rfl rfl).trans ((xIinc d180_34 rfl rfl rfl).trans (xGoto (t := 4) d180_37 rfl))))) ((xIconst d180_32).trans ((xIstore_n d180_33 rfl rfl).trans ((xIinc d180_34 rfl rfl rfl).trans (xGoto (t := 4) d180_37 rfl))))))
