theorem zo_125 : zo 125 = 11 := by decide +kernel
theorem zret_125 : zret 125 = some .boolean := by decide +kernel
theorem d125_0 : decode (zb 125) 0 = .ok (.lload_n 0, 1) := by decide +kernel
theorem d125_1 : decode (zb 125) 1 = .ok (.lload_n 2, 1) := by decide +kernel
theorem d125_2 : decode (zb 125) 2 = .ok (.lcmp, 1) := by decide +kernel
theorem d125_3 : decode (zb 125) 3 = .ok (.ifCond .lt 14, 3) := by decide +kernel
theorem d125_6 : decode (zb 125) 6 = .ok (.lload_n 0, 1) := by decide +kernel
theorem d125_7 : decode (zb 125) 7 = .ok (.lload 4, 2) := by decide +kernel
theorem d125_9 : decode (zb 125) 9 = .ok (.lcmp, 1) := by decide +kernel
theorem d125_10 : decode (zb 125) 10 = .ok (.ifCond .gt 7, 3) := by decide +kernel
theorem d125_13 : decode (zb 125) 13 = .ok (.iconst 1, 1) := by decide +kernel
theorem d125_14 : decode (zb 125) 14 = .ok (.goto 4, 3) := by decide +kernel
theorem d125_17 : decode (zb 125) 17 = .ok (.iconst 0, 1) := by decide +kernel
theorem d125_18 : decode (zb 125) 18 = .ok (.ireturn, 1) := by decide +kernel
theorem zo_126 : zo 126 = 11 := by decide +kernel
theorem zret_126 : zret 126 = some .int := by decide +kernel
theorem d126_0 : decode (zb 126) 0 = .ok (.iload_n 0, 1) := by decide +kernel
theorem d126_1 : decode (zb 126) 1 = .ok (.ifCond .eq 7, 3) := by decide +kernel
theorem d126_4 : decode (zb 126) 4 = .ok (.iconst 1, 1) := by decide +kernel
theorem d126_5 : decode (zb 126) 5 = .ok (.goto 4, 3) := by decide +kernel
theorem d126_8 : decode (zb 126) 8 = .ok (.iconst 0, 1) := by decide +kernel
theorem d126_9 : decode (zb 126) 9 = .ok (.ireturn, 1) := by decide +kernel
theorem zo_127 : zo 127 = 11 := by decide +kernel
theorem zret_127 : zret 127 = some .int := by decide +kernel
theorem d127_0 : decode (zb 127) 0 = .ok (.iload_n 1, 1) := by decide +kernel
theorem d127_1 : decode (zb 127) 1 = .ok (.i2l, 1) := by decide +kernel
theorem d127_2 : decode (zb 127) 2 = .ok (.lconst 0, 1) := by decide +kernel
theorem d127_3 : decode (zb 127) 3 = .ok (.ldc2_w 62, 3) := by decide +kernel
theorem d127_6 : decode (zb 127) 6 = .ok (.invokestatic 64, 3) := by decide +kernel
theorem d127_9 : decode (zb 127) 9 = .ok (.ifCond .ne 5, 3) := by decide +kernel
theorem d127_12 : decode (zb 127) 12 = .ok (.iconst (-1), 1) := by decide +kernel
theorem d127_13 : decode (zb 127) 13 = .ok (.ireturn, 1) := by decide +kernel
theorem d127_14 : decode (zb 127) 14 = .ok (.aload_n 0, 1) := by decide +kernel
theorem d127_15 : decode (zb 127) 15 = .ok (.getfield 68, 3) := by decide +kernel
theorem d127_18 : decode (zb 127) 18 = .ok (.sipush 300, 3) := by decide +kernel
theorem d127_21 : decode (zb 127) 21 = .ok (.if_icmp .ne 6, 3) := by decide +kernel
theorem d127_24 : decode (zb 127) 24 = .ok (.bipush (-3), 2) := by decide +kernel
theorem d127_26 : decode (zb 127) 26 = .ok (.ireturn, 1) := by decide +kernel
theorem d127_27 : decode (zb 127) 27 = .ok (.aload_n 0, 1) := by decide +kernel
theorem d127_28 : decode (zb 127) 28 = .ok (.getfield 35, 3) := by decide +kernel
theorem d127_31 : decode (zb 127) 31 = .ok (.aload_n 0, 1) := by decide +kernel
theorem d127_32 : decode (zb 127) 32 = .ok (.getfield 68, 3) := by decide +kernel
theorem d127_35 : decode (zb 127) 35 = .ok (.iload_n 1, 1) := by decide +kernel
theorem d127_36 : decode (zb 127) 36 = .ok (.iastore, 1) := by decide +kernel
theorem d127_37 : decode (zb 127) 37 = .ok (.aload_n 0, 1) := by decide +kernel
theorem d127_38 : decode (zb 127) 38 = .ok (.dup, 1) := by decide +kernel
theorem d127_39 : decode (zb 127) 39 = .ok (.getfield 68, 3) := by decide +kernel
theorem d127_42 : decode (zb 127) 42 = .ok (.iconst 1, 1) := by decide +kernel
theorem d127_43 : decode (zb 127) 43 = .ok (.iadd, 1) := by decide +kernel
theorem d127_44 : decode (zb 127) 44 = .ok (.putfield 68, 3) := by decide +kernel
theorem d127_47 : decode (zb 127) 47 = .ok (.aload_n 0, 1) := by decide +kernel
theorem d127_48 : decode (zb 127) 48 = .ok (.getfield 68, 3) := by decide +kernel
theorem d127_51 : decode (zb 127) 51 = .ok (.ireturn, 1) := by decide +kernel
theorem zo_128 : zo 128 = 11 := by decide +kernel
theorem zret_128 : zret 128 = some .int := by decide +kernel
theorem d128_0 : decode (zb 128) 0 = .ok (.iload_n 1, 1) := by decide +kernel
theorem d128_1 : decode (zb 128) 1 = .ok (.i2l, 1) := by decide +kernel
theorem d128_2 : decode (zb 128) 2 = .ok (.lconst 0, 1) := by decide +kernel
theorem d128_3 : decode (zb 128) 3 = .ok (.aload_n 0, 1) := by decide +kernel
theorem d128_4 : decode (zb 128) 4 = .ok (.getfield 68, 3) := by decide +kernel
theorem d128_7 : decode (zb 128) 7 = .ok (.i2l, 1) := by decide +kernel
theorem d128_8 : decode (zb 128) 8 = .ok (.invokestatic 64, 3) := by decide +kernel
theorem d128_11 : decode (zb 128) 11 = .ok (.ifCond .ne 5, 3) := by decide +kernel
theorem d128_14 : decode (zb 128) 14 = .ok (.iconst (-1), 1) := by decide +kernel
theorem d128_15 : decode (zb 128) 15 = .ok (.ireturn, 1) := by decide +kernel
theorem d128_16 : decode (zb 128) 16 = .ok (.aload_n 0, 1) := by decide +kernel
theorem d128_17 : decode (zb 128) 17 = .ok (.getfield 68, 3) := by decide +kernel
theorem d128_20 : decode (zb 128) 20 = .ok (.istore_n 2, 1) := by decide +kernel
theorem d128_21 : decode (zb 128) 21 = .ok (.aload_n 0, 1) := by decide +kernel
theorem d128_22 : decode (zb 128) 22 = .ok (.iload_n 1, 1) := by decide +kernel
theorem d128_23 : decode (zb 128) 23 = .ok (.putfield 68, 3) := by decide +kernel
theorem d128_26 : decode (zb 128) 26 = .ok (.iload_n 2, 1) := by decide +kernel
theorem d128_27 : decode (zb 128) 27 = .ok (.ireturn, 1) := by decide +kernel
theorem zo_129 : zo 129 = 11 := by decide +kernel
theorem zret_129 : zret 129 = none := by decide +kernel
theorem d129_0 : decode (zb 129) 0 = .ok (.iload_n 1, 1) := by decide +kernel
theorem d129_1 : decode (zb 129) 1 = .ok (.ifCond .ne 23, 3) := by decide +kernel
theorem d129_4 : decode (zb 129) 4 = .ok (.aload_n 0, 1) := by decide +kernel
theorem d129_5 : decode (zb 129) 5 = .ok (.getfield 72, 3) := by decide +kernel
theorem d129_8 : decode (zb 129) 8 = .ok (.ifCond .ne 16, 3) := by decide +kernel
theorem d129_11 : decode (zb 129) 11 = .ok (.aload_n 0, 1) := by decide +kernel
theorem d129_12 : decode (zb 129) 12 = .ok (.iload_n 2, 1) := by decide +kernel
theorem d129_13 : decode (zb 129) 13 = .ok (.putfield 72, 3) := by decide +kernel
theorem d129_16 : decode (zb 129) 16 = .ok (.aload_n 0, 1) := by decide +kernel
theorem d129_17 : decode (zb 129) 17 = .ok (.aload_n 0, 1) := by decide +kernel
theorem d129_18 : decode (zb 129) 18 = .ok (.getfield 75, 3) := by decide +kernel
theorem d129_21 : decode (zb 129) 21 = .ok (.putfield 78, 3) := by decide +kernel
theorem d129_24 : decode (zb 129) 24 = .ok (.return_, 1) := by decide +kernel
theorem zo_130 : zo 130 = 11 := by decide +kernel
theorem zret_130 : zret 130 = some .int := by decide +kernel
theorem d130_0 : decode (zb 130) 0 = .ok (.iload_n 1, 1) := by decide +kernel
theorem d130_1 : decode (zb 130) 1 = .ok (.aload_n 0, 1) := by decide +kernel
theorem d130_2 : decode (zb 130) 2 = .ok (.getfield 68, 3) := by decide +kernel
theorem d130_5 : decode (zb 130) 5 = .ok (.if_icmp .ge 12, 3) := by decide +kernel
theorem d130_8 : decode (zb 130) 8 = .ok (.aload_n 0, 1) := by decide +kernel
theorem d130_9 : decode (zb 130) 9 = .ok (.getfield 35, 3) := by decide +kernel
theorem d130_12 : decode (zb 130) 12 = .ok (.iload_n 1, 1) := by decide +kernel
theorem d130_13 : decode (zb 130) 13 = .ok (.iaload, 1) := by decide +kernel
theorem d130_14 : decode (zb 130) 14 = .ok (.goto 4, 3) := by decide +kernel
theorem d130_17 : decode (zb 130) 17 = .ok (.iconst (-1), 1) := by decide +kernel
theorem d130_18 : decode (zb 130) 18 = .ok (.ireturn, 1) := by decide +kernel
theorem zo_131 : zo 131 = 11 := by decide +kernel
theorem zret_131 : zret 131 = some .boolean := by decide +kernel
theorem d131_0 : decode (zb 131) 0 = .ok (.aload_n 0, 1) := by decide +kernel
theorem d131_1 : decode (zb 131) 1 = .ok (.getfield 81, 3) := by decide +kernel
theorem d131_4 : decode (zb 131) 4 = .ok (.iconst 1, 1) := by decide +kernel
theorem d131_5 : decode (zb 131) 5 = .ok (.if_icmp .ne 51, 3) := by decide +kernel
theorem d131_8 : decode (zb 131) 8 = .ok (.aload_n 0, 1) := by decide +kernel
theorem d131_9 : decode (zb 131) 9 = .ok (.getfield 84, 3) := by decide +kernel
theorem d131_12 : decode (zb 131) 12 = .ok (.aload_n 0, 1) := by decide +kernel
theorem d131_13 : decode (zb 131) 13 = .ok (.getfield 75, 3) := by decide +kernel
theorem d131_16 : decode (zb 131) 16 = .ok (.isub, 1) := by decide +kernel
theorem d131_17 : decode (zb 131) 17 = .ok (.iload_n 1, 1) := by decide +kernel
theorem d131_18 : decode (zb 131) 18 = .ok (.if_icmp .ne 38, 3) := by decide +kernel
theorem d131_21 : decode (zb 131) 21 = .ok (.aload_n 0, 1) := by decide +kernel
theorem d131_22 : decode (zb 131) 22 = .ok (.aload_n 0, 1) := by decide +kernel
theorem d131_23 : decode (zb 131) 23 = .ok (.getfield 75, 3) := by decide +kernel
theorem d131_26 : decode (zb 131) 26 = .ok (.iload_n 2, 1) := by decide +kernel
theorem d131_27 : decode (zb 131) 27 = .ok (.iadd, 1) := by decide +kernel
theorem d131_28 : decode (zb 131) 28 = .ok (.invokevirtual 87, 3) := by decide +kernel
theorem d131_31 : decode (zb 131) 31 = .ok (.iload_n 3, 1) := by decide +kernel
theorem d131_32 : decode (zb 131) 32 = .ok (.if_icmp .ne 24, 3) := by decide +kernel
theorem d131_35 : decode (zb 131) 35 = .ok (.aload_n 0, 1) := by decide +kernel
theorem d131_36 : decode (zb 131) 36 = .ok (.aload_n 0, 1) := by decide +kernel
theorem d131_37 : decode (zb 131) 37 = .ok (.getfield 75, 3) := by decide +kernel
theorem d131_40 : decode (zb 131) 40 = .ok (.iload_n 2, 1) := by decide +kernel
theorem d131_41 : decode (zb 131) 41 = .ok (.iadd, 1) := by decide +kernel
theorem d131_42 : decode (zb 131) 42 = .ok (.iconst 1, 1) := by decide +kernel
theorem d131_43 : decode (zb 131) 43 = .ok (.iadd, 1) := by decide +kernel
theorem d131_44 : decode (zb 131) 44 = .ok (.invokevirtual 87, 3) := by decide +kernel
theorem d131_47 : decode (zb 131) 47 = .ok (.iload 4, 2) := by decide +kernel
theorem d131_49 : decode (zb 131) 49 = .ok (.if_icmp .ne 7, 3) := by decide +kernel
theorem d131_52 : decode (zb 131) 52 = .ok (.iconst 1, 1) := by decide +kernel
theorem d131_53 : decode (zb 131) 53 = .ok (.goto 4, 3) := by decide +kernel
theorem d131_56 : decode (zb 131) 56 = .ok (.iconst 0, 1) := by decide +kernel
theorem d131_57 : decode (zb 131) 57 = .ok (.ireturn, 1) := by decide +kernel
theorem zo_132 : zo 132 = 11 := by decide +kernel
theorem zret_132 : zret 132 = some .boolean := by decide +kernel
theorem d132_0 : decode (zb 132) 0 = .ok (.aload_n 0, 1) := by decide +kernel
theorem d132_1 : decode (zb 132) 1 = .ok (.iconst 3, 1) := by decide +kernel
theorem d132_2 : decode (zb 132) 2 = .ok (.iconst 0, 1) := by decide +kernel
theorem d132_3 : decode (zb 132) 3 = .ok (.bipush 115, 2) := by decide +kernel
theorem d132_5 : decode (zb 132) 5 = .ok (.bipush 101, 2) := by decide +kernel
theorem d132_7 : decode (zb 132) 7 = .ok (.invokevirtual 91, 3) := by decide +kernel
theorem d132_10 : decode (zb 132) 10 = .ok (.ifCond .eq 20, 3) := by decide +kernel
theorem d132_13 : decode (zb 132) 13 = .ok (.aload_n 0, 1) := by decide +kernel
theorem d132_14 : decode (zb 132) 14 = .ok (.iconst 3, 1) := by decide +kernel
theorem d132_15 : decode (zb 132) 15 = .ok (.iconst 1, 1) := by decide +kernel
theorem d132_16 : decode (zb 132) 16 = .ok (.bipush 101, 2) := by decide +kernel
theorem d132_18 : decode (zb 132) 18 = .ok (.bipush 103, 2) := by decide +kernel
theorem d132_20 : decode (zb 132) 20 = .ok (.invokevirtual 91, 3) := by decide +kernel
theorem d132_23 : decode (zb 132) 23 = .ok (.ifCond .eq 7, 3) := by decide +kernel
theorem d132_26 : decode (zb 132) 26 = .ok (.iconst 1, 1) := by decide +kernel
theorem d132_27 : decode (zb 132) 27 = .ok (.goto 4, 3) := by decide +kernel
theorem d132_30 : decode (zb 132) 30 = .ok (.iconst 0, 1) := by decide +kernel
theorem d132_31 : decode (zb 132) 31 = .ok (.ireturn, 1) := by decide +kernel
theorem zo_133 : zo 133 = 11 := by decide +kernel
theorem zret_133 : zret 133 = some .boolean := by decide +kernel
theorem d133_0 : decode (zb 133) 0 = .ok (.aload_n 0, 1) := by decide +kernel
theorem d133_1 : decode (zb 133) 1 = .ok (.iconst 2, 1) := by decide +kernel
theorem d133_2 : decode (zb 133) 2 = .ok (.iconst 0, 1) := by decide +kernel
theorem d133_3 : decode (zb 133) 3 = .ok (.bipush 103, 2) := by decide +kernel
theorem d133_5 : decode (zb 133) 5 = .ok (.bipush 111, 2) := by decide +kernel
theorem d133_7 : decode (zb 133) 7 = .ok (.invokevirtual 91, 3) := by decide +kernel
theorem d133_10 : decode (zb 133) 10 = .ok (.ireturn, 1) := by decide +kernel
theorem zo_134 : zo 134 = 11 := by decide +kernel
theorem zret_134 : zret 134 = some .int := by decide +kernel
theorem d134_0 : decode (zb 134) 0 = .ok (.aload_n 0, 1) := by decide +kernel
theorem d134_1 : decode (zb 134) 1 = .ok (.iconst 4, 1) := by decide +kernel
theorem d134_2 : decode (zb 134) 2 = .ok (.iconst 0, 1) := by decide +kernel
theorem d134_3 : decode (zb 134) 3 = .ok (.bipush 112, 2) := by decide +kernel
theorem d134_5 : decode (zb 134) 5 = .ok (.bipush 108, 2) := by decide +kernel
theorem d134_7 : decode (zb 134) 7 = .ok (.invokevirtual 91, 3) := by decide +kernel
theorem d134_10 : decode (zb 134) 10 = .ok (.ifCond .eq 18, 3) := by decide +kernel
theorem d134_13 : decode (zb 134) 13 = .ok (.aload_n 0, 1) := by decide +kernel
theorem d134_14 : decode (zb 134) 14 = .ok (.iconst 4, 1) := by decide +kernel
theorem d134_15 : decode (zb 134) 15 = .ok (.iconst 2, 1) := by decide +kernel
theorem d134_16 : decode (zb 134) 16 = .ok (.bipush 97, 2) := by decide +kernel
theorem d134_18 : decode (zb 134) 18 = .ok (.bipush 121, 2) := by decide +kernel
theorem d134_20 : decode (zb 134) 20 = .ok (.invokevirtual 91, 3) := by decide +kernel
theorem d134_23 : decode (zb 134) 23 = .ok (.ifCond .eq 5, 3) := by decide +kernel
theorem d134_26 : decode (zb 134) 26 = .ok (.iconst 0, 1) := by decide +kernel
theorem d134_27 : decode (zb 134) 27 = .ok (.ireturn, 1) := by decide +kernel
theorem d134_28 : decode (zb 134) 28 = .ok (.aload_n 0, 1) := by decide +kernel
theorem d134_29 : decode (zb 134) 29 = .ok (.iconst 4, 1) := by decide +kernel
theorem d134_30 : decode (zb 134) 30 = .ok (.iconst 0, 1) := by decide +kernel
theorem d134_31 : decode (zb 134) 31 = .ok (.bipush 109, 2) := by decide +kernel
theorem d134_33 : decode (zb 134) 33 = .ok (.bipush 97, 2) := by decide +kernel
theorem d134_35 : decode (zb 134) 35 = .ok (.invokevirtual 91, 3) := by decide +kernel
theorem d134_38 : decode (zb 134) 38 = .ok (.ifCond .eq 18, 3) := by decide +kernel
theorem d134_41 : decode (zb 134) 41 = .ok (.aload_n 0, 1) := by decide +kernel
theorem d134_42 : decode (zb 134) 42 = .ok (.iconst 4, 1) := by decide +kernel
theorem d134_43 : decode (zb 134) 43 = .ok (.iconst 2, 1) := by decide +kernel
theorem d134_44 : decode (zb 134) 44 = .ok (.bipush 114, 2) := by decide +kernel
theorem d134_46 : decode (zb 134) 46 = .ok (.bipush 107, 2) := by decide +kernel
theorem d134_48 : decode (zb 134) 48 = .ok (.invokevirtual 91, 3) := by decide +kernel
theorem d134_51 : decode (zb 134) 51 = .ok (.ifCond .eq 5, 3) := by decide +kernel
theorem d134_54 : decode (zb 134) 54 = .ok (.iconst 1, 1) := by decide +kernel
theorem d134_55 : decode (zb 134) 55 = .ok (.ireturn, 1) := by decide +kernel
theorem d134_56 : decode (zb 134) 56 = .ok (.aload_n 0, 1) := by decide +kernel
theorem d134_57 : decode (zb 134) 57 = .ok (.iconst 4, 1) := by decide +kernel
theorem d134_58 : decode (zb 134) 58 = .ok (.iconst 0, 1) := by decide +kernel
theorem d134_59 : decode (zb 134) 59 = .ok (.bipush 108, 2) := by decide +kernel
theorem d134_61 : decode (zb 134) 61 = .ok (.bipush 111, 2) := by decide +kernel
theorem d134_63 : decode (zb 134) 63 = .ok (.invokevirtual 91, 3) := by decide +kernel
theorem d134_66 : decode (zb 134) 66 = .ok (.ifCond .eq 18, 3) := by decide +kernel
theorem d134_69 : decode (zb 134) 69 = .ok (.aload_n 0, 1) := by decide +kernel
theorem d134_70 : decode (zb 134) 70 = .ok (.iconst 4, 1) := by decide +kernel
theorem d134_71 : decode (zb 134) 71 = .ok (.iconst 2, 1) := by decide +kernel
theorem d134_72 : decode (zb 134) 72 = .ok (.bipush 111, 2) := by decide +kernel
theorem d134_74 : decode (zb 134) 74 = .ok (.bipush 112, 2) := by decide +kernel
theorem d134_76 : decode (zb 134) 76 = .ok (.invokevirtual 91, 3) := by decide +kernel
theorem d134_79 : decode (zb 134) 79 = .ok (.ifCond .eq 5, 3) := by decide +kernel
theorem d134_82 : decode (zb 134) 82 = .ok (.iconst 2, 1) := by decide +kernel
theorem d134_83 : decode (zb 134) 83 = .ok (.ireturn, 1) := by decide +kernel
theorem d134_84 : decode (zb 134) 84 = .ok (.aload_n 0, 1) := by decide +kernel
theorem d134_85 : decode (zb 134) 85 = .ok (.iconst 5, 1) := by decide +kernel
theorem d134_86 : decode (zb 134) 86 = .ok (.iconst 0, 1) := by decide +kernel
theorem d134_87 : decode (zb 134) 87 = .ok (.bipush 117, 2) := by decide +kernel
theorem d134_89 : decode (zb 134) 89 = .ok (.bipush 110, 2) := by decide +kernel
theorem d134_91 : decode (zb 134) 91 = .ok (.invokevirtual 91, 3) := by decide +kernel
theorem d134_94 : decode (zb 134) 94 = .ok (.ifCond .eq 33, 3) := by decide +kernel
theorem d134_97 : decode (zb 134) 97 = .ok (.aload_n 0, 1) := by decide +kernel
theorem d134_98 : decode (zb 134) 98 = .ok (.iconst 5, 1) := by decide +kernel
theorem d134_99 : decode (zb 134) 99 = .ok (.iconst 2, 1) := by decide +kernel
theorem d134_100 : decode (zb 134) 100 = .ok (.bipush 116, 2) := by decide +kernel
theorem d134_102 : decode (zb 134) 102 = .ok (.bipush 105, 2) := by decide +kernel
theorem d134_104 : decode (zb 134) 104 = .ok (.invokevirtual 91, 3) := by decide +kernel
theorem d134_107 : decode (zb 134) 107 = .ok (.ifCond .eq 20, 3) := by decide +kernel
theorem d134_110 : decode (zb 134) 110 = .ok (.aload_n 0, 1) := by decide +kernel
theorem d134_111 : decode (zb 134) 111 = .ok (.iconst 5, 1) := by decide +kernel
theorem d134_112 : decode (zb 134) 112 = .ok (.iconst 3, 1) := by decide +kernel
theorem d134_113 : decode (zb 134) 113 = .ok (.bipush 105, 2) := by decide +kernel
theorem d134_115 : decode (zb 134) 115 = .ok (.bipush 108, 2) := by decide +kernel
theorem d134_117 : decode (zb 134) 117 = .ok (.invokevirtual 91, 3) := by decide +kernel
theorem d134_120 : decode (zb 134) 120 = .ok (.ifCond .eq 7, 3) := by decide +kernel
theorem d134_123 : decode (zb 134) 123 = .ok (.iconst 3, 1) := by decide +kernel
theorem d134_124 : decode (zb 134) 124 = .ok (.goto 5, 3) := by decide +kernel
theorem d134_127 : decode (zb 134) 127 = .ok (.bipush (-4), 2) := by decide +kernel
theorem d134_129 : decode (zb 134) 129 = .ok (.ireturn, 1) := by decide +kernel
theorem zo_135 : zo 135 = 11 := by decide +kernel
theorem zret_135 : zret 135 = none := by decide +kernel
theorem d135_0 : decode (zb 135) 0 = .ok (.aload_n 0, 1) := by decide +kernel
theorem d135_1 : decode (zb 135) 1 = .ok (.getfield 72, 3) := by decide +kernel
theorem d135_4 : decode (zb 135) 4 = .ok (.ifCond .le 4, 3) := by decide +kernel
theorem d135_7 : decode (zb 135) 7 = .ok (.return_, 1) := by decide +kernel
theorem d135_8 : decode (zb 135) 8 = .ok (.aload_n 0, 1) := by decide +kernel
theorem d135_9 : decode (zb 135) 9 = .ok (.aload_n 0, 1) := by decide +kernel
theorem d135_10 : decode (zb 135) 10 = .ok (.getfield 84, 3) := by decide +kernel
theorem d135_13 : decode (zb 135) 13 = .ok (.invokevirtual 87, 3) := by decide +kernel
theorem d135_16 : decode (zb 135) 16 = .ok (.bipush 32, 2) := by decide +kernel
theorem d135_18 : decode (zb 135) 18 = .ok (.if_icmp .ne 16, 3) := by decide +kernel
theorem d135_21 : decode (zb 135) 21 = .ok (.aload_n 0, 1) := by decide +kernel
theorem d135_22 : decode (zb 135) 22 = .ok (.dup, 1) := by decide +kernel
theorem d135_23 : decode (zb 135) 23 = .ok (.getfield 84, 3) := by decide +kernel
theorem d135_26 : decode (zb 135) 26 = .ok (.iconst 1, 1) := by decide +kernel
theorem d135_27 : decode (zb 135) 27 = .ok (.iadd, 1) := by decide +kernel
theorem d135_28 : decode (zb 135) 28 = .ok (.putfield 84, 3) := by decide +kernel
theorem d135_31 : decode (zb 135) 31 = .ok (.goto (-23), 3) := by decide +kernel
theorem d135_34 : decode (zb 135) 34 = .ok (.aload_n 0, 1) := by decide +kernel
theorem d135_35 : decode (zb 135) 35 = .ok (.aload_n 0, 1) := by decide +kernel
theorem d135_36 : decode (zb 135) 36 = .ok (.getfield 84, 3) := by decide +kernel
theorem d135_39 : decode (zb 135) 39 = .ok (.putfield 75, 3) := by decide +kernel
theorem d135_42 : decode (zb 135) 42 = .ok (.aload_n 0, 1) := by decide +kernel
theorem d135_43 : decode (zb 135) 43 = .ok (.aload_n 0, 1) := by decide +kernel
theorem d135_44 : decode (zb 135) 44 = .ok (.getfield 84, 3) := by decide +kernel
theorem d135_47 : decode (zb 135) 47 = .ok (.invokevirtual 87, 3) := by decide +kernel
theorem d135_50 : decode (zb 135) 50 = .ok (.istore_n 1, 1) := by decide +kernel
theorem d135_51 : decode (zb 135) 51 = .ok (.iload_n 1, 1) := by decide +kernel
theorem d135_52 : decode (zb 135) 52 = .ok (.ifCond .ge 11, 3) := by decide +kernel
theorem d135_55 : decode (zb 135) 55 = .ok (.aload_n 0, 1) := by decide +kernel
theorem d135_56 : decode (zb 135) 56 = .ok (.iconst 0, 1) := by decide +kernel
theorem d135_57 : decode (zb 135) 57 = .ok (.putfield 81, 3) := by decide +kernel
theorem d135_60 : decode (zb 135) 60 = .ok (.goto 226, 3) := by decide +kernel
theorem d135_63 : decode (zb 135) 63 = .ok (.iload_n 1, 1) := by decide +kernel
theorem d135_64 : decode (zb 135) 64 = .ok (.i2l, 1) := by decide +kernel
theorem d135_65 : decode (zb 135) 65 = .ok (.ldc2_w 95, 3) := by decide +kernel
theorem d135_68 : decode (zb 135) 68 = .ok (.ldc2_w 97, 3) := by decide +kernel
theorem d135_71 : decode (zb 135) 71 = .ok (.invokestatic 64, 3) := by decide +kernel
theorem d135_74 : decode (zb 135) 74 = .ok (.ifCond .eq 42, 3) := by decide +kernel
theorem d135_77 : decode (zb 135) 77 = .ok (.aload_n 0, 1) := by decide +kernel
theorem d135_78 : decode (zb 135) 78 = .ok (.iconst 1, 1) := by decide +kernel
theorem d135_79 : decode (zb 135) 79 = .ok (.putfield 81, 3) := by decide +kernel
theorem d135_82 : decode (zb 135) 82 = .ok (.aload_n 0, 1) := by decide +kernel
theorem d135_83 : decode (zb 135) 83 = .ok (.aload_n 0, 1) := by decide +kernel
theorem d135_84 : decode (zb 135) 84 = .ok (.getfield 84, 3) := by decide +kernel
theorem d135_87 : decode (zb 135) 87 = .ok (.invokevirtual 87, 3) := by decide +kernel
theorem d135_90 : decode (zb 135) 90 = .ok (.i2l, 1) := by decide +kernel
theorem d135_91 : decode (zb 135) 91 = .ok (.ldc2_w 95, 3) := by decide +kernel
theorem d135_94 : decode (zb 135) 94 = .ok (.ldc2_w 97, 3) := by decide +kernel
theorem d135_97 : decode (zb 135) 97 = .ok (.invokestatic 64, 3) := by decide +kernel
theorem d135_100 : decode (zb 135) 100 = .ok (.ifCond .eq 186, 3) := by decide +kernel
theorem d135_103 : decode (zb 135) 103 = .ok (.aload_n 0, 1) := by decide +kernel
theorem d135_104 : decode (zb 135) 104 = .ok (.dup, 1) := by decide +kernel
theorem d135_105 : decode (zb 135) 105 = .ok (.getfield 84, 3) := by decide +kernel
theorem d135_108 : decode (zb 135) 108 = .ok (.iconst 1, 1) := by decide +kernel
theorem d135_109 : decode (zb 135) 109 = .ok (.iadd, 1) := by decide +kernel
theorem d135_110 : decode (zb 135) 110 = .ok (.putfield 84, 3) := by decide +kernel
theorem d135_113 : decode (zb 135) 113 = .ok (.goto (-31), 3) := by decide +kernel
theorem d135_116 : decode (zb 135) 116 = .ok (.iload_n 1, 1) := by decide +kernel
theorem d135_117 : decode (zb 135) 117 = .ok (.i2l, 1) := by decide +kernel
theorem d135_118 : decode (zb 135) 118 = .ok (.ldc2_w 99, 3) := by decide +kernel
theorem d135_121 : decode (zb 135) 121 = .ok (.ldc2_w 101, 3) := by decide +kernel
theorem d135_124 : decode (zb 135) 124 = .ok (.invokestatic 64, 3) := by decide +kernel
theorem d135_127 : decode (zb 135) 127 = .ok (.ifCond .eq 116, 3) := by decide +kernel
theorem d135_130 : decode (zb 135) 130 = .ok (.aload_n 0, 1) := by decide +kernel
theorem d135_131 : decode (zb 135) 131 = .ok (.iconst 2, 1) := by decide +kernel
theorem d135_132 : decode (zb 135) 132 = .ok (.putfield 81, 3) := by decide +kernel
theorem d135_135 : decode (zb 135) 135 = .ok (.aload_n 0, 1) := by decide +kernel
theorem d135_136 : decode (zb 135) 136 = .ok (.iconst 0, 1) := by decide +kernel
theorem d135_137 : decode (zb 135) 137 = .ok (.putfield 103, 3) := by decide +kernel
theorem d135_140 : decode (zb 135) 140 = .ok (.aload_n 0, 1) := by decide +kernel
theorem d135_141 : decode (zb 135) 141 = .ok (.aload_n 0, 1) := by decide +kernel
theorem d135_142 : decode (zb 135) 142 = .ok (.getfield 84, 3) := by decide +kernel
theorem d135_145 : decode (zb 135) 145 = .ok (.invokevirtual 87, 3) := by decide +kernel
theorem d135_148 : decode (zb 135) 148 = .ok (.i2l, 1) := by decide +kernel
theorem d135_149 : decode (zb 135) 149 = .ok (.ldc2_w 99, 3) := by decide +kernel
theorem d135_152 : decode (zb 135) 152 = .ok (.ldc2_w 101, 3) := by decide +kernel
theorem d135_155 : decode (zb 135) 155 = .ok (.invokestatic 64, 3) := by decide +kernel
theorem d135_158 : decode (zb 135) 158 = .ok (.ifCond .eq 59, 3) := by decide +kernel
theorem d135_161 : decode (zb 135) 161 = .ok (.aload_n 0, 1) := by decide +kernel
theorem d135_162 : decode (zb 135) 162 = .ok (.aload_n 0, 1) := by decide +kernel
theorem d135_163 : decode (zb 135) 163 = .ok (.getfield 84, 3) := by decide +kernel
theorem d135_166 : decode (zb 135) 166 = .ok (.aload_n 0, 1) := by decide +kernel
theorem d135_167 : decode (zb 135) 167 = .ok (.getfield 75, 3) := by decide +kernel
theorem d135_170 : decode (zb 135) 170 = .ok (.isub, 1) := by decide +kernel
theorem d135_171 : decode (zb 135) 171 = .ok (.iconst 2, 1) := by decide +kernel
theorem d135_172 : decode (zb 135) 172 = .ok (.if_icmp .ge 25, 3) := by decide +kernel
theorem d135_175 : decode (zb 135) 175 = .ok (.bipush 10, 2) := by decide +kernel
theorem d135_177 : decode (zb 135) 177 = .ok (.aload_n 0, 1) := by decide +kernel
theorem d135_178 : decode (zb 135) 178 = .ok (.getfield 103, 3) := by decide +kernel
theorem d135_181 : decode (zb 135) 181 = .ok (.imul, 1) := by decide +kernel
theorem d135_182 : decode (zb 135) 182 = .ok (.aload_n 0, 1) := by decide +kernel
theorem d135_183 : decode (zb 135) 183 = .ok (.aload_n 0, 1) := by decide +kernel
theorem d135_184 : decode (zb 135) 184 = .ok (.getfield 84, 3) := by decide +kernel
theorem d135_187 : decode (zb 135) 187 = .ok (.invokevirtual 87, 3) := by decide +kernel
theorem d135_190 : decode (zb 135) 190 = .ok (.iadd, 1) := by decide +kernel
theorem d135_191 : decode (zb 135) 191 = .ok (.bipush 48, 2) := by decide +kernel
theorem d135_193 : decode (zb 135) 193 = .ok (.isub, 1) := by decide +kernel
theorem d135_194 : decode (zb 135) 194 = .ok (.goto 7, 3) := by decide +kernel
theorem d135_197 : decode (zb 135) 197 = .ok (.aload_n 0, 1) := by decide +kernel
theorem d135_198 : decode (zb 135) 198 = .ok (.getfield 103, 3) := by decide +kernel
theorem d135_201 : decode (zb 135) 201 = .ok (.putfield 103, 3) := by decide +kernel
theorem d135_204 : decode (zb 135) 204 = .ok (.aload_n 0, 1) := by decide +kernel
theorem d135_205 : decode (zb 135) 205 = .ok (.dup, 1) := by decide +kernel
theorem d135_206 : decode (zb 135) 206 = .ok (.getfield 84, 3) := by decide +kernel
theorem d135_209 : decode (zb 135) 209 = .ok (.iconst 1, 1) := by decide +kernel
theorem d135_210 : decode (zb 135) 210 = .ok (.iadd, 1) := by decide +kernel
theorem d135_211 : decode (zb 135) 211 = .ok (.putfield 84, 3) := by decide +kernel
theorem d135_214 : decode (zb 135) 214 = .ok (.goto (-74), 3) := by decide +kernel
theorem d135_217 : decode (zb 135) 217 = .ok (.aload_n 0, 1) := by decide +kernel
theorem d135_218 : decode (zb 135) 218 = .ok (.aload_n 0, 1) := by decide +kernel
theorem d135_219 : decode (zb 135) 219 = .ok (.getfield 84, 3) := by decide +kernel
theorem d135_222 : decode (zb 135) 222 = .ok (.aload_n 0, 1) := by decide +kernel
theorem d135_223 : decode (zb 135) 223 = .ok (.getfield 75, 3) := by decide +kernel
theorem d135_226 : decode (zb 135) 226 = .ok (.isub, 1) := by decide +kernel
theorem d135_227 : decode (zb 135) 227 = .ok (.iconst 2, 1) := by decide +kernel
theorem d135_228 : decode (zb 135) 228 = .ok (.if_icmp .gt 7, 3) := by decide +kernel
theorem d135_231 : decode (zb 135) 231 = .ok (.iconst 1, 1) := by decide +kernel
theorem d135_232 : decode (zb 135) 232 = .ok (.goto 4, 3) := by decide +kernel
theorem d135_235 : decode (zb 135) 235 = .ok (.iconst 0, 1) := by decide +kernel
theorem d135_236 : decode (zb 135) 236 = .ok (.iconst 1, 1) := by decide +kernel
theorem d135_237 : decode (zb 135) 237 = .ok (.invokevirtual 106, 3) := by decide +kernel
theorem d135_240 : decode (zb 135) 240 = .ok (.goto 46, 3) := by decide +kernel
theorem d135_243 : decode (zb 135) 243 = .ok (.aload_n 0, 1) := by decide +kernel
theorem d135_244 : decode (zb 135) 244 = .ok (.iconst 3, 1) := by decide +kernel
theorem d135_245 : decode (zb 135) 245 = .ok (.putfield 81, 3) := by decide +kernel
theorem d135_248 : decode (zb 135) 248 = .ok (.aload_n 0, 1) := by decide +kernel
theorem d135_249 : decode (zb 135) 249 = .ok (.iload_n 1, 1) := by decide +kernel
theorem d135_250 : decode (zb 135) 250 = .ok (.bipush 59, 2) := by decide +kernel
theorem d135_252 : decode (zb 135) 252 = .ok (.if_icmp .eq 15, 3) := by decide +kernel
theorem d135_255 : decode (zb 135) 255 = .ok (.iload_n 1, 1) := by decide +kernel
theorem d135_256 : decode (zb 135) 256 = .ok (.bipush 40, 2) := by decide +kernel
theorem d135_258 : decode (zb 135) 258 = .ok (.if_icmp .eq 9, 3) := by decide +kernel
theorem d135_261 : decode (zb 135) 261 = .ok (.iload_n 1, 1) := by decide +kernel
theorem d135_262 : decode (zb 135) 262 = .ok (.bipush 41, 2) := by decide +kernel
theorem d135_264 : decode (zb 135) 264 = .ok (.if_icmp .ne 7, 3) := by decide +kernel
theorem d135_267 : decode (zb 135) 267 = .ok (.iconst 1, 1) := by decide +kernel
theorem d135_268 : decode (zb 135) 268 = .ok (.goto 4, 3) := by decide +kernel
theorem d135_271 : decode (zb 135) 271 = .ok (.iconst 0, 1) := by decide +kernel
theorem d135_272 : decode (zb 135) 272 = .ok (.iconst 1, 1) := by decide +kernel
theorem d135_273 : decode (zb 135) 273 = .ok (.invokevirtual 106, 3) := by decide +kernel
theorem d135_276 : decode (zb 135) 276 = .ok (.aload_n 0, 1) := by decide +kernel
theorem d135_277 : decode (zb 135) 277 = .ok (.dup, 1) := by decide +kernel
theorem d135_278 : decode (zb 135) 278 = .ok (.getfield 84, 3) := by decide +kernel
theorem d135_281 : decode (zb 135) 281 = .ok (.iconst 1, 1) := by decide +kernel
theorem d135_282 : decode (zb 135) 282 = .ok (.iadd, 1) := by decide +kernel
theorem d135_283 : decode (zb 135) 283 = .ok (.putfield 84, 3) := by decide +kernel
theorem d135_286 : decode (zb 135) 286 = .ok (.return_, 1) := by decide +kernel
theorem zo_136 : zo 136 = 11 := by decide +kernel
theorem zret_136 : zret 136 = some .boolean := by decide +kernel
theorem d136_0 : decode (zb 136) 0 = .ok (.aload_n 0, 1) := by decide +kernel
theorem d136_1 : decode (zb 136) 1 = .ok (.getfield 81, 3) := by decide +kernel
theorem d136_4 : decode (zb 136) 4 = .ok (.iconst 3, 1) := by decide +kernel
theorem d136_5 : decode (zb 136) 5 = .ok (.if_icmp .ne 19, 3) := by decide +kernel
theorem d136_8 : decode (zb 136) 8 = .ok (.aload_n 0, 1) := by decide +kernel
theorem d136_9 : decode (zb 136) 9 = .ok (.aload_n 0, 1) := by decide +kernel
theorem d136_10 : decode (zb 136) 10 = .ok (.getfield 75, 3) := by decide +kernel
theorem d136_13 : decode (zb 136) 13 = .ok (.invokevirtual 87, 3) := by decide +kernel
theorem d136_16 : decode (zb 136) 16 = .ok (.iload_n 1, 1) := by decide +kernel
theorem d136_17 : decode (zb 136) 17 = .ok (.if_icmp .ne 7, 3) := by decide +kernel
theorem d136_20 : decode (zb 136) 20 = .ok (.iconst 1, 1) := by decide +kernel
theorem d136_21 : decode (zb 136) 21 = .ok (.goto 4, 3) := by decide +kernel
theorem d136_24 : decode (zb 136) 24 = .ok (.iconst 0, 1) := by decide +kernel
theorem d136_25 : decode (zb 136) 25 = .ok (.ireturn, 1) := by decide +kernel
theorem zo_137 : zo 137 = 11 := by decide +kernel
theorem zret_137 : zret 137 = some .int := by decide +kernel
theorem d137_0 : decode (zb 137) 0 = .ok (.aload_n 0, 1) := by decide +kernel
theorem d137_1 : decode (zb 137) 1 = .ok (.getfield 72, 3) := by decide +kernel
theorem d137_4 : decode (zb 137) 4 = .ok (.ifCond .ne 21, 3) := by decide +kernel
theorem d137_7 : decode (zb 137) 7 = .ok (.aload_n 0, 1) := by decide +kernel
theorem d137_8 : decode (zb 137) 8 = .ok (.aload_n 0, 1) := by decide +kernel
theorem d137_9 : decode (zb 137) 9 = .ok (.getfield 81, 3) := by decide +kernel
theorem d137_12 : decode (zb 137) 12 = .ok (.iconst 2, 1) := by decide +kernel
theorem d137_13 : decode (zb 137) 13 = .ok (.if_icmp .ne 7, 3) := by decide +kernel
theorem d137_16 : decode (zb 137) 16 = .ok (.iconst 1, 1) := by decide +kernel
theorem d137_17 : decode (zb 137) 17 = .ok (.goto 4, 3) := by decide +kernel
theorem d137_20 : decode (zb 137) 20 = .ok (.iconst 0, 1) := by decide +kernel
theorem d137_21 : decode (zb 137) 21 = .ok (.iconst 2, 1) := by decide +kernel
theorem d137_22 : decode (zb 137) 22 = .ok (.invokevirtual 106, 3) := by decide +kernel
theorem d137_25 : decode (zb 137) 25 = .ok (.aload_n 0, 1) := by decide +kernel
theorem d137_26 : decode (zb 137) 26 = .ok (.getfield 72, 3) := by decide +kernel
theorem d137_29 : decode (zb 137) 29 = .ok (.ifCond .ne 20, 3) := by decide +kernel
theorem d137_32 : decode (zb 137) 32 = .ok (.aload_n 0, 1) := by decide +kernel
theorem d137_33 : decode (zb 137) 33 = .ok (.aload_n 0, 1) := by decide +kernel
theorem d137_34 : decode (zb 137) 34 = .ok (.getfield 103, 3) := by decide +kernel
theorem d137_37 : decode (zb 137) 37 = .ok (.i2l, 1) := by decide +kernel
theorem d137_38 : decode (zb 137) 38 = .ok (.iload_n 1, 1) := by decide +kernel
theorem d137_39 : decode (zb 137) 39 = .ok (.i2l, 1) := by decide +kernel
theorem d137_40 : decode (zb 137) 40 = .ok (.iload_n 2, 1) := by decide +kernel
theorem d137_41 : decode (zb 137) 41 = .ok (.i2l, 1) := by decide +kernel
theorem d137_42 : decode (zb 137) 42 = .ok (.invokestatic 64, 3) := by decide +kernel
theorem d137_45 : decode (zb 137) 45 = .ok (.iconst 3, 1) := by decide +kernel
theorem d137_46 : decode (zb 137) 46 = .ok (.invokevirtual 106, 3) := by decide +kernel
theorem d137_49 : decode (zb 137) 49 = .ok (.aload_n 0, 1) := by decide +kernel
theorem d137_50 : decode (zb 137) 50 = .ok (.getfield 72, 3) := by decide +kernel
theorem d137_53 : decode (zb 137) 53 = .ok (.ifCond .ne 10, 3) := by decide +kernel
theorem d137_56 : decode (zb 137) 56 = .ok (.aload_n 0, 1) := by decide +kernel
theorem d137_57 : decode (zb 137) 57 = .ok (.getfield 103, 3) := by decide +kernel
theorem d137_60 : decode (zb 137) 60 = .ok (.goto 4, 3) := by decide +kernel
theorem d137_63 : decode (zb 137) 63 = .ok (.iconst 0, 1) := by decide +kernel
theorem d137_64 : decode (zb 137) 64 = .ok (.istore_n 3, 1) := by decide +kernel
theorem d137_65 : decode (zb 137) 65 = .ok (.aload_n 0, 1) := by decide +kernel
theorem d137_66 : decode (zb 137) 66 = .ok (.invokevirtual 110, 3) := by decide +kernel
theorem d137_69 : decode (zb 137) 69 = .ok (.iload_n 3, 1) := by decide +kernel
theorem d137_70 : decode (zb 137) 70 = .ok (.ireturn, 1) := by decide +kernel
theorem zo_138 : zo 138 = 11 := by decide +kernel
theorem zret_138 : zret 138 = none := by decide +kernel
theorem d138_0 : decode (zb 138) 0 = .ok (.aload_n 0, 1) := by decide +kernel
theorem d138_1 : decode (zb 138) 1 = .ok (.getfield 72, 3) := by decide +kernel
theorem d138_4 : decode (zb 138) 4 = .ok (.ifCond .ne 13, 3) := by decide +kernel
theorem d138_7 : decode (zb 138) 7 = .ok (.aload_n 0, 1) := by decide +kernel
theorem d138_8 : decode (zb 138) 8 = .ok (.aload_n 0, 1) := by decide +kernel
theorem d138_9 : decode (zb 138) 9 = .ok (.iload_n 1, 1) := by decide +kernel
theorem d138_10 : decode (zb 138) 10 = .ok (.invokevirtual 113, 3) := by decide +kernel
theorem d138_13 : decode (zb 138) 13 = .ok (.iconst 2, 1) := by decide +kernel
theorem d138_14 : decode (zb 138) 14 = .ok (.invokevirtual 106, 3) := by decide +kernel
theorem d138_17 : decode (zb 138) 17 = .ok (.aload_n 0, 1) := by decide +kernel
theorem d138_18 : decode (zb 138) 18 = .ok (.invokevirtual 110, 3) := by decide +kernel
theorem d138_21 : decode (zb 138) 21 = .ok (.return_, 1) := by decide +kernel
theorem run125 {h : zH} {x0 x1 x2 : Int} : zrun 125 [vL x0, vL x1, vL x2] h = zX 125 0 [vL x0, none, vL x1, none, vL x2, none] [] h := rfl
theorem e125_0 {I : Nat → Int → Int} {b : Bool} {S : Nat} {x0 x1 x2 : Int} : zX 125 0 [vL x0, none, vL x1, none, vL x2, none] [] (I, zRs b, 103, S) = if (if x0 < x1 then -1 else if x0 = x1 then 0 else 1) < 0 then some (some (vI 0), (I, zRs b, 103, S)) else if 0 < (if x0 < x2 then -1 else if x0 = x2 then 0 else 1) then some (some (vI 0), (I, zRs b, 103, S)) else some (some (vI 1), (I, zRs b, 103, S)) := (xLload_n d125_0 rfl).trans ((xLload_n d125_1 rfl).trans ((xLcmp d125_2).trans ((xIfLt (t := 17) d125_3 rfl).trans (ziteC ((xIconst d125_17).trans (xZret d125_18 zret_125 (by decide))) ((xLload_n d125_6 rfl).trans ((xLload d125_7 rfl).trans ((xLcmp d125_9).trans ((xIfGt (t := 17) d125_10 rfl).trans (ziteC ((xIconst d125_17).trans (xZret d125_18 zret_125 (by decide))) ((xIconst d125_13).trans ((xGoto (t := 18) d125_14 rfl).trans (xZret d125_18 zret_125 (by decide)))))))))))))
theorem run126 {h : zH} {x0 : Int} : zrun 126 [vI x0] h = zX 126 0 [vI x0] [] h := rfl
theorem e126_0 {I : Nat → Int → Int} {b : Bool} {S : Nat} {x0 : Int} : zX 126 0 [vI x0] [] (I, zRs b, 103, S) = if x0 = 0 then some (some (vI 0), (I, zRs b, 103, S)) else some (some (vI 1), (I, zRs b, 103, S)) := (xIload_n d126_0 rfl).trans ((xIfEq (t := 8) d126_1 rfl).trans (ziteC ((xIconst d126_8).trans (xIret d126_9 zret_126)) ((xIconst d126_4).trans ((xGoto (t := 9) d126_5 rfl).trans (xIret d126_9 zret_126)))))
theorem run127 {h : zH} {x0 : Int} : zrun 127 [vR 87, vI x0] h = zX 127 0 [vR 87, vI x0] [] h := rfl
theorem e127_0 {I : Nat → Int → Int} {b : Bool} {S : Nat} {x0 : Int} : zX 127 0 [vR 87, vI x0] [] (I, zRs b, 103, S) = (zrun 125 [vL x0, vL 0, vL 127] (I, zRs b, 103, S)).bind (fun q => zX 127 9 [vR 87, vI x0] (zpush q.1 []) q.2) := (xIload_n d127_0 rfl).trans ((xI2l d127_1).trans ((xLconst d127_2).trans ((xLdc2 d127_3 zo_127 zcl_11_62 (by decide)).trans (xInvS [vL x0, vL 0, vL 127] [] d127_6 zo_127 zml_11_64 rfl rfl))))
theorem e127_9 {I : Nat → Int → Int} {b : Bool} {S : Nat} {a1 t0 : Int} : zX 127 9 [vR 87, vI a1] [vI t0] (I, zRs b, 103, S) = if t0 = 0 then some (some (vI (-1)), (I, zRs b, 103, S)) else if (I 87 10) = 300 then some (some (vI (-3)), (I, zRs b, 103, S)) else if 0 ≤ (I 87 10) ∧ (I 87 10) < 300 then some (some (vI (wr ((I 87 10) + 1))), ((sI (sI I 96 (I 87 10) a1) 87 10 (wr ((I 87 10) + 1))), zRs b, 103, S)) else none := (xIfNe (t := 14) d127_9 rfl).trans (ziteC ((xIconst d127_12).trans (xIret d127_13 zret_127)) ((xAload_n d127_14 rfl).trans ((xGetI 10 (I 87 10) rfl d127_15 zo_127 zfl_11_68 (by decide) rfl rfl (Or.inl (Nat.le_of_ble_eq_true rfl))).trans ((xSipush d127_18).trans ((xIcmpNe (t := 27) d127_21 rfl).trans (ziteC ((xBipush d127_24).trans (xIret d127_26 zret_127)) ((xAload_n d127_27 rfl).trans ((xGetR 9 96 d127_28 zo_127 zfl_11_35 rfl rfl rfl (Or.inl (Nat.le_of_ble_eq_true rfl))).trans ((xAload_n d127_31 rfl).trans ((xGetI 10 (I 87 10) rfl d127_32 zo_127 zfl_11_68 (by decide) rfl rfl (Or.inl (Nat.le_of_ble_eq_true rfl))).trans ((xIload_n d127_35 rfl).trans ((xIast (N := 300) d127_36 rfl (Nat.le_of_ble_eq_true rfl) rfl).trans (ziteC ((xAload_n d127_37 rfl).trans ((xDup d127_38 rfl).trans ((xGetI 10 (I 87 10) (sI_p (by decide)) d127_39 zo_127 zfl_11_68 (by decide) rfl rfl (Or.inl (Nat.le_of_ble_eq_true rfl))).trans ((xIconst d127_42).trans ((xIadd d127_43).trans ((xPutI 10 d127_44 zo_127 zfl_11_68 rfl rfl (Nat.le_of_ble_eq_true rfl) (Or.inl rfl)).trans ((xAload_n d127_47 rfl).trans ((xGetI 10 (wr ((I 87 10) + 1)) sI_s d127_48 zo_127 zfl_11_68 (by decide) rfl rfl (Or.inl (Nat.le_of_ble_eq_true rfl))).trans (xIret d127_51 zret_127))))))))) rfl)))))))))))))
theorem run128 {h : zH} {x0 : Int} : zrun 128 [vR 87, vI x0] h = zX 128 0 [vR 87, vI x0, none] [] h := rfl
theorem e128_0 {I : Nat → Int → Int} {b : Bool} {S : Nat} {x0 : Int} : zX 128 0 [vR 87, vI x0, none] [] (I, zRs b, 103, S) = (zrun 125 [vL x0, vL 0, vL (I 87 10)] (I, zRs b, 103, S)).bind (fun q => zX 128 11 [vR 87, vI x0, none] (zpush q.1 []) q.2) := (xIload_n d128_0 rfl).trans ((xI2l d128_1).trans ((xLconst d128_2).trans ((xAload_n d128_3 rfl).trans ((xGetI 10 (I 87 10) rfl d128_4 zo_128 zfl_11_68 (by decide) rfl rfl (Or.inl (Nat.le_of_ble_eq_true rfl))).trans ((xI2l d128_7).trans (xInvS [vL x0, vL 0, vL (I 87 10)] [] d128_8 zo_128 zml_11_64 rfl rfl))))))
theorem e128_11 {I : Nat → Int → Int} {b : Bool} {S : Nat} {a1 t0 : Int} : zX 128 11 [vR 87, vI a1, none] [vI t0] (I, zRs b, 103, S) = if t0 = 0 then some (some (vI (-1)), (I, zRs b, 103, S)) else some (some (vI (I 87 10)), ((sI I 87 10 a1), zRs b, 103, S)) := (xIfNe (t := 16) d128_11 rfl).trans (ziteC ((xIconst d128_14).trans (xIret d128_15 zret_128)) ((xAload_n d128_16 rfl).trans ((xGetI 10 (I 87 10) rfl d128_17 zo_128 zfl_11_68 (by decide) rfl rfl (Or.inl (Nat.le_of_ble_eq_true rfl))).trans ((xIstore_n d128_20 rfl rfl).trans ((xAload_n d128_21 rfl).trans ((xIload_n d128_22 rfl).trans ((xPutI 10 d128_23 zo_128 zfl_11_68 rfl rfl (Nat.le_of_ble_eq_true rfl) (Or.inl rfl)).trans ((xIload_n d128_26 rfl).trans (xIret d128_27 zret_128)))))))))
theorem run129 {h : zH} {x0 x1 : Int} : zrun 129 [vR 87, vI x0, vI x1] h = zX 129 0 [vR 87, vI x0, vI x1] [] h := rfl
theorem e129_0 {I : Nat → Int → Int} {b : Bool} {S : Nat} {x0 x1 : Int} : zX 129 0 [vR 87, vI x0, vI x1] [] (I, zRs b, 103, S) = if x0 = 0 then if (I 87 15) = 0 then some (none, ((sI (sI I 87 15 x1) 87 16 (I 87 12)), zRs b, 103, S)) else some (none, (I, zRs b, 103, S)) else some (none, (I, zRs b, 103, S)) := (xIload_n d129_0 rfl).trans ((xIfNe (t := 24) d129_1 rfl).trans (ziteC ((xAload_n d129_4 rfl).trans ((xGetI 15 (I 87 15) rfl d129_5 zo_129 zfl_11_72 (by decide) rfl rfl (Or.inl (Nat.le_of_ble_eq_true rfl))).trans ((xIfNe (t := 24) d129_8 rfl).trans (ziteC ((xAload_n d129_11 rfl).trans ((xIload_n d129_12 rfl).trans ((xPutI 15 d129_13 zo_129 zfl_11_72 rfl rfl (Nat.le_of_ble_eq_true rfl) (Or.inl rfl)).trans ((xAload_n d129_16 rfl).trans ((xAload_n d129_17 rfl).trans ((xGetI 12 (I 87 12) (sI_k (by decide)) d129_18 zo_129 zfl_11_75 (by decide) rfl rfl (Or.inl (Nat.le_of_ble_eq_true rfl))).trans ((xPutI 16 d129_21 zo_129 zfl_11_78 rfl rfl (Nat.le_of_ble_eq_true rfl) (Or.inl rfl)).trans (xVret d129_24 zret_129)))))))) (xVret d129_24 zret_129))))) (xVret d129_24 zret_129)))
theorem run130 {h : zH} {x0 : Int} : zrun 130 [vR 87, vI x0] h = zX 130 0 [vR 87, vI x0] [] h := rfl
theorem e130_0 {I : Nat → Int → Int} {b : Bool} {S : Nat} {x0 : Int} : zX 130 0 [vR 87, vI x0] [] (I, zRs b, 103, S) = if (I 87 10) ≤ x0 then some (some (vI (-1)), (I, zRs b, 103, S)) else if 0 ≤ x0 ∧ x0 < 300 then some (some (vI (I 96 x0)), (I, zRs b, 103, S)) else none := (xIload_n d130_0 rfl).trans ((xAload_n d130_1 rfl).trans ((xGetI 10 (I 87 10) rfl d130_2 zo_130 zfl_11_68 (by decide) rfl rfl (Or.inl (Nat.le_of_ble_eq_true rfl))).trans ((xIcmpGe (t := 17) d130_5 rfl).trans (ziteC ((xIconst d130_17).trans (xIret d130_18 zret_130)) ((xAload_n d130_8 rfl).trans ((xGetR 9 96 d130_9 zo_130 zfl_11_35 rfl rfl rfl (Or.inl (Nat.le_of_ble_eq_true rfl))).trans ((xIload_n d130_12 rfl).trans ((xIald (N := 300) (I 96 x0) rfl d130_13 rfl (Or.inl (Nat.le_of_ble_eq_true rfl)) rfl).trans (ziteC ((xGoto (t := 18) d130_14 rfl).trans (xIret d130_18 zret_130)) rfl)))))))))
theorem run131 {h : zH} {x0 x1 x2 x3 : Int} : zrun 131 [vR 87, vI x0, vI x1, vI x2, vI x3] h = zX 131 0 [vR 87, vI x0, vI x1, vI x2, vI x3] [] h := rfl
theorem e131_0 {I : Nat → Int → Int} {b : Bool} {S : Nat} {x0 x1 x2 x3 : Int} : zX 131 0 [vR 87, vI x0, vI x1, vI x2, vI x3] [] (I, zRs b, 103, S) = if (I 87 13) = 1 then if (wr ((I 87 11) - (I 87 12))) = x0 then (zrun 130 [vR 87, vI (wr ((I 87 12) + x1))] (I, zRs b, 103, S)).bind (fun q => zX 131 31 [vR 87, vI x0, vI x1, vI x2, vI x3] (zpush q.1 []) q.2) else some (some (vI 0), (I, zRs b, 103, S)) else some (some (vI 0), (I, zRs b, 103, S)) := (xAload_n d131_0 rfl).trans ((xGetI 13 (I 87 13) rfl d131_1 zo_131 zfl_11_81 (by decide) rfl rfl (Or.inl (Nat.le_of_ble_eq_true rfl))).trans ((xIconst d131_4).trans ((xIcmpNe (t := 56) d131_5 rfl).trans (ziteC ((xAload_n d131_8 rfl).trans ((xGetI 11 (I 87 11) rfl d131_9 zo_131 zfl_11_84 (by decide) rfl rfl (Or.inl (Nat.le_of_ble_eq_true rfl))).trans ((xAload_n d131_12 rfl).trans ((xGetI 12 (I 87 12) rfl d131_13 zo_131 zfl_11_75 (by decide) rfl rfl (Or.inl (Nat.le_of_ble_eq_true rfl))).trans ((xIsub d131_16).trans ((xIload_n d131_17 rfl).trans ((xIcmpNe (t := 56) d131_18 rfl).trans (ziteC ((xAload_n d131_21 rfl).trans ((xAload_n d131_22 rfl).trans ((xGetI 12 (I 87 12) rfl d131_23 zo_131 zfl_11_75 (by decide) rfl rfl (Or.inl (Nat.le_of_ble_eq_true rfl))).trans ((xIload_n d131_26 rfl).trans ((xIadd d131_27).trans (xInvV [vR 87, vI (wr ((I 87 12) + x1))] [] d131_28 zo_131 zml_11_87 rfl rfl rfl (Or.inl ⟨rfl, (Nat.le_of_ble_eq_true rfl)⟩))))))) ((xIconst d131_56).trans (xZret d131_57 zret_131 (by decide))))))))))) ((xIconst d131_56).trans (xZret d131_57 zret_131 (by decide)))))))
theorem e131_31 {I : Nat → Int → Int} {b : Bool} {S : Nat} {a1 a2 a3 a4 t0 : Int} : zX 131 31 [vR 87, vI a1, vI a2, vI a3, vI a4] [vI t0] (I, zRs b, 103, S) = if t0 = a3 then (zrun 130 [vR 87, vI (wr ((wr ((I 87 12) + a2)) + 1))] (I, zRs b, 103, S)).bind (fun q => zX 131 47 [vR 87, vI a1, vI a2, vI a3, vI a4] (zpush q.1 []) q.2) else some (some (vI 0), (I, zRs b, 103, S)) := (xIload_n d131_31 rfl).trans ((xIcmpNe (t := 56) d131_32 rfl).trans (ziteC ((xAload_n d131_35 rfl).trans ((xAload_n d131_36 rfl).trans ((xGetI 12 (I 87 12) rfl d131_37 zo_131 zfl_11_75 (by decide) rfl rfl (Or.inl (Nat.le_of_ble_eq_true rfl))).trans ((xIload_n d131_40 rfl).trans ((xIadd d131_41).trans ((xIconst d131_42).trans ((xIadd d131_43).trans (xInvV [vR 87, vI (wr ((wr ((I 87 12) + a2)) + 1))] [] d131_44 zo_131 zml_11_87 rfl rfl rfl (Or.inl ⟨rfl, (Nat.le_of_ble_eq_true rfl)⟩))))))))) ((xIconst d131_56).trans (xZret d131_57 zret_131 (by decide)))))
theorem e131_47 {I : Nat → Int → Int} {b : Bool} {S : Nat} {a1 a2 a3 a4 t0 : Int} : zX 131 47 [vR 87, vI a1, vI a2, vI a3, vI a4] [vI t0] (I, zRs b, 103, S) = if t0 = a4 then some (some (vI 1), (I, zRs b, 103, S)) else some (some (vI 0), (I, zRs b, 103, S)) := (xIload d131_47 rfl).trans ((xIcmpNe (t := 56) d131_49 rfl).trans (ziteC ((xIconst d131_52).trans ((xGoto (t := 57) d131_53 rfl).trans (xZret d131_57 zret_131 (by decide)))) ((xIconst d131_56).trans (xZret d131_57 zret_131 (by decide)))))
theorem run132 {h : zH} : zrun 132 [vR 87] h = zX 132 0 [vR 87] [] h := rfl
theorem e132_0 {I : Nat → Int → Int} {b : Bool} {S : Nat} : zX 132 0 [vR 87] [] (I, zRs b, 103, S) = (zrun 131 [vR 87, vI 3, vI 0, vI 115, vI 101] (I, zRs b, 103, S)).bind (fun q => zX 132 10 [vR 87] (zpush q.1 []) q.2) := (xAload_n d132_0 rfl).trans ((xIconst d132_1).trans ((xIconst d132_2).trans ((xBipush d132_3).trans ((xBipush d132_5).trans (xInvV [vR 87, vI 3, vI 0, vI 115, vI 101] [] d132_7 zo_132 zml_11_91 rfl rfl rfl (Or.inl ⟨rfl, (Nat.le_of_ble_eq_true rfl)⟩))))))
theorem e132_10 {I : Nat → Int → Int} {b : Bool} {S : Nat} {t0 : Int} : zX 132 10 [vR 87] [vI t0] (I, zRs b, 103, S) = if t0 = 0 then some (some (vI 0), (I, zRs b, 103, S)) else (zrun 131 [vR 87, vI 3, vI 1, vI 101, vI 103] (I, zRs b, 103, S)).bind (fun q => zX 132 23 [vR 87] (zpush q.1 []) q.2) := (xIfEq (t := 30) d132_10 rfl).trans (ziteC ((xIconst d132_30).trans (xZret d132_31 zret_132 (by decide))) ((xAload_n d132_13 rfl).trans ((xIconst d132_14).trans ((xIconst d132_15).trans ((xBipush d132_16).trans ((xBipush d132_18).trans (xInvV [vR 87, vI 3, vI 1, vI 101, vI 103] [] d132_20 zo_132 zml_11_91 rfl rfl rfl (Or.inl ⟨rfl, (Nat.le_of_ble_eq_true rfl)⟩))))))))
theorem e132_23 {I : Nat → Int → Int} {b : Bool} {S : Nat} {t0 : Int} : zX 132 23 [vR 87] [vI t0] (I, zRs b, 103, S) = if t0 = 0 then some (some (vI 0), (I, zRs b, 103, S)) else some (some (vI 1), (I, zRs b, 103, S)) := (xIfEq (t := 30) d132_23 rfl).trans (ziteC ((xIconst d132_30).trans (xZret d132_31 zret_132 (by decide))) ((xIconst d132_26).trans ((xGoto (t := 31) d132_27 rfl).trans (xZret d132_31 zret_132 (by decide)))))
theorem run133 {h : zH} : zrun 133 [vR 87] h = zX 133 0 [vR 87] [] h := rfl
theorem e133_0 {I : Nat → Int → Int} {b : Bool} {S : Nat} : zX 133 0 [vR 87] [] (I, zRs b, 103, S) = (zrun 131 [vR 87, vI 2, vI 0, vI 103, vI 111] (I, zRs b, 103, S)).bind (fun q => zX 133 10 [vR 87] (zpush q.1 []) q.2) := (xAload_n d133_0 rfl).trans ((xIconst d133_1).trans ((xIconst d133_2).trans ((xBipush d133_3).trans ((xBipush d133_5).trans (xInvV [vR 87, vI 2, vI 0, vI 103, vI 111] [] d133_7 zo_133 zml_11_91 rfl rfl rfl (Or.inl ⟨rfl, (Nat.le_of_ble_eq_true rfl)⟩))))))
theorem e133_10 {I : Nat → Int → Int} {b : Bool} {S : Nat} {t0 : Int} : zX 133 10 [vR 87] [vI t0] (I, zRs b, 103, S) = if t0 = 0 ∨ t0 = 1 then some (some (vI t0), (I, zRs b, 103, S)) else none := xZretG d133_10 zret_133
theorem run134 {h : zH} : zrun 134 [vR 87] h = zX 134 0 [vR 87] [] h := rfl
theorem e134_0 {I : Nat → Int → Int} {b : Bool} {S : Nat} : zX 134 0 [vR 87] [] (I, zRs b, 103, S) = (zrun 131 [vR 87, vI 4, vI 0, vI 112, vI 108] (I, zRs b, 103, S)).bind (fun q => zX 134 10 [vR 87] (zpush q.1 []) q.2) := (xAload_n d134_0 rfl).trans ((xIconst d134_1).trans ((xIconst d134_2).trans ((xBipush d134_3).trans ((xBipush d134_5).trans (xInvV [vR 87, vI 4, vI 0, vI 112, vI 108] [] d134_7 zo_134 zml_11_91 rfl rfl rfl (Or.inl ⟨rfl, (Nat.le_of_ble_eq_true rfl)⟩))))))
theorem e134_10 {I : Nat → Int → Int} {b : Bool} {S : Nat} {t0 : Int} : zX 134 10 [vR 87] [vI t0] (I, zRs b, 103, S) = if t0 = 0 then (zrun 131 [vR 87, vI 4, vI 0, vI 109, vI 97] (I, zRs b, 103, S)).bind (fun q => zX 134 38 [vR 87] (zpush q.1 []) q.2) else (zrun 131 [vR 87, vI 4, vI 2, vI 97, vI 121] (I, zRs b, 103, S)).bind (fun q => zX 134 23 [vR 87] (zpush q.1 []) q.2) := (xIfEq (t := 28) d134_10 rfl).trans (ziteC ((xAload_n d134_28 rfl).trans ((xIconst d134_29).trans ((xIconst d134_30).trans ((xBipush d134_31).trans ((xBipush d134_33).trans (xInvV [vR 87, vI 4, vI 0, vI 109, vI 97] [] d134_35 zo_134 zml_11_91 rfl rfl rfl (Or.inl ⟨rfl, (Nat.le_of_ble_eq_true rfl)⟩))))))) ((xAload_n d134_13 rfl).trans ((xIconst d134_14).trans ((xIconst d134_15).trans ((xBipush d134_16).trans ((xBipush d134_18).trans (xInvV [vR 87, vI 4, vI 2, vI 97, vI 121] [] d134_20 zo_134 zml_11_91 rfl rfl rfl (Or.inl ⟨rfl, (Nat.le_of_ble_eq_true rfl)⟩))))))))
theorem e134_23 {I : Nat → Int → Int} {b : Bool} {S : Nat} {t0 : Int} : zX 134 23 [vR 87] [vI t0] (I, zRs b, 103, S) = if t0 = 0 then (zrun 131 [vR 87, vI 4, vI 0, vI 109, vI 97] (I, zRs b, 103, S)).bind (fun q => zX 134 38 [vR 87] (zpush q.1 []) q.2) else some (some (vI 0), (I, zRs b, 103, S)) := (xIfEq (t := 28) d134_23 rfl).trans (ziteC ((xAload_n d134_28 rfl).trans ((xIconst d134_29).trans ((xIconst d134_30).trans ((xBipush d134_31).trans ((xBipush d134_33).trans (xInvV [vR 87, vI 4, vI 0, vI 109, vI 97] [] d134_35 zo_134 zml_11_91 rfl rfl rfl (Or.inl ⟨rfl, (Nat.le_of_ble_eq_true rfl)⟩))))))) ((xIconst d134_26).trans (xIret d134_27 zret_134)))
theorem e134_38 {I : Nat → Int → Int} {b : Bool} {S : Nat} {t0 : Int} : zX 134 38 [vR 87] [vI t0] (I, zRs b, 103, S) = if t0 = 0 then (zrun 131 [vR 87, vI 4, vI 0, vI 108, vI 111] (I, zRs b, 103, S)).bind (fun q => zX 134 66 [vR 87] (zpush q.1 []) q.2) else (zrun 131 [vR 87, vI 4, vI 2, vI 114, vI 107] (I, zRs b, 103, S)).bind (fun q => zX 134 51 [vR 87] (zpush q.1 []) q.2) := (xIfEq (t := 56) d134_38 rfl).trans (ziteC ((xAload_n d134_56 rfl).trans ((xIconst d134_57).trans ((xIconst d134_58).trans ((xBipush d134_59).trans ((xBipush d134_61).trans (xInvV [vR 87, vI 4, vI 0, vI 108, vI 111] [] d134_63 zo_134 zml_11_91 rfl rfl rfl (Or.inl ⟨rfl, (Nat.le_of_ble_eq_true rfl)⟩))))))) ((xAload_n d134_41 rfl).trans ((xIconst d134_42).trans ((xIconst d134_43).trans ((xBipush d134_44).trans ((xBipush d134_46).trans (xInvV [vR 87, vI 4, vI 2, vI 114, vI 107] [] d134_48 zo_134 zml_11_91 rfl rfl rfl (Or.inl ⟨rfl, (Nat.le_of_ble_eq_true rfl)⟩))))))))
theorem e134_51 {I : Nat → Int → Int} {b : Bool} {S : Nat} {t0 : Int} : zX 134 51 [vR 87] [vI t0] (I, zRs b, 103, S) = if t0 = 0 then (zrun 131 [vR 87, vI 4, vI 0, vI 108, vI 111] (I, zRs b, 103, S)).bind (fun q => zX 134 66 [vR 87] (zpush q.1 []) q.2) else some (some (vI 1), (I, zRs b, 103, S)) := (xIfEq (t := 56) d134_51 rfl).trans (ziteC ((xAload_n d134_56 rfl).trans ((xIconst d134_57).trans ((xIconst d134_58).trans ((xBipush d134_59).trans ((xBipush d134_61).trans (xInvV [vR 87, vI 4, vI 0, vI 108, vI 111] [] d134_63 zo_134 zml_11_91 rfl rfl rfl (Or.inl ⟨rfl, (Nat.le_of_ble_eq_true rfl)⟩))))))) ((xIconst d134_54).trans (xIret d134_55 zret_134)))
theorem e134_66 {I : Nat → Int → Int} {b : Bool} {S : Nat} {t0 : Int} : zX 134 66 [vR 87] [vI t0] (I, zRs b, 103, S) = if t0 = 0 then (zrun 131 [vR 87, vI 5, vI 0, vI 117, vI 110] (I, zRs b, 103, S)).bind (fun q => zX 134 94 [vR 87] (zpush q.1 []) q.2) else (zrun 131 [vR 87, vI 4, vI 2, vI 111, vI 112] (I, zRs b, 103, S)).bind (fun q => zX 134 79 [vR 87] (zpush q.1 []) q.2) := (xIfEq (t := 84) d134_66 rfl).trans (ziteC ((xAload_n d134_84 rfl).trans ((xIconst d134_85).trans ((xIconst d134_86).trans ((xBipush d134_87).trans ((xBipush d134_89).trans (xInvV [vR 87, vI 5, vI 0, vI 117, vI 110] [] d134_91 zo_134 zml_11_91 rfl rfl rfl (Or.inl ⟨rfl, (Nat.le_of_ble_eq_true rfl)⟩))))))) ((xAload_n d134_69 rfl).trans ((xIconst d134_70).trans ((xIconst d134_71).trans ((xBipush d134_72).trans ((xBipush d134_74).trans (xInvV [vR 87, vI 4, vI 2, vI 111, vI 112] [] d134_76 zo_134 zml_11_91 rfl rfl rfl (Or.inl ⟨rfl, (Nat.le_of_ble_eq_true rfl)⟩))))))))
theorem e134_79 {I : Nat → Int → Int} {b : Bool} {S : Nat} {t0 : Int} : zX 134 79 [vR 87] [vI t0] (I, zRs b, 103, S) = if t0 = 0 then (zrun 131 [vR 87, vI 5, vI 0, vI 117, vI 110] (I, zRs b, 103, S)).bind (fun q => zX 134 94 [vR 87] (zpush q.1 []) q.2) else some (some (vI 2), (I, zRs b, 103, S)) := (xIfEq (t := 84) d134_79 rfl).trans (ziteC ((xAload_n d134_84 rfl).trans ((xIconst d134_85).trans ((xIconst d134_86).trans ((xBipush d134_87).trans ((xBipush d134_89).trans (xInvV [vR 87, vI 5, vI 0, vI 117, vI 110] [] d134_91 zo_134 zml_11_91 rfl rfl rfl (Or.inl ⟨rfl, (Nat.le_of_ble_eq_true rfl)⟩))))))) ((xIconst d134_82).trans (xIret d134_83 zret_134)))
theorem e134_94 {I : Nat → Int → Int} {b : Bool} {S : Nat} {t0 : Int} : zX 134 94 [vR 87] [vI t0] (I, zRs b, 103, S) = if t0 = 0 then some (some (vI (-4)), (I, zRs b, 103, S)) else (zrun 131 [vR 87, vI 5, vI 2, vI 116, vI 105] (I, zRs b, 103, S)).bind (fun q => zX 134 107 [vR 87] (zpush q.1 []) q.2) := (xIfEq (t := 127) d134_94 rfl).trans (ziteC ((xBipush d134_127).trans (xIret d134_129 zret_134)) ((xAload_n d134_97 rfl).trans ((xIconst d134_98).trans ((xIconst d134_99).trans ((xBipush d134_100).trans ((xBipush d134_102).trans (xInvV [vR 87, vI 5, vI 2, vI 116, vI 105] [] d134_104 zo_134 zml_11_91 rfl rfl rfl (Or.inl ⟨rfl, (Nat.le_of_ble_eq_true rfl)⟩))))))))
theorem e134_107 {I : Nat → Int → Int} {b : Bool} {S : Nat} {t0 : Int} : zX 134 107 [vR 87] [vI t0] (I, zRs b, 103, S) = if t0 = 0 then some (some (vI (-4)), (I, zRs b, 103, S)) else (zrun 131 [vR 87, vI 5, vI 3, vI 105, vI 108] (I, zRs b, 103, S)).bind (fun q => zX 134 120 [vR 87] (zpush q.1 []) q.2) := (xIfEq (t := 127) d134_107 rfl).trans (ziteC ((xBipush d134_127).trans (xIret d134_129 zret_134)) ((xAload_n d134_110 rfl).trans ((xIconst d134_111).trans ((xIconst d134_112).trans ((xBipush d134_113).trans ((xBipush d134_115).trans (xInvV [vR 87, vI 5, vI 3, vI 105, vI 108] [] d134_117 zo_134 zml_11_91 rfl rfl rfl (Or.inl ⟨rfl, (Nat.le_of_ble_eq_true rfl)⟩))))))))
theorem e134_120 {I : Nat → Int → Int} {b : Bool} {S : Nat} {t0 : Int} : zX 134 120 [vR 87] [vI t0] (I, zRs b, 103, S) = if t0 = 0 then some (some (vI (-4)), (I, zRs b, 103, S)) else some (some (vI 3), (I, zRs b, 103, S)) := (xIfEq (t := 127) d134_120 rfl).trans (ziteC ((xBipush d134_127).trans (xIret d134_129 zret_134)) ((xIconst d134_123).trans ((xGoto (t := 129) d134_124 rfl).trans (xIret d134_129 zret_134))))
theorem run135 {h : zH} : zrun 135 [vR 87] h = zX 135 0 [vR 87, none] [] h := rfl
theorem e135_0 {I : Nat → Int → Int} {b : Bool} {S : Nat} : zX 135 0 [vR 87, none] [] (I, zRs b, 103, S) = if (I 87 15) ≤ 0 then zX 135 8 [vR 87, none] [] (I, zRs b, 103, S) else some (none, (I, zRs b, 103, S)) := (xAload_n d135_0 rfl).trans ((xGetI 15 (I 87 15) rfl d135_1 zo_135 zfl_11_72 (by decide) rfl rfl (Or.inl (Nat.le_of_ble_eq_true rfl))).trans ((xIfLe (t := 8) d135_4 rfl).trans (ziteC rfl (xVret d135_7 zret_135))))
theorem e135_8 {I : Nat → Int → Int} {b : Bool} {S : Nat} : zX 135 8 [vR 87, none] [] (I, zRs b, 103, S) = (zrun 130 [vR 87, vI (I 87 11)] (I, zRs b, 103, S)).bind (fun q => zX 135 16 [vR 87, none] (zpush q.1 []) q.2) := (xAload_n d135_8 rfl).trans ((xAload_n d135_9 rfl).trans ((xGetI 11 (I 87 11) rfl d135_10 zo_135 zfl_11_84 (by decide) rfl rfl (Or.inl (Nat.le_of_ble_eq_true rfl))).trans (xInvV [vR 87, vI (I 87 11)] [] d135_13 zo_135 zml_11_87 rfl rfl rfl (Or.inl ⟨rfl, (Nat.le_of_ble_eq_true rfl)⟩))))
theorem e135_16 {I : Nat → Int → Int} {b : Bool} {S : Nat} {t0 : Int} : zX 135 16 [vR 87, none] [vI t0] (I, zRs b, 103, S) = if t0 = 32 then zX 135 8 [vR 87, none] [] ((sI I 87 11 (wr ((I 87 11) + 1))), zRs b, 103, S) else (zrun 130 [vR 87, vI (I 87 11)] ((sI I 87 12 (I 87 11)), zRs b, 103, S)).bind (fun q => zX 135 50 [vR 87, none] (zpush q.1 []) q.2) := (xBipush d135_16).trans ((xIcmpNe (t := 34) d135_18 rfl).trans (ziteC ((xAload_n d135_21 rfl).trans ((xDup d135_22 rfl).trans ((xGetI 11 (I 87 11) rfl d135_23 zo_135 zfl_11_84 (by decide) rfl rfl (Or.inl (Nat.le_of_ble_eq_true rfl))).trans ((xIconst d135_26).trans ((xIadd d135_27).trans ((xPutI 11 d135_28 zo_135 zfl_11_84 rfl rfl (Nat.le_of_ble_eq_true rfl) (Or.inl rfl)).trans (xGoto (t := 8) d135_31 rfl))))))) ((xAload_n d135_34 rfl).trans ((xAload_n d135_35 rfl).trans ((xGetI 11 (I 87 11) rfl d135_36 zo_135 zfl_11_84 (by decide) rfl rfl (Or.inl (Nat.le_of_ble_eq_true rfl))).trans ((xPutI 12 d135_39 zo_135 zfl_11_75 rfl rfl (Nat.le_of_ble_eq_true rfl) (Or.inl rfl)).trans ((xAload_n d135_42 rfl).trans ((xAload_n d135_43 rfl).trans ((xGetI 11 (I 87 11) (sI_k (by decide)) d135_44 zo_135 zfl_11_84 (by decide) rfl rfl (Or.inl (Nat.le_of_ble_eq_true rfl))).trans (xInvV [vR 87, vI (I 87 11)] [] d135_47 zo_135 zml_11_87 rfl rfl rfl (Or.inl ⟨rfl, (Nat.le_of_ble_eq_true rfl)⟩)))))))))))
theorem e135_50 {I : Nat → Int → Int} {b : Bool} {S : Nat} {t0 : Int} : zX 135 50 [vR 87, none] [vI t0] (I, zRs b, 103, S) = if 0 ≤ t0 then (zrun 125 [vL t0, vL 97, vL 122] (I, zRs b, 103, S)).bind (fun q => zX 135 74 [vR 87, vI t0] (zpush q.1 []) q.2) else some (none, ((sI I 87 13 0), zRs b, 103, S)) := (xIstore_n d135_50 rfl rfl).trans ((xIload_n d135_51 rfl).trans ((xIfGe (t := 63) d135_52 rfl).trans (ziteC ((xIload_n d135_63 rfl).trans ((xI2l d135_64).trans ((xLdc2 d135_65 zo_135 zcl_11_95 (by decide)).trans ((xLdc2 d135_68 zo_135 zcl_11_97 (by decide)).trans (xInvS [vL t0, vL 97, vL 122] [] d135_71 zo_135 zml_11_64 rfl rfl))))) ((xAload_n d135_55 rfl).trans ((xIconst d135_56).trans ((xPutI 13 d135_57 zo_135 zfl_11_81 rfl rfl (Nat.le_of_ble_eq_true rfl) (Or.inl rfl)).trans ((xGoto (t := 286) d135_60 rfl).trans (xVret d135_286 zret_135))))))))
theorem e135_74 {I : Nat → Int → Int} {b : Bool} {S : Nat} {a1 t0 : Int} : zX 135 74 [vR 87, vI a1] [vI t0] (I, zRs b, 103, S) = if t0 = 0 then (zrun 125 [vL a1, vL 48, vL 57] (I, zRs b, 103, S)).bind (fun q => zX 135 127 [vR 87, vI a1] (zpush q.1 []) q.2) else zX 135 82 [vR 87, vI a1] [] ((sI I 87 13 1), zRs b, 103, S) := (xIfEq (t := 116) d135_74 rfl).trans (ziteC ((xIload_n d135_116 rfl).trans ((xI2l d135_117).trans ((xLdc2 d135_118 zo_135 zcl_11_99 (by decide)).trans ((xLdc2 d135_121 zo_135 zcl_11_101 (by decide)).trans (xInvS [vL a1, vL 48, vL 57] [] d135_124 zo_135 zml_11_64 rfl rfl))))) ((xAload_n d135_77 rfl).trans ((xIconst d135_78).trans (xPutI 13 d135_79 zo_135 zfl_11_81 rfl rfl (Nat.le_of_ble_eq_true rfl) (Or.inl rfl)))))
theorem e135_82 {I : Nat → Int → Int} {b : Bool} {S : Nat} {a1 : Int} : zX 135 82 [vR 87, vI a1] [] (I, zRs b, 103, S) = (zrun 130 [vR 87, vI (I 87 11)] (I, zRs b, 103, S)).bind (fun q => zX 135 90 [vR 87, vI a1] (zpush q.1 []) q.2) := (xAload_n d135_82 rfl).trans ((xAload_n d135_83 rfl).trans ((xGetI 11 (I 87 11) rfl d135_84 zo_135 zfl_11_84 (by decide) rfl rfl (Or.inl (Nat.le_of_ble_eq_true rfl))).trans (xInvV [vR 87, vI (I 87 11)] [] d135_87 zo_135 zml_11_87 rfl rfl rfl (Or.inl ⟨rfl, (Nat.le_of_ble_eq_true rfl)⟩))))
theorem e135_90 {I : Nat → Int → Int} {b : Bool} {S : Nat} {a1 t0 : Int} : zX 135 90 [vR 87, vI a1] [vI t0] (I, zRs b, 103, S) = (zrun 125 [vL t0, vL 97, vL 122] (I, zRs b, 103, S)).bind (fun q => zX 135 100 [vR 87, vI a1] (zpush q.1 []) q.2) := (xI2l d135_90).trans ((xLdc2 d135_91 zo_135 zcl_11_95 (by decide)).trans ((xLdc2 d135_94 zo_135 zcl_11_97 (by decide)).trans (xInvS [vL t0, vL 97, vL 122] [] d135_97 zo_135 zml_11_64 rfl rfl)))
theorem e135_100 {I : Nat → Int → Int} {b : Bool} {S : Nat} {a1 t0 : Int} : zX 135 100 [vR 87, vI a1] [vI t0] (I, zRs b, 103, S) = if t0 = 0 then some (none, (I, zRs b, 103, S)) else zX 135 82 [vR 87, vI a1] [] ((sI I 87 11 (wr ((I 87 11) + 1))), zRs b, 103, S) := (xIfEq (t := 286) d135_100 rfl).trans (ziteC (xVret d135_286 zret_135) ((xAload_n d135_103 rfl).trans ((xDup d135_104 rfl).trans ((xGetI 11 (I 87 11) rfl d135_105 zo_135 zfl_11_84 (by decide) rfl rfl (Or.inl (Nat.le_of_ble_eq_true rfl))).trans ((xIconst d135_108).trans ((xIadd d135_109).trans ((xPutI 11 d135_110 zo_135 zfl_11_84 rfl rfl (Nat.le_of_ble_eq_true rfl) (Or.inl rfl)).trans (xGoto (t := 82) d135_113 rfl))))))))
theorem e135_127 {I : Nat → Int → Int} {b : Bool} {S : Nat} {a1 t0 : Int} : zX 135 127 [vR 87, vI a1] [vI t0] (I, zRs b, 103, S) = if t0 = 0 then if a1 = 59 then (zrun 129 [vR 87, vI 1, vI 1] ((sI I 87 13 3), zRs b, 103, S)).bind (fun q => zX 135 276 [vR 87, vI a1] (zpush q.1 []) q.2) else if a1 = 40 then (zrun 129 [vR 87, vI 1, vI 1] ((sI I 87 13 3), zRs b, 103, S)).bind (fun q => zX 135 276 [vR 87, vI a1] (zpush q.1 []) q.2) else if a1 = 41 then (zrun 129 [vR 87, vI 1, vI 1] ((sI I 87 13 3), zRs b, 103, S)).bind (fun q => zX 135 276 [vR 87, vI a1] (zpush q.1 []) q.2) else (zrun 129 [vR 87, vI 0, vI 1] ((sI I 87 13 3), zRs b, 103, S)).bind (fun q => zX 135 276 [vR 87, vI a1] (zpush q.1 []) q.2) else zX 135 140 [vR 87, vI a1] [] ((sI (sI I 87 13 2) 87 14 0), zRs b, 103, S) := (xIfEq (t := 243) d135_127 rfl).trans (ziteC ((xAload_n d135_243 rfl).trans ((xIconst d135_244).trans ((xPutI 13 d135_245 zo_135 zfl_11_81 rfl rfl (Nat.le_of_ble_eq_true rfl) (Or.inl rfl)).trans ((xAload_n d135_248 rfl).trans ((xIload_n d135_249 rfl).trans ((xBipush d135_250).trans ((xIcmpEq (t := 267) d135_252 rfl).trans (ziteC ((xIconst d135_267).trans ((xGoto (t := 272) d135_268 rfl).trans ((xIconst d135_272).trans (xInvV [vR 87, vI 1, vI 1] [] d135_273 zo_135 zml_11_106 rfl rfl rfl (Or.inl ⟨rfl, (Nat.le_of_ble_eq_true rfl)⟩))))) ((xIload_n d135_255 rfl).trans ((xBipush d135_256).trans ((xIcmpEq (t := 267) d135_258 rfl).trans (ziteC ((xIconst d135_267).trans ((xGoto (t := 272) d135_268 rfl).trans ((xIconst d135_272).trans (xInvV [vR 87, vI 1, vI 1] [] d135_273 zo_135 zml_11_106 rfl rfl rfl (Or.inl ⟨rfl, (Nat.le_of_ble_eq_true rfl)⟩))))) ((xIload_n d135_261 rfl).trans ((xBipush d135_262).trans ((xIcmpNe (t := 271) d135_264 rfl).trans (ziteC ((xIconst d135_267).trans ((xGoto (t := 272) d135_268 rfl).trans ((xIconst d135_272).trans (xInvV [vR 87, vI 1, vI 1] [] d135_273 zo_135 zml_11_106 rfl rfl rfl (Or.inl ⟨rfl, (Nat.le_of_ble_eq_true rfl)⟩))))) ((xIconst d135_271).trans ((xIconst d135_272).trans (xInvV [vR 87, vI 0, vI 1] [] d135_273 zo_135 zml_11_106 rfl rfl rfl (Or.inl ⟨rfl, (Nat.le_of_ble_eq_true rfl)⟩)))))))))))))))))))) ((xAload_n d135_130 rfl).trans ((xIconst d135_131).trans ((xPutI 13 d135_132 zo_135 zfl_11_81 rfl rfl (Nat.le_of_ble_eq_true rfl) (Or.inl rfl)).trans ((xAload_n d135_135 rfl).trans ((xIconst d135_136).trans (xPutI 14 d135_137 zo_135 zfl_11_103 rfl rfl (Nat.le_of_ble_eq_true rfl) (Or.inl rfl))))))))
theorem e135_140 {I : Nat → Int → Int} {b : Bool} {S : Nat} {a1 : Int} : zX 135 140 [vR 87, vI a1] [] (I, zRs b, 103, S) = (zrun 130 [vR 87, vI (I 87 11)] (I, zRs b, 103, S)).bind (fun q => zX 135 148 [vR 87, vI a1] (zpush q.1 []) q.2) := (xAload_n d135_140 rfl).trans ((xAload_n d135_141 rfl).trans ((xGetI 11 (I 87 11) rfl d135_142 zo_135 zfl_11_84 (by decide) rfl rfl (Or.inl (Nat.le_of_ble_eq_true rfl))).trans (xInvV [vR 87, vI (I 87 11)] [] d135_145 zo_135 zml_11_87 rfl rfl rfl (Or.inl ⟨rfl, (Nat.le_of_ble_eq_true rfl)⟩))))
theorem e135_148 {I : Nat → Int → Int} {b : Bool} {S : Nat} {a1 t0 : Int} : zX 135 148 [vR 87, vI a1] [vI t0] (I, zRs b, 103, S) = (zrun 125 [vL t0, vL 48, vL 57] (I, zRs b, 103, S)).bind (fun q => zX 135 158 [vR 87, vI a1] (zpush q.1 []) q.2) := (xI2l d135_148).trans ((xLdc2 d135_149 zo_135 zcl_11_99 (by decide)).trans ((xLdc2 d135_152 zo_135 zcl_11_101 (by decide)).trans (xInvS [vL t0, vL 48, vL 57] [] d135_155 zo_135 zml_11_64 rfl rfl)))
theorem e135_158 {I : Nat → Int → Int} {b : Bool} {S : Nat} {a1 t0 : Int} : zX 135 158 [vR 87, vI a1] [vI t0] (I, zRs b, 103, S) = if t0 = 0 then if 2 < (wr ((I 87 11) - (I 87 12))) then (zrun 129 [vR 87, vI 0, vI 1] (I, zRs b, 103, S)).bind (fun q => zX 135 240 [vR 87, vI a1] (zpush q.1 []) q.2) else (zrun 129 [vR 87, vI 1, vI 1] (I, zRs b, 103, S)).bind (fun q => zX 135 240 [vR 87, vI a1] (zpush q.1 []) q.2) else if 2 ≤ (wr ((I 87 11) - (I 87 12))) then zX 135 140 [vR 87, vI a1] [] ((sI (sI I 87 14 (I 87 14)) 87 11 (wr ((I 87 11) + 1))), zRs b, 103, S) else (zrun 130 [vR 87, vI (I 87 11)] (I, zRs b, 103, S)).bind (fun q => zX 135 190 [vR 87, vI a1] (zpush q.1 [vI (wr (10 * (I 87 14))), vR 87]) q.2) := (xIfEq (t := 217) d135_158 rfl).trans (ziteC ((xAload_n d135_217 rfl).trans ((xAload_n d135_218 rfl).trans ((xGetI 11 (I 87 11) rfl d135_219 zo_135 zfl_11_84 (by decide) rfl rfl (Or.inl (Nat.le_of_ble_eq_true rfl))).trans ((xAload_n d135_222 rfl).trans ((xGetI 12 (I 87 12) rfl d135_223 zo_135 zfl_11_75 (by decide) rfl rfl (Or.inl (Nat.le_of_ble_eq_true rfl))).trans ((xIsub d135_226).trans ((xIconst d135_227).trans ((xIcmpGt (t := 235) d135_228 rfl).trans (ziteC ((xIconst d135_235).trans ((xIconst d135_236).trans (xInvV [vR 87, vI 0, vI 1] [] d135_237 zo_135 zml_11_106 rfl rfl rfl (Or.inl ⟨rfl, (Nat.le_of_ble_eq_true rfl)⟩)))) ((xIconst d135_231).trans ((xGoto (t := 236) d135_232 rfl).trans ((xIconst d135_236).trans (xInvV [vR 87, vI 1, vI 1] [] d135_237 zo_135 zml_11_106 rfl rfl rfl (Or.inl ⟨rfl, (Nat.le_of_ble_eq_true rfl)⟩)))))))))))))) ((xAload_n d135_161 rfl).trans ((xAload_n d135_162 rfl).trans ((xGetI 11 (I 87 11) rfl d135_163 zo_135 zfl_11_84 (by decide) rfl rfl (Or.inl (Nat.le_of_ble_eq_true rfl))).trans ((xAload_n d135_166 rfl).trans ((xGetI 12 (I 87 12) rfl d135_167 zo_135 zfl_11_75 (by decide) rfl rfl (Or.inl (Nat.le_of_ble_eq_true rfl))).trans ((xIsub d135_170).trans ((xIconst d135_171).trans ((xIcmpGe (t := 197) d135_172 rfl).trans (ziteC ((xAload_n d135_197 rfl).trans ((xGetI 14 (I 87 14) rfl d135_198 zo_135 zfl_11_103 (by decide) rfl rfl (Or.inl (Nat.le_of_ble_eq_true rfl))).trans ((xPutI 14 d135_201 zo_135 zfl_11_103 rfl rfl (Nat.le_of_ble_eq_true rfl) (Or.inl rfl)).trans ((xAload_n d135_204 rfl).trans ((xDup d135_205 rfl).trans ((xGetI 11 (I 87 11) (sI_k (by decide)) d135_206 zo_135 zfl_11_84 (by decide) rfl rfl (Or.inl (Nat.le_of_ble_eq_true rfl))).trans ((xIconst d135_209).trans ((xIadd d135_210).trans ((xPutI 11 d135_211 zo_135 zfl_11_84 rfl rfl (Nat.le_of_ble_eq_true rfl) (Or.inl rfl)).trans (xGoto (t := 140) d135_214 rfl)))))))))) ((xBipush d135_175).trans ((xAload_n d135_177 rfl).trans ((xGetI 14 (I 87 14) rfl d135_178 zo_135 zfl_11_103 (by decide) rfl rfl (Or.inl (Nat.le_of_ble_eq_true rfl))).trans ((xImul d135_181).trans ((xAload_n d135_182 rfl).trans ((xAload_n d135_183 rfl).trans ((xGetI 11 (I 87 11) rfl d135_184 zo_135 zfl_11_84 (by decide) rfl rfl (Or.inl (Nat.le_of_ble_eq_true rfl))).trans (xInvV [vR 87, vI (I 87 11)] [vI (wr (10 * (I 87 14))), vR 87] d135_187 zo_135 zml_11_87 rfl rfl rfl (Or.inl ⟨rfl, (Nat.le_of_ble_eq_true rfl)⟩)))))))))))))))))))
theorem e135_190 {I : Nat → Int → Int} {b : Bool} {S : Nat} {a1 t1 t2 : Int} : zX 135 190 [vR 87, vI a1] [vI t2, vI t1, vR 87] (I, zRs b, 103, S) = zX 135 140 [vR 87, vI a1] [] ((sI (sI I 87 14 (wr ((wr (t1 + t2)) - 48))) 87 11 (wr ((I 87 11) + 1))), zRs b, 103, S) := (xIadd d135_190).trans ((xBipush d135_191).trans ((xIsub d135_193).trans ((xGoto (t := 201) d135_194 rfl).trans ((xPutI 14 d135_201 zo_135 zfl_11_103 rfl rfl (Nat.le_of_ble_eq_true rfl) (Or.inl rfl)).trans ((xAload_n d135_204 rfl).trans ((xDup d135_205 rfl).trans ((xGetI 11 (I 87 11) (sI_k (by decide)) d135_206 zo_135 zfl_11_84 (by decide) rfl rfl (Or.inl (Nat.le_of_ble_eq_true rfl))).trans ((xIconst d135_209).trans ((xIadd d135_210).trans ((xPutI 11 d135_211 zo_135 zfl_11_84 rfl rfl (Nat.le_of_ble_eq_true rfl) (Or.inl rfl)).trans (xGoto (t := 140) d135_214 rfl)))))))))))
theorem e135_240 {I : Nat → Int → Int} {b : Bool} {S : Nat} {a1 : Int} : zX 135 240 [vR 87, vI a1] [] (I, zRs b, 103, S) = some (none, (I, zRs b, 103, S)) := (xGoto (t := 286) d135_240 rfl).trans (xVret d135_286 zret_135)
theorem e135_276 {I : Nat → Int → Int} {b : Bool} {S : Nat} {a1 : Int} : zX 135 276 [vR 87, vI a1] [] (I, zRs b, 103, S) = some (none, ((sI I 87 11 (wr ((I 87 11) + 1))), zRs b, 103, S)) := (xAload_n d135_276 rfl).trans ((xDup d135_277 rfl).trans ((xGetI 11 (I 87 11) rfl d135_278 zo_135 zfl_11_84 (by decide) rfl rfl (Or.inl (Nat.le_of_ble_eq_true rfl))).trans ((xIconst d135_281).trans ((xIadd d135_282).trans ((xPutI 11 d135_283 zo_135 zfl_11_84 rfl rfl (Nat.le_of_ble_eq_true rfl) (Or.inl rfl)).trans (xVret d135_286 zret_135))))))
theorem run136 {h : zH} {x0 : Int} : zrun 136 [vR 87, vI x0] h = zX 136 0 [vR 87, vI x0] [] h := rfl
theorem e136_0 {I : Nat → Int → Int} {b : Bool} {S : Nat} {x0 : Int} : zX 136 0 [vR 87, vI x0] [] (I, zRs b, 103, S) = if (I 87 13) = 3 then (zrun 130 [vR 87, vI (I 87 12)] (I, zRs b, 103, S)).bind (fun q => zX 136 16 [vR 87, vI x0] (zpush q.1 []) q.2) else some (some (vI 0), (I, zRs b, 103, S)) := (xAload_n d136_0 rfl).trans ((xGetI 13 (I 87 13) rfl d136_1 zo_136 zfl_11_81 (by decide) rfl rfl (Or.inl (Nat.le_of_ble_eq_true rfl))).trans ((xIconst d136_4).trans ((xIcmpNe (t := 24) d136_5 rfl).trans (ziteC ((xAload_n d136_8 rfl).trans ((xAload_n d136_9 rfl).trans ((xGetI 12 (I 87 12) rfl d136_10 zo_136 zfl_11_75 (by decide) rfl rfl (Or.inl (Nat.le_of_ble_eq_true rfl))).trans (xInvV [vR 87, vI (I 87 12)] [] d136_13 zo_136 zml_11_87 rfl rfl rfl (Or.inl ⟨rfl, (Nat.le_of_ble_eq_true rfl)⟩))))) ((xIconst d136_24).trans (xZret d136_25 zret_136 (by decide)))))))
theorem e136_16 {I : Nat → Int → Int} {b : Bool} {S : Nat} {a1 t0 : Int} : zX 136 16 [vR 87, vI a1] [vI t0] (I, zRs b, 103, S) = if t0 = a1 then some (some (vI 1), (I, zRs b, 103, S)) else some (some (vI 0), (I, zRs b, 103, S)) := (xIload_n d136_16 rfl).trans ((xIcmpNe (t := 24) d136_17 rfl).trans (ziteC ((xIconst d136_20).trans ((xGoto (t := 25) d136_21 rfl).trans (xZret d136_25 zret_136 (by decide)))) ((xIconst d136_24).trans (xZret d136_25 zret_136 (by decide)))))
theorem run137 {h : zH} {x0 x1 : Int} : zrun 137 [vR 87, vI x0, vI x1] h = zX 137 0 [vR 87, vI x0, vI x1, none] [] h := rfl
theorem e137_0 {I : Nat → Int → Int} {b : Bool} {S : Nat} {x0 x1 : Int} : zX 137 0 [vR 87, vI x0, vI x1, none] [] (I, zRs b, 103, S) = if (I 87 15) = 0 then if (I 87 13) = 2 then (zrun 129 [vR 87, vI 1, vI 2] (I, zRs b, 103, S)).bind (fun q => zX 137 25 [vR 87, vI x0, vI x1, none] (zpush q.1 []) q.2) else (zrun 129 [vR 87, vI 0, vI 2] (I, zRs b, 103, S)).bind (fun q => zX 137 25 [vR 87, vI x0, vI x1, none] (zpush q.1 []) q.2) else zX 137 25 [vR 87, vI x0, vI x1, none] [] (I, zRs b, 103, S) := (xAload_n d137_0 rfl).trans ((xGetI 15 (I 87 15) rfl d137_1 zo_137 zfl_11_72 (by decide) rfl rfl (Or.inl (Nat.le_of_ble_eq_true rfl))).trans ((xIfNe (t := 25) d137_4 rfl).trans (ziteC ((xAload_n d137_7 rfl).trans ((xAload_n d137_8 rfl).trans ((xGetI 13 (I 87 13) rfl d137_9 zo_137 zfl_11_81 (by decide) rfl rfl (Or.inl (Nat.le_of_ble_eq_true rfl))).trans ((xIconst d137_12).trans ((xIcmpNe (t := 20) d137_13 rfl).trans (ziteC ((xIconst d137_16).trans ((xGoto (t := 21) d137_17 rfl).trans ((xIconst d137_21).trans (xInvV [vR 87, vI 1, vI 2] [] d137_22 zo_137 zml_11_106 rfl rfl rfl (Or.inl ⟨rfl, (Nat.le_of_ble_eq_true rfl)⟩))))) ((xIconst d137_20).trans ((xIconst d137_21).trans (xInvV [vR 87, vI 0, vI 2] [] d137_22 zo_137 zml_11_106 rfl rfl rfl (Or.inl ⟨rfl, (Nat.le_of_ble_eq_true rfl)⟩)))))))))) rfl)))
theorem e137_25 {I : Nat → Int → Int} {b : Bool} {S : Nat} {a1 a2 : Int} : zX 137 25 [vR 87, vI a1, vI a2, none] [] (I, zRs b, 103, S) = if (I 87 15) = 0 then (zrun 125 [vL (I 87 14), vL a1, vL a2] (I, zRs b, 103, S)).bind (fun q => zX 137 45 [vR 87, vI a1, vI a2, none] (zpush q.1 [vR 87]) q.2) else zX 137 49 [vR 87, vI a1, vI a2, none] [] (I, zRs b, 103, S) := (xAload_n d137_25 rfl).trans ((xGetI 15 (I 87 15) rfl d137_26 zo_137 zfl_11_72 (by decide) rfl rfl (Or.inl (Nat.le_of_ble_eq_true rfl))).trans ((xIfNe (t := 49) d137_29 rfl).trans (ziteC ((xAload_n d137_32 rfl).trans ((xAload_n d137_33 rfl).trans ((xGetI 14 (I 87 14) rfl d137_34 zo_137 zfl_11_103 (by decide) rfl rfl (Or.inl (Nat.le_of_ble_eq_true rfl))).trans ((xI2l d137_37).trans ((xIload_n d137_38 rfl).trans ((xI2l d137_39).trans ((xIload_n d137_40 rfl).trans ((xI2l d137_41).trans (xInvS [vL (I 87 14), vL a1, vL a2] [vR 87] d137_42 zo_137 zml_11_64 rfl rfl))))))))) rfl)))
theorem e137_45 {I : Nat → Int → Int} {b : Bool} {S : Nat} {a1 a2 t1 : Int} : zX 137 45 [vR 87, vI a1, vI a2, none] [vI t1, vR 87] (I, zRs b, 103, S) = (zrun 129 [vR 87, vI t1, vI 3] (I, zRs b, 103, S)).bind (fun q => zX 137 49 [vR 87, vI a1, vI a2, none] (zpush q.1 []) q.2) := (xIconst d137_45).trans (xInvV [vR 87, vI t1, vI 3] [] d137_46 zo_137 zml_11_106 rfl rfl rfl (Or.inl ⟨rfl, (Nat.le_of_ble_eq_true rfl)⟩))
theorem e137_49 {I : Nat → Int → Int} {b : Bool} {S : Nat} {a1 a2 : Int} : zX 137 49 [vR 87, vI a1, vI a2, none] [] (I, zRs b, 103, S) = if (I 87 15) = 0 then (zrun 135 [vR 87] (I, zRs b, 103, S)).bind (fun q => zX 137 69 [vR 87, vI a1, vI a2, vI (I 87 14)] (zpush q.1 []) q.2) else (zrun 135 [vR 87] (I, zRs b, 103, S)).bind (fun q => zX 137 69 [vR 87, vI a1, vI a2, vI 0] (zpush q.1 []) q.2) := (xAload_n d137_49 rfl).trans ((xGetI 15 (I 87 15) rfl d137_50 zo_137 zfl_11_72 (by decide) rfl rfl (Or.inl (Nat.le_of_ble_eq_true rfl))).trans ((xIfNe (t := 63) d137_53 rfl).trans (ziteC ((xAload_n d137_56 rfl).trans ((xGetI 14 (I 87 14) rfl d137_57 zo_137 zfl_11_103 (by decide) rfl rfl (Or.inl (Nat.le_of_ble_eq_true rfl))).trans ((xGoto (t := 64) d137_60 rfl).trans ((xIstore_n d137_64 rfl rfl).trans ((xAload_n d137_65 rfl).trans (xInvV [vR 87] [] d137_66 zo_137 zml_11_110 rfl rfl rfl (Or.inl ⟨rfl, (Nat.le_of_ble_eq_true rfl)⟩))))))) ((xIconst d137_63).trans ((xIstore_n d137_64 rfl rfl).trans ((xAload_n d137_65 rfl).trans (xInvV [vR 87] [] d137_66 zo_137 zml_11_110 rfl rfl rfl (Or.inl ⟨rfl, (Nat.le_of_ble_eq_true rfl)⟩))))))))
theorem e137_69 {I : Nat → Int → Int} {b : Bool} {S : Nat} {a1 a2 a3 : Int} : zX 137 69 [vR 87, vI a1, vI a2, vI a3] [] (I, zRs b, 103, S) = some (some (vI a3), (I, zRs b, 103, S)) := (xIload_n d137_69 rfl).trans (xIret d137_70 zret_137)
theorem run138 {h : zH} {x0 : Int} : zrun 138 [vR 87, vI x0] h = zX 138 0 [vR 87, vI x0] [] h := rfl
theorem e138_0 {I : Nat → Int → Int} {b : Bool} {S : Nat} {x0 : Int} : zX 138 0 [vR 87, vI x0] [] (I, zRs b, 103, S) = if (I 87 15) = 0 then (zrun 136 [vR 87, vI x0] (I, zRs b, 103, S)).bind (fun q => zX 138 13 [vR 87, vI x0] (zpush q.1 [vR 87]) q.2) else zX 138 17 [vR 87, vI x0] [] (I, zRs b, 103, S) := (xAload_n d138_0 rfl).trans ((xGetI 15 (I 87 15) rfl d138_1 zo_138 zfl_11_72 (by decide) rfl rfl (Or.inl (Nat.le_of_ble_eq_true rfl))).trans ((xIfNe (t := 17) d138_4 rfl).trans (ziteC ((xAload_n d138_7 rfl).trans ((xAload_n d138_8 rfl).trans ((xIload_n d138_9 rfl).trans (xInvV [vR 87, vI x0] [vR 87] d138_10 zo_138 zml_11_113 rfl rfl rfl (Or.inl ⟨rfl, (Nat.le_of_ble_eq_true rfl)⟩))))) rfl)))
theorem e138_13 {I : Nat → Int → Int} {b : Bool} {S : Nat} {a1 t1 : Int} : zX 138 13 [vR 87, vI a1] [vI t1, vR 87] (I, zRs b, 103, S) = (zrun 129 [vR 87, vI t1, vI 2] (I, zRs b, 103, S)).bind (fun q => zX 138 17 [vR 87, vI a1] (zpush q.1 []) q.2) := (xIconst d138_13).trans (xInvV [vR 87, vI t1, vI 2] [] d138_14 zo_138 zml_11_106 rfl rfl rfl (Or.inl ⟨rfl, (Nat.le_of_ble_eq_true rfl)⟩))
theorem e138_17 {I : Nat → Int → Int} {b : Bool} {S : Nat} {a1 : Int} : zX 138 17 [vR 87, vI a1] [] (I, zRs b, 103, S) = (zrun 135 [vR 87] (I, zRs b, 103, S)).bind (fun q => zX 138 21 [vR 87, vI a1] (zpush q.1 []) q.2) := (xAload_n d138_17 rfl).trans (xInvV [vR 87] [] d138_18 zo_138 zml_11_110 rfl rfl rfl (Or.inl ⟨rfl, (Nat.le_of_ble_eq_true rfl)⟩))
theorem e138_21 {I : Nat → Int → Int} {b : Bool} {S : Nat} {a1 : Int} : zX 138 21 [vR 87, vI a1] [] (I, zRs b, 103, S) = some (none, (I, zRs b, 103, S)) := xVret d138_21 zret_138
