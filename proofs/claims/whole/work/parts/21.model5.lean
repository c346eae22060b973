theorem zo_195 : zo 195 = 11 := by decide +kernel
theorem zret_195 : zret 195 = some .int := by decide +kernel
theorem d195_0 : decode (zb 195) 0 = .ok (.aload_n 0, 1) := by decide +kernel
theorem d195_1 : decode (zb 195) 1 = .ok (.invokevirtual 59, 3) := by decide +kernel
theorem d195_4 : decode (zb 195) 4 = .ok (.aload_n 0, 1) := by decide +kernel
theorem d195_5 : decode (zb 195) 5 = .ok (.getfield 25, 3) := by decide +kernel
theorem d195_8 : decode (zb 195) 8 = .ok (.iconst 0, 1) := by decide +kernel
theorem d195_9 : decode (zb 195) 9 = .ok (.iaload, 1) := by decide +kernel
theorem d195_10 : decode (zb 195) 10 = .ok (.ireturn, 1) := by decide +kernel
theorem zo_196 : zo 196 = 11 := by decide +kernel
theorem zret_196 : zret 196 = some .int := by decide +kernel
theorem d196_0 : decode (zb 196) 0 = .ok (.aload_n 0, 1) := by decide +kernel
theorem d196_1 : decode (zb 196) 1 = .ok (.aload_n 0, 1) := by decide +kernel
theorem d196_2 : decode (zb 196) 2 = .ok (.getfield 287, 3) := by decide +kernel
theorem d196_5 : decode (zb 196) 5 = .ok (.ldc_w 290, 3) := by decide +kernel
theorem d196_8 : decode (zb 196) 8 = .ok (.imul, 1) := by decide +kernel
theorem d196_9 : decode (zb 196) 9 = .ok (.sipush 12345, 3) := by decide +kernel
theorem d196_12 : decode (zb 196) 12 = .ok (.iadd, 1) := by decide +kernel
theorem d196_13 : decode (zb 196) 13 = .ok (.putfield 287, 3) := by decide +kernel
theorem d196_16 : decode (zb 196) 16 = .ok (.aload_n 0, 1) := by decide +kernel
theorem d196_17 : decode (zb 196) 17 = .ok (.getfield 287, 3) := by decide +kernel
theorem d196_20 : decode (zb 196) 20 = .ok (.bipush 16, 2) := by decide +kernel
theorem d196_22 : decode (zb 196) 22 = .ok (.ishr, 1) := by decide +kernel
theorem d196_23 : decode (zb 196) 23 = .ok (.sipush 32767, 3) := by decide +kernel
theorem d196_26 : decode (zb 196) 26 = .ok (.iand, 1) := by decide +kernel
theorem d196_27 : decode (zb 196) 27 = .ok (.ireturn, 1) := by decide +kernel
theorem zo_197 : zo 197 = 11 := by decide +kernel
theorem zret_197 : zret 197 = none := by decide +kernel
theorem d197_0 : decode (zb 197) 0 = .ok (.aload_n 0, 1) := by decide +kernel
theorem d197_1 : decode (zb 197) 1 = .ok (.invokevirtual 291, 3) := by decide +kernel
theorem d197_4 : decode (zb 197) 4 = .ok (.bipush 8, 2) := by decide +kernel
theorem d197_6 : decode (zb 197) 6 = .ok (.irem, 1) := by decide +kernel
theorem d197_7 : decode (zb 197) 7 = .ok (.istore_n 2, 1) := by decide +kernel
theorem d197_8 : decode (zb 197) 8 = .ok (.aload_n 0, 1) := by decide +kernel
theorem d197_9 : decode (zb 197) 9 = .ok (.getfield 13, 3) := by decide +kernel
theorem d197_12 : decode (zb 197) 12 = .ok (.iconst 1, 1) := by decide +kernel
theorem d197_13 : decode (zb 197) 13 = .ok (.iaload, 1) := by decide +kernel
theorem d197_14 : decode (zb 197) 14 = .ok (.bipush 16, 2) := by decide +kernel
theorem d197_16 : decode (zb 197) 16 = .ok (.if_icmp .lt 8, 3) := by decide +kernel
theorem d197_19 : decode (zb 197) 19 = .ok (.bipush 7, 2) := by decide +kernel
theorem d197_21 : decode (zb 197) 21 = .ok (.goto 4, 3) := by decide +kernel
theorem d197_24 : decode (zb 197) 24 = .ok (.iload_n 2, 1) := by decide +kernel
theorem d197_25 : decode (zb 197) 25 = .ok (.istore_n 2, 1) := by decide +kernel
theorem d197_26 : decode (zb 197) 26 = .ok (.iload_n 2, 1) := by decide +kernel
theorem d197_27 : decode (zb 197) 27 = .ok (.iconst 3, 1) := by decide +kernel
theorem d197_28 : decode (zb 197) 28 = .ok (.if_icmp .ge 19, 3) := by decide +kernel
theorem d197_31 : decode (zb 197) 31 = .ok (.aload_n 0, 1) := by decide +kernel
theorem d197_32 : decode (zb 197) 32 = .ok (.iconst 0, 1) := by decide +kernel
theorem d197_33 : decode (zb 197) 33 = .ok (.aload_n 0, 1) := by decide +kernel
theorem d197_34 : decode (zb 197) 34 = .ok (.invokevirtual 291, 3) := by decide +kernel
theorem d197_37 : decode (zb 197) 37 = .ok (.iload_n 1, 1) := by decide +kernel
theorem d197_38 : decode (zb 197) 38 = .ok (.irem, 1) := by decide +kernel
theorem d197_39 : decode (zb 197) 39 = .ok (.bipush (-4), 2) := by decide +kernel
theorem d197_41 : decode (zb 197) 41 = .ok (.invokevirtual 128, 3) := by decide +kernel
theorem d197_44 : decode (zb 197) 44 = .ok (.goto 102, 3) := by decide +kernel
theorem d197_47 : decode (zb 197) 47 = .ok (.iload_n 2, 1) := by decide +kernel
theorem d197_48 : decode (zb 197) 48 = .ok (.iconst 3, 1) := by decide +kernel
theorem d197_49 : decode (zb 197) 49 = .ok (.if_icmp .ne 20, 3) := by decide +kernel
theorem d197_52 : decode (zb 197) 52 = .ok (.aload_n 0, 1) := by decide +kernel
theorem d197_53 : decode (zb 197) 53 = .ok (.iconst 1, 1) := by decide +kernel
theorem d197_54 : decode (zb 197) 54 = .ok (.aload_n 0, 1) := by decide +kernel
theorem d197_55 : decode (zb 197) 55 = .ok (.invokevirtual 291, 3) := by decide +kernel
theorem d197_58 : decode (zb 197) 58 = .ok (.bipush 10, 2) := by decide +kernel
theorem d197_60 : decode (zb 197) 60 = .ok (.irem, 1) := by decide +kernel
theorem d197_61 : decode (zb 197) 61 = .ok (.bipush (-4), 2) := by decide +kernel
theorem d197_63 : decode (zb 197) 63 = .ok (.invokevirtual 128, 3) := by decide +kernel
theorem d197_66 : decode (zb 197) 66 = .ok (.goto 80, 3) := by decide +kernel
theorem d197_69 : decode (zb 197) 69 = .ok (.iload_n 2, 1) := by decide +kernel
theorem d197_70 : decode (zb 197) 70 = .ok (.bipush 6, 2) := by decide +kernel
theorem d197_72 : decode (zb 197) 72 = .ok (.if_icmp .ge 63, 3) := by decide +kernel
theorem d197_75 : decode (zb 197) 75 = .ok (.aload_n 0, 1) := by decide +kernel
theorem d197_76 : decode (zb 197) 76 = .ok (.getfield 125, 3) := by decide +kernel
theorem d197_79 : decode (zb 197) 79 = .ok (.iconst 4, 1) := by decide +kernel
theorem d197_80 : decode (zb 197) 80 = .ok (.if_icmp .ge 66, 3) := by decide +kernel
theorem d197_83 : decode (zb 197) 83 = .ok (.aload_n 0, 1) := by decide +kernel
theorem d197_84 : decode (zb 197) 84 = .ok (.iload_n 2, 1) := by decide +kernel
theorem d197_85 : decode (zb 197) 85 = .ok (.iconst 4, 1) := by decide +kernel
theorem d197_86 : decode (zb 197) 86 = .ok (.if_icmp .ne 7, 3) := by decide +kernel
theorem d197_89 : decode (zb 197) 89 = .ok (.iconst 2, 1) := by decide +kernel
theorem d197_90 : decode (zb 197) 90 = .ok (.goto 4, 3) := by decide +kernel
theorem d197_93 : decode (zb 197) 93 = .ok (.iconst 3, 1) := by decide +kernel
theorem d197_94 : decode (zb 197) 94 = .ok (.iload_n 2, 1) := by decide +kernel
theorem d197_95 : decode (zb 197) 95 = .ok (.iconst 4, 1) := by decide +kernel
theorem d197_96 : decode (zb 197) 96 = .ok (.if_icmp .ne 14, 3) := by decide +kernel
theorem d197_99 : decode (zb 197) 99 = .ok (.aload_n 0, 1) := by decide +kernel
theorem d197_100 : decode (zb 197) 100 = .ok (.invokevirtual 291, 3) := by decide +kernel
theorem d197_103 : decode (zb 197) 103 = .ok (.iconst 3, 1) := by decide +kernel
theorem d197_104 : decode (zb 197) 104 = .ok (.irem, 1) := by decide +kernel
theorem d197_105 : decode (zb 197) 105 = .ok (.iconst 1, 1) := by decide +kernel
theorem d197_106 : decode (zb 197) 106 = .ok (.iadd, 1) := by decide +kernel
theorem d197_107 : decode (zb 197) 107 = .ok (.goto 9, 3) := by decide +kernel
theorem d197_110 : decode (zb 197) 110 = .ok (.aload_n 0, 1) := by decide +kernel
theorem d197_111 : decode (zb 197) 111 = .ok (.invokevirtual 291, 3) := by decide +kernel
theorem d197_114 : decode (zb 197) 114 = .ok (.iconst 4, 1) := by decide +kernel
theorem d197_115 : decode (zb 197) 115 = .ok (.irem, 1) := by decide +kernel
theorem d197_116 : decode (zb 197) 116 = .ok (.invokevirtual 132, 3) := by decide +kernel
theorem d197_119 : decode (zb 197) 119 = .ok (.aload_n 0, 1) := by decide +kernel
theorem d197_120 : decode (zb 197) 120 = .ok (.iconst 0, 1) := by decide +kernel
theorem d197_121 : decode (zb 197) 121 = .ok (.aload_n 0, 1) := by decide +kernel
theorem d197_122 : decode (zb 197) 122 = .ok (.invokevirtual 291, 3) := by decide +kernel
theorem d197_125 : decode (zb 197) 125 = .ok (.iload_n 1, 1) := by decide +kernel
theorem d197_126 : decode (zb 197) 126 = .ok (.irem, 1) := by decide +kernel
theorem d197_127 : decode (zb 197) 127 = .ok (.bipush (-4), 2) := by decide +kernel
theorem d197_129 : decode (zb 197) 129 = .ok (.invokevirtual 128, 3) := by decide +kernel
theorem d197_132 : decode (zb 197) 132 = .ok (.goto 14, 3) := by decide +kernel
theorem d197_135 : decode (zb 197) 135 = .ok (.aload_n 0, 1) := by decide +kernel
theorem d197_136 : decode (zb 197) 136 = .ok (.getfield 125, 3) := by decide +kernel
theorem d197_139 : decode (zb 197) 139 = .ok (.ifCond .le 7, 3) := by decide +kernel
theorem d197_142 : decode (zb 197) 142 = .ok (.aload_n 0, 1) := by decide +kernel
theorem d197_143 : decode (zb 197) 143 = .ok (.invokevirtual 140, 3) := by decide +kernel
theorem d197_146 : decode (zb 197) 146 = .ok (.return_, 1) := by decide +kernel
theorem zo_198 : zo 198 = 11 := by decide +kernel
theorem zret_198 : zret 198 = some .int := by decide +kernel
theorem d198_0 : decode (zb 198) 0 = .ok (.iload_n 2, 1) := by decide +kernel
theorem d198_1 : decode (zb 198) 1 = .ok (.i2l, 1) := by decide +kernel
theorem d198_2 : decode (zb 198) 2 = .ok (.lconst 1, 1) := by decide +kernel
theorem d198_3 : decode (zb 198) 3 = .ok (.ldc2_w 294, 3) := by decide +kernel
theorem d198_6 : decode (zb 198) 6 = .ok (.invokestatic 64, 3) := by decide +kernel
theorem d198_9 : decode (zb 198) 9 = .ok (.ifCond .ne 5, 3) := by decide +kernel
theorem d198_12 : decode (zb 198) 12 = .ok (.iconst (-1), 1) := by decide +kernel
theorem d198_13 : decode (zb 198) 13 = .ok (.ireturn, 1) := by decide +kernel
theorem d198_14 : decode (zb 198) 14 = .ok (.aload_n 0, 1) := by decide +kernel
theorem d198_15 : decode (zb 198) 15 = .ok (.iload_n 1, 1) := by decide +kernel
theorem d198_16 : decode (zb 198) 16 = .ok (.putfield 287, 3) := by decide +kernel
theorem d198_19 : decode (zb 198) 19 = .ok (.aload_n 0, 1) := by decide +kernel
theorem d198_20 : decode (zb 198) 20 = .ok (.iconst 0, 1) := by decide +kernel
theorem d198_21 : decode (zb 198) 21 = .ok (.putfield 125, 3) := by decide +kernel
theorem d198_24 : decode (zb 198) 24 = .ok (.iconst 0, 1) := by decide +kernel
theorem d198_25 : decode (zb 198) 25 = .ok (.istore_n 3, 1) := by decide +kernel
theorem d198_26 : decode (zb 198) 26 = .ok (.iload_n 3, 1) := by decide +kernel
theorem d198_27 : decode (zb 198) 27 = .ok (.sipush 234, 3) := by decide +kernel
theorem d198_30 : decode (zb 198) 30 = .ok (.if_icmp .ge 16, 3) := by decide +kernel
theorem d198_33 : decode (zb 198) 33 = .ok (.aload_n 0, 1) := by decide +kernel
theorem d198_34 : decode (zb 198) 34 = .ok (.getfield 13, 3) := by decide +kernel
theorem d198_37 : decode (zb 198) 37 = .ok (.iload_n 3, 1) := by decide +kernel
theorem d198_38 : decode (zb 198) 38 = .ok (.iconst 0, 1) := by decide +kernel
theorem d198_39 : decode (zb 198) 39 = .ok (.iastore, 1) := by decide +kernel
theorem d198_40 : decode (zb 198) 40 = .ok (.iinc 3 1, 3) := by decide +kernel
theorem d198_43 : decode (zb 198) 43 = .ok (.goto (-17), 3) := by decide +kernel
theorem d198_46 : decode (zb 198) 46 = .ok (.aload_n 0, 1) := by decide +kernel
theorem d198_47 : decode (zb 198) 47 = .ok (.getfield 13, 3) := by decide +kernel
theorem d198_50 : decode (zb 198) 50 = .ok (.iconst 0, 1) := by decide +kernel
theorem d198_51 : decode (zb 198) 51 = .ok (.iload_n 2, 1) := by decide +kernel
theorem d198_52 : decode (zb 198) 52 = .ok (.iastore, 1) := by decide +kernel
theorem d198_53 : decode (zb 198) 53 = .ok (.iconst 0, 1) := by decide +kernel
theorem d198_54 : decode (zb 198) 54 = .ok (.istore_n 3, 1) := by decide +kernel
theorem d198_55 : decode (zb 198) 55 = .ok (.iload_n 3, 1) := by decide +kernel
theorem d198_56 : decode (zb 198) 56 = .ok (.iload_n 2, 1) := by decide +kernel
theorem d198_57 : decode (zb 198) 57 = .ok (.if_icmp .ge 72, 3) := by decide +kernel
theorem d198_60 : decode (zb 198) 60 = .ok (.iconst 2, 1) := by decide +kernel
theorem d198_61 : decode (zb 198) 61 = .ok (.bipush 17, 2) := by decide +kernel
theorem d198_63 : decode (zb 198) 63 = .ok (.iload_n 3, 1) := by decide +kernel
theorem d198_64 : decode (zb 198) 64 = .ok (.imul, 1) := by decide +kernel
theorem d198_65 : decode (zb 198) 65 = .ok (.iadd, 1) := by decide +kernel
theorem d198_66 : decode (zb 198) 66 = .ok (.istore 4, 2) := by decide +kernel
theorem d198_68 : decode (zb 198) 68 = .ok (.aload_n 0, 1) := by decide +kernel
theorem d198_69 : decode (zb 198) 69 = .ok (.getfield 13, 3) := by decide +kernel
theorem d198_72 : decode (zb 198) 72 = .ok (.iload 4, 2) := by decide +kernel
theorem d198_74 : decode (zb 198) 74 = .ok (.aload_n 0, 1) := by decide +kernel
theorem d198_75 : decode (zb 198) 75 = .ok (.invokevirtual 291, 3) := by decide +kernel
theorem d198_78 : decode (zb 198) 78 = .ok (.bipush 16, 2) := by decide +kernel
theorem d198_80 : decode (zb 198) 80 = .ok (.irem, 1) := by decide +kernel
theorem d198_81 : decode (zb 198) 81 = .ok (.iconst 1, 1) := by decide +kernel
theorem d198_82 : decode (zb 198) 82 = .ok (.iadd, 1) := by decide +kernel
theorem d198_83 : decode (zb 198) 83 = .ok (.iastore, 1) := by decide +kernel
theorem d198_84 : decode (zb 198) 84 = .ok (.iconst 0, 1) := by decide +kernel
theorem d198_85 : decode (zb 198) 85 = .ok (.istore 5, 2) := by decide +kernel
theorem d198_87 : decode (zb 198) 87 = .ok (.iload 5, 2) := by decide +kernel
theorem d198_89 : decode (zb 198) 89 = .ok (.aload_n 0, 1) := by decide +kernel
theorem d198_90 : decode (zb 198) 90 = .ok (.getfield 13, 3) := by decide +kernel
theorem d198_93 : decode (zb 198) 93 = .ok (.iload 4, 2) := by decide +kernel
theorem d198_95 : decode (zb 198) 95 = .ok (.iaload, 1) := by decide +kernel
theorem d198_96 : decode (zb 198) 96 = .ok (.if_icmp .ge 27, 3) := by decide +kernel
theorem d198_99 : decode (zb 198) 99 = .ok (.aload_n 0, 1) := by decide +kernel
theorem d198_100 : decode (zb 198) 100 = .ok (.getfield 13, 3) := by decide +kernel
theorem d198_103 : decode (zb 198) 103 = .ok (.iload 4, 2) := by decide +kernel
theorem d198_105 : decode (zb 198) 105 = .ok (.iconst 1, 1) := by decide +kernel
theorem d198_106 : decode (zb 198) 106 = .ok (.iadd, 1) := by decide +kernel
theorem d198_107 : decode (zb 198) 107 = .ok (.iload 5, 2) := by decide +kernel
theorem d198_109 : decode (zb 198) 109 = .ok (.iadd, 1) := by decide +kernel
theorem d198_110 : decode (zb 198) 110 = .ok (.aload_n 0, 1) := by decide +kernel
theorem d198_111 : decode (zb 198) 111 = .ok (.invokevirtual 291, 3) := by decide +kernel
theorem d198_114 : decode (zb 198) 114 = .ok (.iconst 4, 1) := by decide +kernel
theorem d198_115 : decode (zb 198) 115 = .ok (.irem, 1) := by decide +kernel
theorem d198_116 : decode (zb 198) 116 = .ok (.iastore, 1) := by decide +kernel
theorem d198_117 : decode (zb 198) 117 = .ok (.iinc 5 1, 3) := by decide +kernel
theorem d198_120 : decode (zb 198) 120 = .ok (.goto (-33), 3) := by decide +kernel
theorem d198_123 : decode (zb 198) 123 = .ok (.iinc 3 1, 3) := by decide +kernel
theorem d198_126 : decode (zb 198) 126 = .ok (.goto (-71), 3) := by decide +kernel
theorem d198_129 : decode (zb 198) 129 = .ok (.aload_n 0, 1) := by decide +kernel
theorem d198_130 : decode (zb 198) 130 = .ok (.getfield 13, 3) := by decide +kernel
theorem d198_133 : decode (zb 198) 133 = .ok (.iconst 1, 1) := by decide +kernel
theorem d198_134 : decode (zb 198) 134 = .ok (.iaload, 1) := by decide +kernel
theorem d198_135 : decode (zb 198) 135 = .ok (.bipush 16, 2) := by decide +kernel
theorem d198_137 : decode (zb 198) 137 = .ok (.if_icmp .lt 10, 3) := by decide +kernel
theorem d198_140 : decode (zb 198) 140 = .ok (.aload_n 0, 1) := by decide +kernel
theorem d198_141 : decode (zb 198) 141 = .ok (.getfield 125, 3) := by decide +kernel
theorem d198_144 : decode (zb 198) 144 = .ok (.ifCond .le 11, 3) := by decide +kernel
theorem d198_147 : decode (zb 198) 147 = .ok (.aload_n 0, 1) := by decide +kernel
theorem d198_148 : decode (zb 198) 148 = .ok (.iload_n 2, 1) := by decide +kernel
theorem d198_149 : decode (zb 198) 149 = .ok (.invokevirtual 296, 3) := by decide +kernel
theorem d198_152 : decode (zb 198) 152 = .ok (.goto (-23), 3) := by decide +kernel
theorem d198_155 : decode (zb 198) 155 = .ok (.aload_n 0, 1) := by decide +kernel
theorem d198_156 : decode (zb 198) 156 = .ok (.invokevirtual 159, 3) := by decide +kernel
theorem d198_159 : decode (zb 198) 159 = .ok (.aload_n 0, 1) := by decide +kernel
theorem d198_160 : decode (zb 198) 160 = .ok (.getfield 7, 3) := by decide +kernel
theorem d198_163 : decode (zb 198) 163 = .ok (.iconst 1, 1) := by decide +kernel
theorem d198_164 : decode (zb 198) 164 = .ok (.iaload, 1) := by decide +kernel
theorem d198_165 : decode (zb 198) 165 = .ok (.ireturn, 1) := by decide +kernel
theorem zo_199 : zo 199 = 11 := by decide +kernel
theorem zret_199 : zret 199 = some .int := by decide +kernel
theorem d199_0 : decode (zb 199) 0 = .ok (.iload_n 1, 1) := by decide +kernel
theorem d199_1 : decode (zb 199) 1 = .ok (.i2l, 1) := by decide +kernel
theorem d199_2 : decode (zb 199) 2 = .ok (.lconst 0, 1) := by decide +kernel
theorem d199_3 : decode (zb 199) 3 = .ok (.lconst 1, 1) := by decide +kernel
theorem d199_4 : decode (zb 199) 4 = .ok (.invokestatic 64, 3) := by decide +kernel
theorem d199_7 : decode (zb 199) 7 = .ok (.ifCond .ne 5, 3) := by decide +kernel
theorem d199_10 : decode (zb 199) 10 = .ok (.iconst (-1), 1) := by decide +kernel
theorem d199_11 : decode (zb 199) 11 = .ok (.ireturn, 1) := by decide +kernel
theorem d199_12 : decode (zb 199) 12 = .ok (.aload_n 0, 1) := by decide +kernel
theorem d199_13 : decode (zb 199) 13 = .ok (.getfield 31, 3) := by decide +kernel
theorem d199_16 : decode (zb 199) 16 = .ok (.iload_n 1, 1) := by decide +kernel
theorem d199_17 : decode (zb 199) 17 = .ok (.baload, 1) := by decide +kernel
theorem d199_18 : decode (zb 199) 18 = .ok (.invokestatic 177, 3) := by decide +kernel
theorem d199_21 : decode (zb 199) 21 = .ok (.istore_n 2, 1) := by decide +kernel
theorem d199_22 : decode (zb 199) 22 = .ok (.aload_n 0, 1) := by decide +kernel
theorem d199_23 : decode (zb 199) 23 = .ok (.getfield 31, 3) := by decide +kernel
theorem d199_26 : decode (zb 199) 26 = .ok (.iload_n 1, 1) := by decide +kernel
theorem d199_27 : decode (zb 199) 27 = .ok (.iconst 1, 1) := by decide +kernel
theorem d199_28 : decode (zb 199) 28 = .ok (.bastore, 1) := by decide +kernel
theorem d199_29 : decode (zb 199) 29 = .ok (.iconst 0, 1) := by decide +kernel
theorem d199_30 : decode (zb 199) 30 = .ok (.istore_n 3, 1) := by decide +kernel
theorem d199_31 : decode (zb 199) 31 = .ok (.iload_n 3, 1) := by decide +kernel
theorem d199_32 : decode (zb 199) 32 = .ok (.sipush 392, 3) := by decide +kernel
theorem d199_35 : decode (zb 199) 35 = .ok (.if_icmp .ge 27, 3) := by decide +kernel
theorem d199_38 : decode (zb 199) 38 = .ok (.aload_n 0, 1) := by decide +kernel
theorem d199_39 : decode (zb 199) 39 = .ok (.getfield 28, 3) := by decide +kernel
theorem d199_42 : decode (zb 199) 42 = .ok (.sipush 392, 3) := by decide +kernel
theorem d199_45 : decode (zb 199) 45 = .ok (.iload_n 1, 1) := by decide +kernel
theorem d199_46 : decode (zb 199) 46 = .ok (.imul, 1) := by decide +kernel
theorem d199_47 : decode (zb 199) 47 = .ok (.iload_n 3, 1) := by decide +kernel
theorem d199_48 : decode (zb 199) 48 = .ok (.iadd, 1) := by decide +kernel
theorem d199_49 : decode (zb 199) 49 = .ok (.aload_n 0, 1) := by decide +kernel
theorem d199_50 : decode (zb 199) 50 = .ok (.getfield 25, 3) := by decide +kernel
theorem d199_53 : decode (zb 199) 53 = .ok (.iload_n 3, 1) := by decide +kernel
theorem d199_54 : decode (zb 199) 54 = .ok (.iaload, 1) := by decide +kernel
theorem d199_55 : decode (zb 199) 55 = .ok (.iastore, 1) := by decide +kernel
theorem d199_56 : decode (zb 199) 56 = .ok (.iinc 3 1, 3) := by decide +kernel
theorem d199_59 : decode (zb 199) 59 = .ok (.goto (-28), 3) := by decide +kernel
theorem d199_62 : decode (zb 199) 62 = .ok (.iload_n 2, 1) := by decide +kernel
theorem d199_63 : decode (zb 199) 63 = .ok (.ireturn, 1) := by decide +kernel
theorem zo_200 : zo 200 = 11 := by decide +kernel
theorem zret_200 : zret 200 = some .int := by decide +kernel
theorem d200_0 : decode (zb 200) 0 = .ok (.iload_n 1, 1) := by decide +kernel
theorem d200_1 : decode (zb 200) 1 = .ok (.i2l, 1) := by decide +kernel
theorem d200_2 : decode (zb 200) 2 = .ok (.lconst 0, 1) := by decide +kernel
theorem d200_3 : decode (zb 200) 3 = .ok (.lconst 1, 1) := by decide +kernel
theorem d200_4 : decode (zb 200) 4 = .ok (.invokestatic 64, 3) := by decide +kernel
theorem d200_7 : decode (zb 200) 7 = .ok (.ifCond .ne 5, 3) := by decide +kernel
theorem d200_10 : decode (zb 200) 10 = .ok (.iconst (-1), 1) := by decide +kernel
theorem d200_11 : decode (zb 200) 11 = .ok (.ireturn, 1) := by decide +kernel
theorem d200_12 : decode (zb 200) 12 = .ok (.aload_n 0, 1) := by decide +kernel
theorem d200_13 : decode (zb 200) 13 = .ok (.getfield 31, 3) := by decide +kernel
theorem d200_16 : decode (zb 200) 16 = .ok (.iload_n 1, 1) := by decide +kernel
theorem d200_17 : decode (zb 200) 17 = .ok (.baload, 1) := by decide +kernel
theorem d200_18 : decode (zb 200) 18 = .ok (.ifCond .ne 6, 3) := by decide +kernel
theorem d200_21 : decode (zb 200) 21 = .ok (.bipush (-2), 2) := by decide +kernel
theorem d200_23 : decode (zb 200) 23 = .ok (.ireturn, 1) := by decide +kernel
theorem d200_24 : decode (zb 200) 24 = .ok (.iconst 0, 1) := by decide +kernel
theorem d200_25 : decode (zb 200) 25 = .ok (.istore_n 2, 1) := by decide +kernel
theorem d200_26 : decode (zb 200) 26 = .ok (.iload_n 2, 1) := by decide +kernel
theorem d200_27 : decode (zb 200) 27 = .ok (.sipush 392, 3) := by decide +kernel
theorem d200_30 : decode (zb 200) 30 = .ok (.if_icmp .ge 27, 3) := by decide +kernel
theorem d200_33 : decode (zb 200) 33 = .ok (.aload_n 0, 1) := by decide +kernel
theorem d200_34 : decode (zb 200) 34 = .ok (.getfield 25, 3) := by decide +kernel
theorem d200_37 : decode (zb 200) 37 = .ok (.iload_n 2, 1) := by decide +kernel
theorem d200_38 : decode (zb 200) 38 = .ok (.aload_n 0, 1) := by decide +kernel
theorem d200_39 : decode (zb 200) 39 = .ok (.getfield 28, 3) := by decide +kernel
theorem d200_42 : decode (zb 200) 42 = .ok (.sipush 392, 3) := by decide +kernel
theorem d200_45 : decode (zb 200) 45 = .ok (.iload_n 1, 1) := by decide +kernel
theorem d200_46 : decode (zb 200) 46 = .ok (.imul, 1) := by decide +kernel
theorem d200_47 : decode (zb 200) 47 = .ok (.iload_n 2, 1) := by decide +kernel
theorem d200_48 : decode (zb 200) 48 = .ok (.iadd, 1) := by decide +kernel
theorem d200_49 : decode (zb 200) 49 = .ok (.iaload, 1) := by decide +kernel
theorem d200_50 : decode (zb 200) 50 = .ok (.iastore, 1) := by decide +kernel
theorem d200_51 : decode (zb 200) 51 = .ok (.iinc 2 1, 3) := by decide +kernel
theorem d200_54 : decode (zb 200) 54 = .ok (.goto (-28), 3) := by decide +kernel
theorem d200_57 : decode (zb 200) 57 = .ok (.aload_n 0, 1) := by decide +kernel
theorem d200_58 : decode (zb 200) 58 = .ok (.getfield 25, 3) := by decide +kernel
theorem d200_61 : decode (zb 200) 61 = .ok (.iconst 2, 1) := by decide +kernel
theorem d200_62 : decode (zb 200) 62 = .ok (.iaload, 1) := by decide +kernel
theorem d200_63 : decode (zb 200) 63 = .ok (.ireturn, 1) := by decide +kernel
theorem zo_201 : zo 201 = 11 := by decide +kernel
theorem zret_201 : zret 201 = some .boolean := by decide +kernel
theorem d201_0 : decode (zb 201) 0 = .ok (.iload_n 0, 1) := by decide +kernel
theorem d201_1 : decode (zb 201) 1 = .ok (.i2l, 1) := by decide +kernel
theorem d201_2 : decode (zb 201) 2 = .ok (.lconst 0, 1) := by decide +kernel
theorem d201_3 : decode (zb 201) 3 = .ok (.ldc2_w 190, 3) := by decide +kernel
theorem d201_6 : decode (zb 201) 6 = .ok (.invokestatic 64, 3) := by decide +kernel
theorem d201_9 : decode (zb 201) 9 = .ok (.ifCond .eq 17, 3) := by decide +kernel
theorem d201_12 : decode (zb 201) 12 = .ok (.iload_n 1, 1) := by decide +kernel
theorem d201_13 : decode (zb 201) 13 = .ok (.i2l, 1) := by decide +kernel
theorem d201_14 : decode (zb 201) 14 = .ok (.lconst 0, 1) := by decide +kernel
theorem d201_15 : decode (zb 201) 15 = .ok (.lconst 1, 1) := by decide +kernel
theorem d201_16 : decode (zb 201) 16 = .ok (.invokestatic 64, 3) := by decide +kernel
theorem d201_19 : decode (zb 201) 19 = .ok (.ifCond .eq 7, 3) := by decide +kernel
theorem d201_22 : decode (zb 201) 22 = .ok (.iconst 1, 1) := by decide +kernel
theorem d201_23 : decode (zb 201) 23 = .ok (.goto 4, 3) := by decide +kernel
theorem d201_26 : decode (zb 201) 26 = .ok (.iconst 0, 1) := by decide +kernel
theorem d201_27 : decode (zb 201) 27 = .ok (.ireturn, 1) := by decide +kernel
theorem zo_202 : zo 202 = 11 := by decide +kernel
theorem zret_202 : zret 202 = some .int := by decide +kernel
theorem d202_0 : decode (zb 202) 0 = .ok (.iload_n 1, 1) := by decide +kernel
theorem d202_1 : decode (zb 202) 1 = .ok (.iload_n 2, 1) := by decide +kernel
theorem d202_2 : decode (zb 202) 2 = .ok (.invokestatic 299, 3) := by decide +kernel
theorem d202_5 : decode (zb 202) 5 = .ok (.ifCond .eq 9, 3) := by decide +kernel
theorem d202_8 : decode (zb 202) 8 = .ok (.iload_n 3, 1) := by decide +kernel
theorem d202_9 : decode (zb 202) 9 = .ok (.bipush 30, 2) := by decide +kernel
theorem d202_11 : decode (zb 202) 11 = .ok (.if_icmp .le 5, 3) := by decide +kernel
theorem d202_14 : decode (zb 202) 14 = .ok (.iconst (-1), 1) := by decide +kernel
theorem d202_15 : decode (zb 202) 15 = .ok (.ireturn, 1) := by decide +kernel
theorem d202_16 : decode (zb 202) 16 = .ok (.iload_n 3, 1) := by decide +kernel
theorem d202_17 : decode (zb 202) 17 = .ok (.ifCond .ge 6, 3) := by decide +kernel
theorem d202_20 : decode (zb 202) 20 = .ok (.bipush (-14), 2) := by decide +kernel
theorem d202_22 : decode (zb 202) 22 = .ok (.ireturn, 1) := by decide +kernel
theorem d202_23 : decode (zb 202) 23 = .ok (.aload_n 0, 1) := by decide +kernel
theorem d202_24 : decode (zb 202) 24 = .ok (.getfield 50, 3) := by decide +kernel
theorem d202_27 : decode (zb 202) 27 = .ok (.iload_n 1, 1) := by decide +kernel
theorem d202_28 : decode (zb 202) 28 = .ok (.iload_n 2, 1) := by decide +kernel
theorem d202_29 : decode (zb 202) 29 = .ok (.iastore, 1) := by decide +kernel
theorem d202_30 : decode (zb 202) 30 = .ok (.aload_n 0, 1) := by decide +kernel
theorem d202_31 : decode (zb 202) 31 = .ok (.getfield 53, 3) := by decide +kernel
theorem d202_34 : decode (zb 202) 34 = .ok (.iload_n 1, 1) := by decide +kernel
theorem d202_35 : decode (zb 202) 35 = .ok (.iload_n 3, 1) := by decide +kernel
theorem d202_36 : decode (zb 202) 36 = .ok (.iastore, 1) := by decide +kernel
theorem d202_37 : decode (zb 202) 37 = .ok (.iconst 0, 1) := by decide +kernel
theorem d202_38 : decode (zb 202) 38 = .ok (.istore 4, 2) := by decide +kernel
theorem d202_40 : decode (zb 202) 40 = .ok (.iload 4, 2) := by decide +kernel
theorem d202_42 : decode (zb 202) 42 = .ok (.bipush 30, 2) := by decide +kernel
theorem d202_44 : decode (zb 202) 44 = .ok (.if_icmp .ge 22, 3) := by decide +kernel
theorem d202_47 : decode (zb 202) 47 = .ok (.aload_n 0, 1) := by decide +kernel
theorem d202_48 : decode (zb 202) 48 = .ok (.getfield 56, 3) := by decide +kernel
theorem d202_51 : decode (zb 202) 51 = .ok (.bipush 30, 2) := by decide +kernel
theorem d202_53 : decode (zb 202) 53 = .ok (.iload_n 1, 1) := by decide +kernel
theorem d202_54 : decode (zb 202) 54 = .ok (.imul, 1) := by decide +kernel
theorem d202_55 : decode (zb 202) 55 = .ok (.iload 4, 2) := by decide +kernel
theorem d202_57 : decode (zb 202) 57 = .ok (.iadd, 1) := by decide +kernel
theorem d202_58 : decode (zb 202) 58 = .ok (.iconst 0, 1) := by decide +kernel
theorem d202_59 : decode (zb 202) 59 = .ok (.iastore, 1) := by decide +kernel
theorem d202_60 : decode (zb 202) 60 = .ok (.iinc 4 1, 3) := by decide +kernel
theorem d202_63 : decode (zb 202) 63 = .ok (.goto (-23), 3) := by decide +kernel
theorem d202_66 : decode (zb 202) 66 = .ok (.iconst 1, 1) := by decide +kernel
theorem d202_67 : decode (zb 202) 67 = .ok (.ireturn, 1) := by decide +kernel
theorem zo_203 : zo 203 = 11 := by decide +kernel
theorem zret_203 : zret 203 = some .int := by decide +kernel
theorem d203_0 : decode (zb 203) 0 = .ok (.iload_n 1, 1) := by decide +kernel
theorem d203_1 : decode (zb 203) 1 = .ok (.iconst 0, 1) := by decide +kernel
theorem d203_2 : decode (zb 203) 2 = .ok (.invokestatic 299, 3) := by decide +kernel
theorem d203_5 : decode (zb 203) 5 = .ok (.ifCond .ne 5, 3) := by decide +kernel
theorem d203_8 : decode (zb 203) 8 = .ok (.iconst (-1), 1) := by decide +kernel
theorem d203_9 : decode (zb 203) 9 = .ok (.ireturn, 1) := by decide +kernel
theorem d203_10 : decode (zb 203) 10 = .ok (.aload_n 0, 1) := by decide +kernel
theorem d203_11 : decode (zb 203) 11 = .ok (.getfield 50, 3) := by decide +kernel
theorem d203_14 : decode (zb 203) 14 = .ok (.iload_n 1, 1) := by decide +kernel
theorem d203_15 : decode (zb 203) 15 = .ok (.iaload, 1) := by decide +kernel
theorem d203_16 : decode (zb 203) 16 = .ok (.bipush (-4), 2) := by decide +kernel
theorem d203_18 : decode (zb 203) 18 = .ok (.if_icmp .ne 6, 3) := by decide +kernel
theorem d203_21 : decode (zb 203) 21 = .ok (.bipush (-11), 2) := by decide +kernel
theorem d203_23 : decode (zb 203) 23 = .ok (.ireturn, 1) := by decide +kernel
theorem d203_24 : decode (zb 203) 24 = .ok (.iload_n 2, 1) := by decide +kernel
theorem d203_25 : decode (zb 203) 25 = .ok (.i2l, 1) := by decide +kernel
theorem d203_26 : decode (zb 203) 26 = .ok (.lconst 0, 1) := by decide +kernel
theorem d203_27 : decode (zb 203) 27 = .ok (.aload_n 0, 1) := by decide +kernel
theorem d203_28 : decode (zb 203) 28 = .ok (.getfield 53, 3) := by decide +kernel
theorem d203_31 : decode (zb 203) 31 = .ok (.iload_n 1, 1) := by decide +kernel
theorem d203_32 : decode (zb 203) 32 = .ok (.iaload, 1) := by decide +kernel
theorem d203_33 : decode (zb 203) 33 = .ok (.iconst 1, 1) := by decide +kernel
theorem d203_34 : decode (zb 203) 34 = .ok (.isub, 1) := by decide +kernel
theorem d203_35 : decode (zb 203) 35 = .ok (.i2l, 1) := by decide +kernel
theorem d203_36 : decode (zb 203) 36 = .ok (.invokestatic 64, 3) := by decide +kernel
theorem d203_39 : decode (zb 203) 39 = .ok (.ifCond .ne 6, 3) := by decide +kernel
theorem d203_42 : decode (zb 203) 42 = .ok (.bipush (-13), 2) := by decide +kernel
theorem d203_44 : decode (zb 203) 44 = .ok (.ireturn, 1) := by decide +kernel
theorem d203_45 : decode (zb 203) 45 = .ok (.aload_n 0, 1) := by decide +kernel
theorem d203_46 : decode (zb 203) 46 = .ok (.getfield 56, 3) := by decide +kernel
theorem d203_49 : decode (zb 203) 49 = .ok (.bipush 30, 2) := by decide +kernel
theorem d203_51 : decode (zb 203) 51 = .ok (.iload_n 1, 1) := by decide +kernel
theorem d203_52 : decode (zb 203) 52 = .ok (.imul, 1) := by decide +kernel
theorem d203_53 : decode (zb 203) 53 = .ok (.iload_n 2, 1) := by decide +kernel
theorem d203_54 : decode (zb 203) 54 = .ok (.iadd, 1) := by decide +kernel
theorem d203_55 : decode (zb 203) 55 = .ok (.aload_n 0, 1) := by decide +kernel
theorem d203_56 : decode (zb 203) 56 = .ok (.getfield 50, 3) := by decide +kernel
theorem d203_59 : decode (zb 203) 59 = .ok (.iload_n 1, 1) := by decide +kernel
theorem d203_60 : decode (zb 203) 60 = .ok (.iaload, 1) := by decide +kernel
theorem d203_61 : decode (zb 203) 61 = .ok (.ifCond .ne 8, 3) := by decide +kernel
theorem d203_64 : decode (zb 203) 64 = .ok (.iload_n 3, 1) := by decide +kernel
theorem d203_65 : decode (zb 203) 65 = .ok (.i2b, 1) := by decide +kernel
theorem d203_66 : decode (zb 203) 66 = .ok (.goto 4, 3) := by decide +kernel
theorem d203_69 : decode (zb 203) 69 = .ok (.iload_n 3, 1) := by decide +kernel
theorem d203_70 : decode (zb 203) 70 = .ok (.iastore, 1) := by decide +kernel
theorem d203_71 : decode (zb 203) 71 = .ok (.iconst 1, 1) := by decide +kernel
theorem d203_72 : decode (zb 203) 72 = .ok (.ireturn, 1) := by decide +kernel
theorem zo_204 : zo 204 = 11 := by decide +kernel
theorem zret_204 : zret 204 = some .int := by decide +kernel
theorem d204_0 : decode (zb 204) 0 = .ok (.iload_n 1, 1) := by decide +kernel
theorem d204_1 : decode (zb 204) 1 = .ok (.iload_n 2, 1) := by decide +kernel
theorem d204_2 : decode (zb 204) 2 = .ok (.invokestatic 299, 3) := by decide +kernel
theorem d204_5 : decode (zb 204) 5 = .ok (.ifCond .eq 16, 3) := by decide +kernel
theorem d204_8 : decode (zb 204) 8 = .ok (.iload 4, 2) := by decide +kernel
theorem d204_10 : decode (zb 204) 10 = .ok (.i2l, 1) := by decide +kernel
theorem d204_11 : decode (zb 204) 11 = .ok (.lconst 0, 1) := by decide +kernel
theorem d204_12 : decode (zb 204) 12 = .ok (.ldc2_w 303, 3) := by decide +kernel
theorem d204_15 : decode (zb 204) 15 = .ok (.invokestatic 64, 3) := by decide +kernel
theorem d204_18 : decode (zb 204) 18 = .ok (.ifCond .ne 5, 3) := by decide +kernel
theorem d204_21 : decode (zb 204) 21 = .ok (.iconst (-1), 1) := by decide +kernel
theorem d204_22 : decode (zb 204) 22 = .ok (.ireturn, 1) := by decide +kernel
theorem d204_23 : decode (zb 204) 23 = .ok (.iconst 0, 1) := by decide +kernel
theorem d204_24 : decode (zb 204) 24 = .ok (.istore 5, 2) := by decide +kernel
theorem d204_26 : decode (zb 204) 26 = .ok (.aload_n 0, 1) := by decide +kernel
theorem d204_27 : decode (zb 204) 27 = .ok (.iconst 0, 1) := by decide +kernel
theorem d204_28 : decode (zb 204) 28 = .ok (.putfield 305, 3) := by decide +kernel
theorem d204_31 : decode (zb 204) 31 = .ok (.iload 5, 2) := by decide +kernel
theorem d204_33 : decode (zb 204) 33 = .ok (.iload 4, 2) := by decide +kernel
theorem d204_35 : decode (zb 204) 35 = .ok (.if_icmp .ge 130, 3) := by decide +kernel
theorem d204_38 : decode (zb 204) 38 = .ok (.aload_n 0, 1) := by decide +kernel
theorem d204_39 : decode (zb 204) 39 = .ok (.getfield 305, 3) := by decide +kernel
theorem d204_42 : decode (zb 204) 42 = .ok (.ifCond .ne 123, 3) := by decide +kernel
theorem d204_45 : decode (zb 204) 45 = .ok (.iload_n 3, 1) := by decide +kernel
theorem d204_46 : decode (zb 204) 46 = .ok (.i2l, 1) := by decide +kernel
theorem d204_47 : decode (zb 204) 47 = .ok (.iload 5, 2) := by decide +kernel
theorem d204_49 : decode (zb 204) 49 = .ok (.i2l, 1) := by decide +kernel
theorem d204_50 : decode (zb 204) 50 = .ok (.ladd, 1) := by decide +kernel
theorem d204_51 : decode (zb 204) 51 = .ok (.lstore 6, 2) := by decide +kernel
theorem d204_53 : decode (zb 204) 53 = .ok (.aload_n 0, 1) := by decide +kernel
theorem d204_54 : decode (zb 204) 54 = .ok (.aload_n 0, 1) := by decide +kernel
theorem d204_55 : decode (zb 204) 55 = .ok (.getfield 50, 3) := by decide +kernel
theorem d204_58 : decode (zb 204) 58 = .ok (.iload_n 1, 1) := by decide +kernel
theorem d204_59 : decode (zb 204) 59 = .ok (.iaload, 1) := by decide +kernel
theorem d204_60 : decode (zb 204) 60 = .ok (.bipush (-4), 2) := by decide +kernel
theorem d204_62 : decode (zb 204) 62 = .ok (.if_icmp .ne 7, 3) := by decide +kernel
theorem d204_65 : decode (zb 204) 65 = .ok (.iconst 1, 1) := by decide +kernel
theorem d204_66 : decode (zb 204) 66 = .ok (.goto 40, 3) := by decide +kernel
theorem d204_69 : decode (zb 204) 69 = .ok (.aload_n 0, 1) := by decide +kernel
theorem d204_70 : decode (zb 204) 70 = .ok (.getfield 50, 3) := by decide +kernel
theorem d204_73 : decode (zb 204) 73 = .ok (.iload_n 1, 1) := by decide +kernel
theorem d204_74 : decode (zb 204) 74 = .ok (.iaload, 1) := by decide +kernel
theorem d204_75 : decode (zb 204) 75 = .ok (.iload_n 2, 1) := by decide +kernel
theorem d204_76 : decode (zb 204) 76 = .ok (.if_icmp .eq 7, 3) := by decide +kernel
theorem d204_79 : decode (zb 204) 79 = .ok (.iconst 2, 1) := by decide +kernel
theorem d204_80 : decode (zb 204) 80 = .ok (.goto 26, 3) := by decide +kernel
theorem d204_83 : decode (zb 204) 83 = .ok (.lload 6, 2) := by decide +kernel
theorem d204_85 : decode (zb 204) 85 = .ok (.lconst 0, 1) := by decide +kernel
theorem d204_86 : decode (zb 204) 86 = .ok (.aload_n 0, 1) := by decide +kernel
theorem d204_87 : decode (zb 204) 87 = .ok (.getfield 53, 3) := by decide +kernel
theorem d204_90 : decode (zb 204) 90 = .ok (.iload_n 1, 1) := by decide +kernel
theorem d204_91 : decode (zb 204) 91 = .ok (.iaload, 1) := by decide +kernel
theorem d204_92 : decode (zb 204) 92 = .ok (.iconst 1, 1) := by decide +kernel
theorem d204_93 : decode (zb 204) 93 = .ok (.isub, 1) := by decide +kernel
theorem d204_94 : decode (zb 204) 94 = .ok (.i2l, 1) := by decide +kernel
theorem d204_95 : decode (zb 204) 95 = .ok (.invokestatic 64, 3) := by decide +kernel
theorem d204_98 : decode (zb 204) 98 = .ok (.ifCond .eq 7, 3) := by decide +kernel
theorem d204_101 : decode (zb 204) 101 = .ok (.iconst 0, 1) := by decide +kernel
theorem d204_102 : decode (zb 204) 102 = .ok (.goto 4, 3) := by decide +kernel
theorem d204_105 : decode (zb 204) 105 = .ok (.iconst 3, 1) := by decide +kernel
theorem d204_106 : decode (zb 204) 106 = .ok (.putfield 305, 3) := by decide +kernel
theorem d204_109 : decode (zb 204) 109 = .ok (.aload_n 0, 1) := by decide +kernel
theorem d204_110 : decode (zb 204) 110 = .ok (.getfield 305, 3) := by decide +kernel
theorem d204_113 : decode (zb 204) 113 = .ok (.ifCond .ne 49, 3) := by decide +kernel
theorem d204_116 : decode (zb 204) 116 = .ok (.aload_n 0, 1) := by decide +kernel
theorem d204_117 : decode (zb 204) 117 = .ok (.getfield 56, 3) := by decide +kernel
theorem d204_120 : decode (zb 204) 120 = .ok (.bipush 30, 2) := by decide +kernel
theorem d204_122 : decode (zb 204) 122 = .ok (.iload_n 1, 1) := by decide +kernel
theorem d204_123 : decode (zb 204) 123 = .ok (.imul, 1) := by decide +kernel
theorem d204_124 : decode (zb 204) 124 = .ok (.lload 6, 2) := by decide +kernel
theorem d204_126 : decode (zb 204) 126 = .ok (.l2i, 1) := by decide +kernel
theorem d204_127 : decode (zb 204) 127 = .ok (.iadd, 1) := by decide +kernel
theorem d204_128 : decode (zb 204) 128 = .ok (.iaload, 1) := by decide +kernel
theorem d204_129 : decode (zb 204) 129 = .ok (.istore 8, 2) := by decide +kernel
theorem d204_131 : decode (zb 204) 131 = .ok (.iload 8, 2) := by decide +kernel
theorem d204_133 : decode (zb 204) 133 = .ok (.i2l, 1) := by decide +kernel
theorem d204_134 : decode (zb 204) 134 = .ok (.lconst 0, 1) := by decide +kernel
theorem d204_135 : decode (zb 204) 135 = .ok (.ldc2_w 190, 3) := by decide +kernel
theorem d204_138 : decode (zb 204) 138 = .ok (.invokestatic 64, 3) := by decide +kernel
theorem d204_141 : decode (zb 204) 141 = .ok (.ifCond .eq 14, 3) := by decide +kernel
theorem d204_144 : decode (zb 204) 144 = .ok (.aload_n 0, 1) := by decide +kernel
theorem d204_145 : decode (zb 204) 145 = .ok (.getfield 25, 3) := by decide +kernel
theorem d204_148 : decode (zb 204) 148 = .ok (.bipush 9, 2) := by decide +kernel
theorem d204_150 : decode (zb 204) 150 = .ok (.iload 8, 2) := by decide +kernel
theorem d204_152 : decode (zb 204) 152 = .ok (.iadd, 1) := by decide +kernel
theorem d204_153 : decode (zb 204) 153 = .ok (.iconst 1, 1) := by decide +kernel
theorem d204_154 : decode (zb 204) 154 = .ok (.iastore, 1) := by decide +kernel
theorem d204_155 : decode (zb 204) 155 = .ok (.aload_n 0, 1) := by decide +kernel
theorem d204_156 : decode (zb 204) 156 = .ok (.invokevirtual 272, 3) := by decide +kernel
theorem d204_159 : decode (zb 204) 159 = .ok (.iinc 5 1, 3) := by decide +kernel
theorem d204_162 : decode (zb 204) 162 = .ok (.goto (-131), 3) := by decide +kernel
theorem d204_165 : decode (zb 204) 165 = .ok (.iload 5, 2) := by decide +kernel
theorem d204_167 : decode (zb 204) 167 = .ok (.ireturn, 1) := by decide +kernel
theorem zo_205 : zo 205 = 11 := by decide +kernel
theorem zret_205 : zret 205 = some .int := by decide +kernel
theorem d205_0 : decode (zb 205) 0 = .ok (.aload_n 0, 1) := by decide +kernel
theorem d205_1 : decode (zb 205) 1 = .ok (.getfield 305, 3) := by decide +kernel
theorem d205_4 : decode (zb 205) 4 = .ok (.ireturn, 1) := by decide +kernel
theorem zo_206 : zo 206 = 11 := by decide +kernel
theorem zret_206 : zret 206 = some .int := by decide +kernel
theorem d206_0 : decode (zb 206) 0 = .ok (.iload_n 1, 1) := by decide +kernel
theorem d206_1 : decode (zb 206) 1 = .ok (.tableswitch 75 0 2 #[27, 47, 52], 27) := by decide +kernel
theorem d206_28 : decode (zb 206) 28 = .ok (.aload_n 0, 1) := by decide +kernel
theorem d206_29 : decode (zb 206) 29 = .ok (.getfield 31, 3) := by decide +kernel
theorem d206_32 : decode (zb 206) 32 = .ok (.iconst 0, 1) := by decide +kernel
theorem d206_33 : decode (zb 206) 33 = .ok (.baload, 1) := by decide +kernel
theorem d206_34 : decode (zb 206) 34 = .ok (.invokestatic 177, 3) := by decide +kernel
theorem d206_37 : decode (zb 206) 37 = .ok (.aload_n 0, 1) := by decide +kernel
theorem d206_38 : decode (zb 206) 38 = .ok (.getfield 31, 3) := by decide +kernel
theorem d206_41 : decode (zb 206) 41 = .ok (.iconst 1, 1) := by decide +kernel
theorem d206_42 : decode (zb 206) 42 = .ok (.baload, 1) := by decide +kernel
theorem d206_43 : decode (zb 206) 43 = .ok (.invokestatic 177, 3) := by decide +kernel
theorem d206_46 : decode (zb 206) 46 = .ok (.iadd, 1) := by decide +kernel
theorem d206_47 : decode (zb 206) 47 = .ok (.ireturn, 1) := by decide +kernel
theorem d206_48 : decode (zb 206) 48 = .ok (.aload_n 0, 1) := by decide +kernel
theorem d206_49 : decode (zb 206) 49 = .ok (.getfield 68, 3) := by decide +kernel
theorem d206_52 : decode (zb 206) 52 = .ok (.ireturn, 1) := by decide +kernel
theorem d206_53 : decode (zb 206) 53 = .ok (.aload_n 0, 1) := by decide +kernel
theorem d206_54 : decode (zb 206) 54 = .ok (.getfield 50, 3) := by decide +kernel
theorem d206_57 : decode (zb 206) 57 = .ok (.iconst 0, 1) := by decide +kernel
theorem d206_58 : decode (zb 206) 58 = .ok (.iaload, 1) := by decide +kernel
theorem d206_59 : decode (zb 206) 59 = .ok (.bipush (-4), 2) := by decide +kernel
theorem d206_61 : decode (zb 206) 61 = .ok (.if_icmp .ne 8, 3) := by decide +kernel
theorem d206_64 : decode (zb 206) 64 = .ok (.bipush (-4), 2) := by decide +kernel
theorem d206_66 : decode (zb 206) 66 = .ok (.goto 9, 3) := by decide +kernel
theorem d206_69 : decode (zb 206) 69 = .ok (.aload_n 0, 1) := by decide +kernel
theorem d206_70 : decode (zb 206) 70 = .ok (.getfield 53, 3) := by decide +kernel
theorem d206_73 : decode (zb 206) 73 = .ok (.iconst 0, 1) := by decide +kernel
theorem d206_74 : decode (zb 206) 74 = .ok (.iaload, 1) := by decide +kernel
theorem d206_75 : decode (zb 206) 75 = .ok (.ireturn, 1) := by decide +kernel
theorem d206_76 : decode (zb 206) 76 = .ok (.iconst (-1), 1) := by decide +kernel
theorem d206_77 : decode (zb 206) 77 = .ok (.ireturn, 1) := by decide +kernel
theorem run195 {h : zH} : zrun 195 [vR 87] h = zX 195 0 [vR 87] [] h := rfl
theorem e195_0 {I : Nat → Int → Int} {b : Bool} {S : Nat} : zX 195 0 [vR 87] [] (I, zRs b, 103, S) = (zrun 165 [vR 87] (I, zRs b, 103, S)).bind (fun q => zX 195 4 [vR 87] (zpush q.1 []) q.2) := (xAload_n d195_0 rfl).trans (xInvV [vR 87] [] d195_1 zo_195 zml_11_59 rfl rfl rfl (Or.inl ⟨rfl, (Nat.le_of_ble_eq_true rfl)⟩))
theorem e195_4 {I : Nat → Int → Int} {b : Bool} {S : Nat} : zX 195 4 [vR 87] [] (I, zRs b, 103, S) = some (some (vI (I 93 0)), (I, zRs b, 103, S)) := (xAload_n d195_4 rfl).trans ((xGetR 6 93 d195_5 zo_195 zfl_11_25 rfl rfl rfl (Or.inl (Nat.le_of_ble_eq_true rfl))).trans ((xIconst d195_8).trans ((xIald (N := 392) (I 93 0) rfl d195_9 rfl (Or.inl (Nat.le_of_ble_eq_true rfl)) rfl).trans ((if_pos (by decide)).trans (xIret d195_10 zret_195)))))
theorem run196 {h : zH} : zrun 196 [vR 87] h = zX 196 0 [vR 87] [] h := rfl
theorem e196_0 {I : Nat → Int → Int} {b : Bool} {S : Nat} : zX 196 0 [vR 87] [] (I, zRs b, 103, S) = some (some (vI (w2 (· &&& ·) (w2 (fun a b => a >>> (b &&& 31)) (wr ((wr ((I 87 24) * 1103515245)) + 12345)) 16) 32767)), ((sI I 87 24 (wr ((wr ((I 87 24) * 1103515245)) + 12345))), zRs b, 103, S)) := (xAload_n d196_0 rfl).trans ((xAload_n d196_1 rfl).trans ((xGetI 24 (I 87 24) rfl d196_2 zo_196 zfl_11_287 (by decide) rfl rfl (Or.inl (Nat.le_of_ble_eq_true rfl))).trans ((xLdcw d196_5 zo_196 zct_11_290 (by decide)).trans ((xImul d196_8).trans ((xSipush d196_9).trans ((xIadd d196_12).trans ((xPutI 24 d196_13 zo_196 zfl_11_287 rfl rfl (Nat.le_of_ble_eq_true rfl) (Or.inl rfl)).trans ((xAload_n d196_16 rfl).trans ((xGetI 24 (wr ((wr ((I 87 24) * 1103515245)) + 12345)) sI_s d196_17 zo_196 zfl_11_287 (by decide) rfl rfl (Or.inl (Nat.le_of_ble_eq_true rfl))).trans ((xBipush d196_20).trans ((xIshr d196_22).trans ((xSipush d196_23).trans ((xIand d196_26).trans (xIret d196_27 zret_196))))))))))))))
theorem run197 {h : zH} {x0 : Int} : zrun 197 [vR 87, vI x0] h = zX 197 0 [vR 87, vI x0, none] [] h := rfl
theorem e197_0 {I : Nat → Int → Int} {b : Bool} {S : Nat} {x0 : Int} : zX 197 0 [vR 87, vI x0, none] [] (I, zRs b, 103, S) = (zrun 196 [vR 87] (I, zRs b, 103, S)).bind (fun q => zX 197 4 [vR 87, vI x0, none] (zpush q.1 []) q.2) := (xAload_n d197_0 rfl).trans (xInvV [vR 87] [] d197_1 zo_197 zml_11_291 rfl rfl rfl (Or.inl ⟨rfl, (Nat.le_of_ble_eq_true rfl)⟩))
theorem e197_4 {I : Nat → Int → Int} {b : Bool} {S : Nat} {a1 t0 : Int} : zX 197 4 [vR 87, vI a1, none] [vI t0] (I, zRs b, 103, S) = if (I 89 1) < 16 then if 3 ≤ (t0.tmod 8) then if (t0.tmod 8) = 3 then (zrun 196 [vR 87] (I, zRs b, 103, S)).bind (fun q => zX 197 58 [vR 87, vI a1, vI (t0.tmod 8)] (zpush q.1 [vI 1, vR 87]) q.2) else if 6 ≤ (t0.tmod 8) then if (I 87 19) ≤ 0 then zX 197 146 [vR 87, vI a1, vI (t0.tmod 8)] [] (I, zRs b, 103, S) else (zrun 141 [vR 87] (I, zRs b, 103, S)).bind (fun q => zX 197 146 [vR 87, vI a1, vI (t0.tmod 8)] (zpush q.1 []) q.2) else if 4 ≤ (I 87 19) then zX 197 146 [vR 87, vI a1, vI (t0.tmod 8)] [] (I, zRs b, 103, S) else if (t0.tmod 8) = 4 then if (t0.tmod 8) = 4 then (zrun 196 [vR 87] (I, zRs b, 103, S)).bind (fun q => zX 197 103 [vR 87, vI a1, vI (t0.tmod 8)] (zpush q.1 [vI 2, vR 87]) q.2) else (zrun 196 [vR 87] (I, zRs b, 103, S)).bind (fun q => zX 197 114 [vR 87, vI a1, vI (t0.tmod 8)] (zpush q.1 [vI 2, vR 87]) q.2) else if (t0.tmod 8) = 4 then (zrun 196 [vR 87] (I, zRs b, 103, S)).bind (fun q => zX 197 103 [vR 87, vI a1, vI (t0.tmod 8)] (zpush q.1 [vI 3, vR 87]) q.2) else (zrun 196 [vR 87] (I, zRs b, 103, S)).bind (fun q => zX 197 114 [vR 87, vI a1, vI (t0.tmod 8)] (zpush q.1 [vI 3, vR 87]) q.2) else (zrun 196 [vR 87] (I, zRs b, 103, S)).bind (fun q => zX 197 37 [vR 87, vI a1, vI (t0.tmod 8)] (zpush q.1 [vI 0, vR 87]) q.2) else if (I 87 19) ≤ 0 then zX 197 146 [vR 87, vI a1, vI 7] [] (I, zRs b, 103, S) else (zrun 141 [vR 87] (I, zRs b, 103, S)).bind (fun q => zX 197 146 [vR 87, vI a1, vI 7] (zpush q.1 []) q.2) := (xBipush d197_4).trans ((xIrem d197_6 (by decide)).trans ((xIstore_n d197_7 rfl rfl).trans ((xAload_n d197_8 rfl).trans ((xGetR 1 89 d197_9 zo_197 zfl_11_13 rfl rfl rfl (Or.inl (Nat.le_of_ble_eq_true rfl))).trans ((xIconst d197_12).trans ((xIald (N := 234) (I 89 1) rfl d197_13 rfl (Or.inl (Nat.le_of_ble_eq_true rfl)) rfl).trans ((if_pos (by decide)).trans ((xBipush d197_14).trans ((xIcmpLt (t := 24) d197_16 rfl).trans (ziteC ((xIload_n d197_24 rfl).trans ((xIstore_n d197_25 rfl rfl).trans ((xIload_n d197_26 rfl).trans ((xIconst d197_27).trans ((xIcmpGe (t := 47) d197_28 rfl).trans (ziteC ((xIload_n d197_47 rfl).trans ((xIconst d197_48).trans ((xIcmpNe (t := 69) d197_49 rfl).trans (ziteC ((xAload_n d197_52 rfl).trans ((xIconst d197_53).trans ((xAload_n d197_54 rfl).trans (xInvV [vR 87] [vI 1, vR 87] d197_55 zo_197 zml_11_291 rfl rfl rfl (Or.inl ⟨rfl, (Nat.le_of_ble_eq_true rfl)⟩))))) ((xIload_n d197_69 rfl).trans ((xBipush d197_70).trans ((xIcmpGe (t := 135) d197_72 rfl).trans (ziteC ((xAload_n d197_135 rfl).trans ((xGetI 19 (I 87 19) rfl d197_136 zo_197 zfl_11_125 (by decide) rfl rfl (Or.inl (Nat.le_of_ble_eq_true rfl))).trans ((xIfLe (t := 146) d197_139 rfl).trans (ziteC rfl ((xAload_n d197_142 rfl).trans (xInvV [vR 87] [] d197_143 zo_197 zml_11_140 rfl rfl rfl (Or.inl ⟨rfl, (Nat.le_of_ble_eq_true rfl)⟩))))))) ((xAload_n d197_75 rfl).trans ((xGetI 19 (I 87 19) rfl d197_76 zo_197 zfl_11_125 (by decide) rfl rfl (Or.inl (Nat.le_of_ble_eq_true rfl))).trans ((xIconst d197_79).trans ((xIcmpGe (t := 146) d197_80 rfl).trans (ziteC rfl ((xAload_n d197_83 rfl).trans ((xIload_n d197_84 rfl).trans ((xIconst d197_85).trans ((xIcmpNe (t := 93) d197_86 rfl).trans (ziteC ((xIconst d197_89).trans ((xGoto (t := 94) d197_90 rfl).trans ((xIload_n d197_94 rfl).trans ((xIconst d197_95).trans ((xIcmpNe (t := 110) d197_96 rfl).trans (ziteC ((xAload_n d197_99 rfl).trans (xInvV [vR 87] [vI 2, vR 87] d197_100 zo_197 zml_11_291 rfl rfl rfl (Or.inl ⟨rfl, (Nat.le_of_ble_eq_true rfl)⟩))) ((xAload_n d197_110 rfl).trans (xInvV [vR 87] [vI 2, vR 87] d197_111 zo_197 zml_11_291 rfl rfl rfl (Or.inl ⟨rfl, (Nat.le_of_ble_eq_true rfl)⟩))))))))) ((xIconst d197_93).trans ((xIload_n d197_94 rfl).trans ((xIconst d197_95).trans ((xIcmpNe (t := 110) d197_96 rfl).trans (ziteC ((xAload_n d197_99 rfl).trans (xInvV [vR 87] [vI 3, vR 87] d197_100 zo_197 zml_11_291 rfl rfl rfl (Or.inl ⟨rfl, (Nat.le_of_ble_eq_true rfl)⟩))) ((xAload_n d197_110 rfl).trans (xInvV [vR 87] [vI 3, vR 87] d197_111 zo_197 zml_11_291 rfl rfl rfl (Or.inl ⟨rfl, (Nat.le_of_ble_eq_true rfl)⟩)))))))))))))))))))))))))) ((xAload_n d197_31 rfl).trans ((xIconst d197_32).trans ((xAload_n d197_33 rfl).trans (xInvV [vR 87] [vI 0, vR 87] d197_34 zo_197 zml_11_291 rfl rfl rfl (Or.inl ⟨rfl, (Nat.le_of_ble_eq_true rfl)⟩))))))))))) ((xBipush d197_19).trans ((xGoto (t := 25) d197_21 rfl).trans ((xIstore_n d197_25 rfl rfl).trans ((xIload_n d197_26 rfl).trans ((xIconst d197_27).trans ((xIcmpGe (t := 47) d197_28 rfl).trans ((if_pos (by decide)).trans ((xIload_n d197_47 rfl).trans ((xIconst d197_48).trans ((xIcmpNe (t := 69) d197_49 rfl).trans ((if_neg (by decide)).trans ((xIload_n d197_69 rfl).trans ((xBipush d197_70).trans ((xIcmpGe (t := 135) d197_72 rfl).trans ((if_pos (by decide)).trans ((xAload_n d197_135 rfl).trans ((xGetI 19 (I 87 19) rfl d197_136 zo_197 zfl_11_125 (by decide) rfl rfl (Or.inl (Nat.le_of_ble_eq_true rfl))).trans ((xIfLe (t := 146) d197_139 rfl).trans (ziteC rfl ((xAload_n d197_142 rfl).trans (xInvV [vR 87] [] d197_143 zo_197 zml_11_140 rfl rfl rfl (Or.inl ⟨rfl, (Nat.le_of_ble_eq_true rfl)⟩))))))))))))))))))))))))))))))))
theorem e197_37 {I : Nat → Int → Int} {b : Bool} {S : Nat} {a1 a2 t1 t2 : Int} : zX 197 37 [vR 87, vI a1, vI a2] [vI t2, vI t1, vR 87] (I, zRs b, 103, S) = if a1 = 0 then none else (zrun 140 [vR 87, vI t1, vI (t2.tmod a1), vI (-4)] (I, zRs b, 103, S)).bind (fun q => zX 197 44 [vR 87, vI a1, vI a2] (zpush q.1 []) q.2) := (xIload_n d197_37 rfl).trans ((xIremG d197_38).trans (ziteC rfl ((xBipush d197_39).trans (xInvV [vR 87, vI t1, vI (t2.tmod a1), vI (-4)] [] d197_41 zo_197 zml_11_128 rfl rfl rfl (Or.inl ⟨rfl, (Nat.le_of_ble_eq_true rfl)⟩)))))
theorem e197_44 {I : Nat → Int → Int} {b : Bool} {S : Nat} {a1 a2 : Int} : zX 197 44 [vR 87, vI a1, vI a2] [] (I, zRs b, 103, S) = zX 197 146 [vR 87, vI a1, vI a2] [] (I, zRs b, 103, S) := xGoto (t := 146) d197_44 rfl
theorem e197_58 {I : Nat → Int → Int} {b : Bool} {S : Nat} {a1 a2 t1 t2 : Int} : zX 197 58 [vR 87, vI a1, vI a2] [vI t2, vI t1, vR 87] (I, zRs b, 103, S) = (zrun 140 [vR 87, vI t1, vI (t2.tmod 10), vI (-4)] (I, zRs b, 103, S)).bind (fun q => zX 197 66 [vR 87, vI a1, vI a2] (zpush q.1 []) q.2) := (xBipush d197_58).trans ((xIrem d197_60 (by decide)).trans ((xBipush d197_61).trans (xInvV [vR 87, vI t1, vI (t2.tmod 10), vI (-4)] [] d197_63 zo_197 zml_11_128 rfl rfl rfl (Or.inl ⟨rfl, (Nat.le_of_ble_eq_true rfl)⟩))))
theorem e197_66 {I : Nat → Int → Int} {b : Bool} {S : Nat} {a1 a2 : Int} : zX 197 66 [vR 87, vI a1, vI a2] [] (I, zRs b, 103, S) = zX 197 146 [vR 87, vI a1, vI a2] [] (I, zRs b, 103, S) := xGoto (t := 146) d197_66 rfl
theorem e197_103 {I : Nat → Int → Int} {b : Bool} {S : Nat} {a1 a2 t1 t2 : Int} : zX 197 103 [vR 87, vI a1, vI a2] [vI t2, vI t1, vR 87] (I, zRs b, 103, S) = (zrun 142 [vR 87, vI t1, vI (wr ((t2.tmod 3) + 1))] (I, zRs b, 103, S)).bind (fun q => zX 197 119 [vR 87, vI a1, vI a2] (zpush q.1 []) q.2) := (xIconst d197_103).trans ((xIrem d197_104 (by decide)).trans ((xIconst d197_105).trans ((xIadd d197_106).trans ((xGoto (t := 116) d197_107 rfl).trans (xInvV [vR 87, vI t1, vI (wr ((t2.tmod 3) + 1))] [] d197_116 zo_197 zml_11_132 rfl rfl rfl (Or.inl ⟨rfl, (Nat.le_of_ble_eq_true rfl)⟩))))))
theorem e197_114 {I : Nat → Int → Int} {b : Bool} {S : Nat} {a1 a2 t1 t2 : Int} : zX 197 114 [vR 87, vI a1, vI a2] [vI t2, vI t1, vR 87] (I, zRs b, 103, S) = (zrun 142 [vR 87, vI t1, vI (t2.tmod 4)] (I, zRs b, 103, S)).bind (fun q => zX 197 119 [vR 87, vI a1, vI a2] (zpush q.1 []) q.2) := (xIconst d197_114).trans ((xIrem d197_115 (by decide)).trans (xInvV [vR 87, vI t1, vI (t2.tmod 4)] [] d197_116 zo_197 zml_11_132 rfl rfl rfl (Or.inl ⟨rfl, (Nat.le_of_ble_eq_true rfl)⟩)))
theorem e197_119 {I : Nat → Int → Int} {b : Bool} {S : Nat} {a1 a2 : Int} : zX 197 119 [vR 87, vI a1, vI a2] [] (I, zRs b, 103, S) = (zrun 196 [vR 87] (I, zRs b, 103, S)).bind (fun q => zX 197 125 [vR 87, vI a1, vI a2] (zpush q.1 [vI 0, vR 87]) q.2) := (xAload_n d197_119 rfl).trans ((xIconst d197_120).trans ((xAload_n d197_121 rfl).trans (xInvV [vR 87] [vI 0, vR 87] d197_122 zo_197 zml_11_291 rfl rfl rfl (Or.inl ⟨rfl, (Nat.le_of_ble_eq_true rfl)⟩))))
theorem e197_125 {I : Nat → Int → Int} {b : Bool} {S : Nat} {a1 a2 t1 t2 : Int} : zX 197 125 [vR 87, vI a1, vI a2] [vI t2, vI t1, vR 87] (I, zRs b, 103, S) = if a1 = 0 then none else (zrun 140 [vR 87, vI t1, vI (t2.tmod a1), vI (-4)] (I, zRs b, 103, S)).bind (fun q => zX 197 132 [vR 87, vI a1, vI a2] (zpush q.1 []) q.2) := (xIload_n d197_125 rfl).trans ((xIremG d197_126).trans (ziteC rfl ((xBipush d197_127).trans (xInvV [vR 87, vI t1, vI (t2.tmod a1), vI (-4)] [] d197_129 zo_197 zml_11_128 rfl rfl rfl (Or.inl ⟨rfl, (Nat.le_of_ble_eq_true rfl)⟩)))))
theorem e197_132 {I : Nat → Int → Int} {b : Bool} {S : Nat} {a1 a2 : Int} : zX 197 132 [vR 87, vI a1, vI a2] [] (I, zRs b, 103, S) = zX 197 146 [vR 87, vI a1, vI a2] [] (I, zRs b, 103, S) := xGoto (t := 146) d197_132 rfl
theorem e197_146 {I : Nat → Int → Int} {b : Bool} {S : Nat} {a1 a2 : Int} : zX 197 146 [vR 87, vI a1, vI a2] [] (I, zRs b, 103, S) = some (none, (I, zRs b, 103, S)) := xVret d197_146 zret_197
theorem run198 {h : zH} {x0 x1 : Int} : zrun 198 [vR 87, vI x0, vI x1] h = zX 198 0 [vR 87, vI x0, vI x1, none, none, none] [] h := rfl
theorem e198_0 {I : Nat → Int → Int} {b : Bool} {S : Nat} {x0 x1 : Int} : zX 198 0 [vR 87, vI x0, vI x1, none, none, none] [] (I, zRs b, 103, S) = (zrun 125 [vL x1, vL 1, vL 8] (I, zRs b, 103, S)).bind (fun q => zX 198 9 [vR 87, vI x0, vI x1, none, none, none] (zpush q.1 []) q.2) := (xIload_n d198_0 rfl).trans ((xI2l d198_1).trans ((xLconst d198_2).trans ((xLdc2 d198_3 zo_198 zcl_11_294 (by decide)).trans (xInvS [vL x1, vL 1, vL 8] [] d198_6 zo_198 zml_11_64 rfl rfl))))
theorem e198_9 {I : Nat → Int → Int} {b : Bool} {S : Nat} {a1 a2 t0 : Int} : zX 198 9 [vR 87, vI a1, vI a2, none, none, none] [vI t0] (I, zRs b, 103, S) = if t0 = 0 then some (some (vI (-1)), (I, zRs b, 103, S)) else zX 198 26 [vR 87, vI a1, vI a2, vI 0, none, none] [] ((sI (sI I 87 24 a1) 87 19 0), zRs b, 103, S) := (xIfNe (t := 14) d198_9 rfl).trans (ziteC ((xIconst d198_12).trans (xIret d198_13 zret_198)) ((xAload_n d198_14 rfl).trans ((xIload_n d198_15 rfl).trans ((xPutI 24 d198_16 zo_198 zfl_11_287 rfl rfl (Nat.le_of_ble_eq_true rfl) (Or.inl rfl)).trans ((xAload_n d198_19 rfl).trans ((xIconst d198_20).trans ((xPutI 19 d198_21 zo_198 zfl_11_125 rfl rfl (Nat.le_of_ble_eq_true rfl) (Or.inl rfl)).trans ((xIconst d198_24).trans (xIstore_n d198_25 rfl rfl)))))))))
theorem e198_26 {I : Nat → Int → Int} {b : Bool} {S : Nat} {a1 a2 a3 : Int} : zX 198 26 [vR 87, vI a1, vI a2, vI a3, none, none] [] (I, zRs b, 103, S) = if 234 ≤ a3 then zX 198 55 [vR 87, vI a1, vI a2, vI 0, none, none] [] ((sI I 89 0 a2), zRs b, 103, S) else if 0 ≤ a3 ∧ a3 < 234 then zX 198 26 [vR 87, vI a1, vI a2, vI (wr (a3 + 1)), none, none] [] ((sI I 89 a3 0), zRs b, 103, S) else none := (xIload_n d198_26 rfl).trans ((xSipush d198_27).trans ((xIcmpGe (t := 46) d198_30 rfl).trans (ziteC ((xAload_n d198_46 rfl).trans ((xGetR 1 89 d198_47 zo_198 zfl_11_13 rfl rfl rfl (Or.inl (Nat.le_of_ble_eq_true rfl))).trans ((xIconst d198_50).trans ((xIload_n d198_51 rfl).trans ((xIast (N := 234) d198_52 rfl (Nat.le_of_ble_eq_true rfl) rfl).trans ((if_pos (by decide)).trans ((xIconst d198_53).trans (xIstore_n d198_54 rfl rfl)))))))) ((xAload_n d198_33 rfl).trans ((xGetR 1 89 d198_34 zo_198 zfl_11_13 rfl rfl rfl (Or.inl (Nat.le_of_ble_eq_true rfl))).trans ((xIload_n d198_37 rfl).trans ((xIconst d198_38).trans ((xIast (N := 234) d198_39 rfl (Nat.le_of_ble_eq_true rfl) rfl).trans (ziteC ((xIinc d198_40 rfl rfl rfl).trans (xGoto (t := 26) d198_43 rfl)) rfl)))))))))
theorem e198_55 {I : Nat → Int → Int} {b : Bool} {S : Nat} {a1 a2 a3 : Int} {w4 w5 : zV} : zX 198 55 [vR 87, vI a1, vI a2, vI a3, w4, w5] [] (I, zRs b, 103, S) = if a2 ≤ a3 then zX 198 129 [vR 87, vI a1, vI a2, vI a3, w4, w5] [] (I, zRs b, 103, S) else (zrun 196 [vR 87] (I, zRs b, 103, S)).bind (fun q => zX 198 78 [vR 87, vI a1, vI a2, vI a3, vI (wr (2 + (wr (17 * a3)))), w5] (zpush q.1 [vI (wr (2 + (wr (17 * a3)))), vR 89]) q.2) := (xIload_n d198_55 rfl).trans ((xIload_n d198_56 rfl).trans ((xIcmpGe (t := 129) d198_57 rfl).trans (ziteC rfl ((xIconst d198_60).trans ((xBipush d198_61).trans ((xIload_n d198_63 rfl).trans ((xImul d198_64).trans ((xIadd d198_65).trans ((xIstore d198_66 rfl rfl).trans ((xAload_n d198_68 rfl).trans ((xGetR 1 89 d198_69 zo_198 zfl_11_13 rfl rfl rfl (Or.inl (Nat.le_of_ble_eq_true rfl))).trans ((xIload d198_72 rfl).trans ((xAload_n d198_74 rfl).trans (xInvV [vR 87] [vI (wr (2 + (wr (17 * a3)))), vR 89] d198_75 zo_198 zml_11_291 rfl rfl rfl (Or.inl ⟨rfl, (Nat.le_of_ble_eq_true rfl)⟩)))))))))))))))
theorem e198_78 {I : Nat → Int → Int} {b : Bool} {S : Nat} {a1 a2 a3 a4 t1 t2 : Int} {w5 : zV} : zX 198 78 [vR 87, vI a1, vI a2, vI a3, vI a4, w5] [vI t2, vI t1, vR 89] (I, zRs b, 103, S) = if 0 ≤ t1 ∧ t1 < 234 then zX 198 87 [vR 87, vI a1, vI a2, vI a3, vI a4, vI 0] [] ((sI I 89 t1 (wr ((t2.tmod 16) + 1))), zRs b, 103, S) else none := (xBipush d198_78).trans ((xIrem d198_80 (by decide)).trans ((xIconst d198_81).trans ((xIadd d198_82).trans ((xIast (N := 234) d198_83 rfl (Nat.le_of_ble_eq_true rfl) rfl).trans (ziteC ((xIconst d198_84).trans (xIstore d198_85 rfl rfl)) rfl)))))
theorem e198_87 {I : Nat → Int → Int} {b : Bool} {S : Nat} {a1 a2 a3 a4 a5 : Int} : zX 198 87 [vR 87, vI a1, vI a2, vI a3, vI a4, vI a5] [] (I, zRs b, 103, S) = if 0 ≤ a4 ∧ a4 < 234 then if (I 89 a4) ≤ a5 then zX 198 55 [vR 87, vI a1, vI a2, vI (wr (a3 + 1)), vI a4, vI a5] [] (I, zRs b, 103, S) else (zrun 196 [vR 87] (I, zRs b, 103, S)).bind (fun q => zX 198 114 [vR 87, vI a1, vI a2, vI a3, vI a4, vI a5] (zpush q.1 [vI (wr ((wr (a4 + 1)) + a5)), vR 89]) q.2) else none := (xIload d198_87 rfl).trans ((xAload_n d198_89 rfl).trans ((xGetR 1 89 d198_90 zo_198 zfl_11_13 rfl rfl rfl (Or.inl (Nat.le_of_ble_eq_true rfl))).trans ((xIload d198_93 rfl).trans ((xIald (N := 234) (I 89 a4) rfl d198_95 rfl (Or.inl (Nat.le_of_ble_eq_true rfl)) rfl).trans (ziteC ((xIcmpGe (t := 123) d198_96 rfl).trans (ziteC ((xIinc d198_123 rfl rfl rfl).trans (xGoto (t := 55) d198_126 rfl)) ((xAload_n d198_99 rfl).trans ((xGetR 1 89 d198_100 zo_198 zfl_11_13 rfl rfl rfl (Or.inl (Nat.le_of_ble_eq_true rfl))).trans ((xIload d198_103 rfl).trans ((xIconst d198_105).trans ((xIadd d198_106).trans ((xIload d198_107 rfl).trans ((xIadd d198_109).trans ((xAload_n d198_110 rfl).trans (xInvV [vR 87] [vI (wr ((wr (a4 + 1)) + a5)), vR 89] d198_111 zo_198 zml_11_291 rfl rfl rfl (Or.inl ⟨rfl, (Nat.le_of_ble_eq_true rfl)⟩)))))))))))) rfl)))))
theorem e198_114 {I : Nat → Int → Int} {b : Bool} {S : Nat} {a1 a2 a3 a4 a5 t1 t2 : Int} : zX 198 114 [vR 87, vI a1, vI a2, vI a3, vI a4, vI a5] [vI t2, vI t1, vR 89] (I, zRs b, 103, S) = if 0 ≤ t1 ∧ t1 < 234 then zX 198 87 [vR 87, vI a1, vI a2, vI a3, vI a4, vI (wr (a5 + 1))] [] ((sI I 89 t1 (t2.tmod 4)), zRs b, 103, S) else none := (xIconst d198_114).trans ((xIrem d198_115 (by decide)).trans ((xIast (N := 234) d198_116 rfl (Nat.le_of_ble_eq_true rfl) rfl).trans (ziteC ((xIinc d198_117 rfl rfl rfl).trans (xGoto (t := 87) d198_120 rfl)) rfl)))
theorem e198_129 {I : Nat → Int → Int} {b : Bool} {S : Nat} {a1 a2 a3 : Int} {w4 w5 : zV} : zX 198 129 [vR 87, vI a1, vI a2, vI a3, w4, w5] [] (I, zRs b, 103, S) = if (I 89 1) < 16 then (zrun 197 [vR 87, vI a2] (I, zRs b, 103, S)).bind (fun q => zX 198 152 [vR 87, vI a1, vI a2, vI a3, w4, w5] (zpush q.1 []) q.2) else if (I 87 19) ≤ 0 then (zrun 146 [vR 87] (I, zRs b, 103, S)).bind (fun q => zX 198 159 [vR 87, vI a1, vI a2, vI a3, w4, w5] (zpush q.1 []) q.2) else (zrun 197 [vR 87, vI a2] (I, zRs b, 103, S)).bind (fun q => zX 198 152 [vR 87, vI a1, vI a2, vI a3, w4, w5] (zpush q.1 []) q.2) := (xAload_n d198_129 rfl).trans ((xGetR 1 89 d198_130 zo_198 zfl_11_13 rfl rfl rfl (Or.inl (Nat.le_of_ble_eq_true rfl))).trans ((xIconst d198_133).trans ((xIald (N := 234) (I 89 1) rfl d198_134 rfl (Or.inl (Nat.le_of_ble_eq_true rfl)) rfl).trans ((if_pos (by decide)).trans ((xBipush d198_135).trans ((xIcmpLt (t := 147) d198_137 rfl).trans (ziteC ((xAload_n d198_147 rfl).trans ((xIload_n d198_148 rfl).trans (xInvV [vR 87, vI a2] [] d198_149 zo_198 zml_11_296 rfl rfl rfl (Or.inl ⟨rfl, (Nat.le_of_ble_eq_true rfl)⟩)))) ((xAload_n d198_140 rfl).trans ((xGetI 19 (I 87 19) rfl d198_141 zo_198 zfl_11_125 (by decide) rfl rfl (Or.inl (Nat.le_of_ble_eq_true rfl))).trans ((xIfLe (t := 155) d198_144 rfl).trans (ziteC ((xAload_n d198_155 rfl).trans (xInvV [vR 87] [] d198_156 zo_198 zml_11_159 rfl rfl rfl (Or.inl ⟨rfl, (Nat.le_of_ble_eq_true rfl)⟩))) ((xAload_n d198_147 rfl).trans ((xIload_n d198_148 rfl).trans (xInvV [vR 87, vI a2] [] d198_149 zo_198 zml_11_296 rfl rfl rfl (Or.inl ⟨rfl, (Nat.le_of_ble_eq_true rfl)⟩)))))))))))))))
theorem e198_152 {I : Nat → Int → Int} {b : Bool} {S : Nat} {a1 a2 a3 : Int} {w4 w5 : zV} : zX 198 152 [vR 87, vI a1, vI a2, vI a3, w4, w5] [] (I, zRs b, 103, S) = zX 198 129 [vR 87, vI a1, vI a2, vI a3, w4, w5] [] (I, zRs b, 103, S) := xGoto (t := 129) d198_152 rfl
theorem e198_159 {I : Nat → Int → Int} {b : Bool} {S : Nat} {a1 a2 a3 : Int} {w4 w5 : zV} : zX 198 159 [vR 87, vI a1, vI a2, vI a3, w4, w5] [] (I, zRs b, 103, S) = some (some (vI (I 88 1)), (I, zRs b, 103, S)) := (xAload_n d198_159 rfl).trans ((xGetR 0 88 d198_160 zo_198 zfl_11_7 rfl rfl rfl (Or.inl (Nat.le_of_ble_eq_true rfl))).trans ((xIconst d198_163).trans ((xIald (N := 234) (I 88 1) rfl d198_164 rfl (Or.inl (Nat.le_of_ble_eq_true rfl)) rfl).trans ((if_pos (by decide)).trans (xIret d198_165 zret_198)))))
theorem run199 {h : zH} {x0 : Int} : zrun 199 [vR 87, vI x0] h = zX 199 0 [vR 87, vI x0, none, none] [] h := rfl
theorem e199_0 {I : Nat → Int → Int} {b : Bool} {S : Nat} {x0 : Int} : zX 199 0 [vR 87, vI x0, none, none] [] (I, zRs b, 103, S) = (zrun 125 [vL x0, vL 0, vL 1] (I, zRs b, 103, S)).bind (fun q => zX 199 7 [vR 87, vI x0, none, none] (zpush q.1 []) q.2) := (xIload_n d199_0 rfl).trans ((xI2l d199_1).trans ((xLconst d199_2).trans ((xLconst d199_3).trans (xInvS [vL x0, vL 0, vL 1] [] d199_4 zo_199 zml_11_64 rfl rfl))))
theorem e199_7 {I : Nat → Int → Int} {b : Bool} {S : Nat} {a1 t0 : Int} : zX 199 7 [vR 87, vI a1, none, none] [vI t0] (I, zRs b, 103, S) = if t0 = 0 then some (some (vI (-1)), (I, zRs b, 103, S)) else if 0 ≤ a1 ∧ a1 < 2 then (zrun 126 [vI (I 95 a1)] (I, zRs b, 103, S)).bind (fun q => zX 199 21 [vR 87, vI a1, none, none] (zpush q.1 []) q.2) else none := (xIfNe (t := 12) d199_7 rfl).trans (ziteC ((xIconst d199_10).trans (xIret d199_11 zret_199)) ((xAload_n d199_12 rfl).trans ((xGetR 8 95 d199_13 zo_199 zfl_11_31 rfl rfl rfl (Or.inl (Nat.le_of_ble_eq_true rfl))).trans ((xIload_n d199_16 rfl).trans ((xBald (N := 2) (I 95 a1) rfl d199_17 (Or.inr rfl) (Or.inl (Nat.le_of_ble_eq_true rfl)) rfl).trans (ziteC (xInvS [vI (I 95 a1)] [] d199_18 zo_199 zml_11_177 rfl rfl) rfl))))))
theorem e199_21 {I : Nat → Int → Int} {b : Bool} {S : Nat} {a1 t0 : Int} : zX 199 21 [vR 87, vI a1, none, none] [vI t0] (I, zRs b, 103, S) = if 0 ≤ a1 ∧ a1 < 2 then zX 199 31 [vR 87, vI a1, vI t0, vI 0] [] ((sI I 95 a1 1), zRs b, 103, S) else none := (xIstore_n d199_21 rfl rfl).trans ((xAload_n d199_22 rfl).trans ((xGetR 8 95 d199_23 zo_199 zfl_11_31 rfl rfl rfl (Or.inl (Nat.le_of_ble_eq_true rfl))).trans ((xIload_n d199_26 rfl).trans ((xIconst d199_27).trans ((xZast (N := 2) d199_28 rfl (Nat.le_of_ble_eq_true rfl) (by decide) rfl).trans (ziteC ((xIconst d199_29).trans (xIstore_n d199_30 rfl rfl)) rfl))))))
theorem e199_31 {I : Nat → Int → Int} {b : Bool} {S : Nat} {a1 a2 a3 : Int} : zX 199 31 [vR 87, vI a1, vI a2, vI a3] [] (I, zRs b, 103, S) = if 392 ≤ a3 then some (some (vI a2), (I, zRs b, 103, S)) else if 0 ≤ a3 ∧ a3 < 392 then if 0 ≤ (wr ((wr (392 * a1)) + a3)) ∧ (wr ((wr (392 * a1)) + a3)) < 784 then zX 199 31 [vR 87, vI a1, vI a2, vI (wr (a3 + 1))] [] ((sI I 94 (wr ((wr (392 * a1)) + a3)) (I 93 a3)), zRs b, 103, S) else none else none := (xIload_n d199_31 rfl).trans ((xSipush d199_32).trans ((xIcmpGe (t := 62) d199_35 rfl).trans (ziteC ((xIload_n d199_62 rfl).trans (xIret d199_63 zret_199)) ((xAload_n d199_38 rfl).trans ((xGetR 7 94 d199_39 zo_199 zfl_11_28 rfl rfl rfl (Or.inl (Nat.le_of_ble_eq_true rfl))).trans ((xSipush d199_42).trans ((xIload_n d199_45 rfl).trans ((xImul d199_46).trans ((xIload_n d199_47 rfl).trans ((xIadd d199_48).trans ((xAload_n d199_49 rfl).trans ((xGetR 6 93 d199_50 zo_199 zfl_11_25 rfl rfl rfl (Or.inl (Nat.le_of_ble_eq_true rfl))).trans ((xIload_n d199_53 rfl).trans ((xIald (N := 392) (I 93 a3) rfl d199_54 rfl (Or.inl (Nat.le_of_ble_eq_true rfl)) rfl).trans (ziteC ((xIast (N := 784) d199_55 rfl (Nat.le_of_ble_eq_true rfl) rfl).trans (ziteC ((xIinc d199_56 rfl rfl rfl).trans (xGoto (t := 31) d199_59 rfl)) rfl)) rfl)))))))))))))))
theorem run200 {h : zH} {x0 : Int} : zrun 200 [vR 87, vI x0] h = zX 200 0 [vR 87, vI x0, none] [] h := rfl
theorem e200_0 {I : Nat → Int → Int} {b : Bool} {S : Nat} {x0 : Int} : zX 200 0 [vR 87, vI x0, none] [] (I, zRs b, 103, S) = (zrun 125 [vL x0, vL 0, vL 1] (I, zRs b, 103, S)).bind (fun q => zX 200 7 [vR 87, vI x0, none] (zpush q.1 []) q.2) := (xIload_n d200_0 rfl).trans ((xI2l d200_1).trans ((xLconst d200_2).trans ((xLconst d200_3).trans (xInvS [vL x0, vL 0, vL 1] [] d200_4 zo_200 zml_11_64 rfl rfl))))
theorem e200_7 {I : Nat → Int → Int} {b : Bool} {S : Nat} {a1 t0 : Int} : zX 200 7 [vR 87, vI a1, none] [vI t0] (I, zRs b, 103, S) = if t0 = 0 then some (some (vI (-1)), (I, zRs b, 103, S)) else if 0 ≤ a1 ∧ a1 < 2 then if (I 95 a1) = 0 then some (some (vI (-2)), (I, zRs b, 103, S)) else zX 200 26 [vR 87, vI a1, vI 0] [] (I, zRs b, 103, S) else none := (xIfNe (t := 12) d200_7 rfl).trans (ziteC ((xIconst d200_10).trans (xIret d200_11 zret_200)) ((xAload_n d200_12 rfl).trans ((xGetR 8 95 d200_13 zo_200 zfl_11_31 rfl rfl rfl (Or.inl (Nat.le_of_ble_eq_true rfl))).trans ((xIload_n d200_16 rfl).trans ((xBald (N := 2) (I 95 a1) rfl d200_17 (Or.inr rfl) (Or.inl (Nat.le_of_ble_eq_true rfl)) rfl).trans (ziteC ((xIfNe (t := 24) d200_18 rfl).trans (ziteC ((xBipush d200_21).trans (xIret d200_23 zret_200)) ((xIconst d200_24).trans (xIstore_n d200_25 rfl rfl)))) rfl))))))
theorem e200_26 {I : Nat → Int → Int} {b : Bool} {S : Nat} {a1 a2 : Int} : zX 200 26 [vR 87, vI a1, vI a2] [] (I, zRs b, 103, S) = if 392 ≤ a2 then some (some (vI (I 93 2)), (I, zRs b, 103, S)) else if 0 ≤ (wr ((wr (392 * a1)) + a2)) ∧ (wr ((wr (392 * a1)) + a2)) < 784 then if 0 ≤ a2 ∧ a2 < 392 then zX 200 26 [vR 87, vI a1, vI (wr (a2 + 1))] [] ((sI I 93 a2 (I 94 (wr ((wr (392 * a1)) + a2)))), zRs b, 103, S) else none else none := (xIload_n d200_26 rfl).trans ((xSipush d200_27).trans ((xIcmpGe (t := 57) d200_30 rfl).trans (ziteC ((xAload_n d200_57 rfl).trans ((xGetR 6 93 d200_58 zo_200 zfl_11_25 rfl rfl rfl (Or.inl (Nat.le_of_ble_eq_true rfl))).trans ((xIconst d200_61).trans ((xIald (N := 392) (I 93 2) rfl d200_62 rfl (Or.inl (Nat.le_of_ble_eq_true rfl)) rfl).trans ((if_pos (by decide)).trans (xIret d200_63 zret_200)))))) ((xAload_n d200_33 rfl).trans ((xGetR 6 93 d200_34 zo_200 zfl_11_25 rfl rfl rfl (Or.inl (Nat.le_of_ble_eq_true rfl))).trans ((xIload_n d200_37 rfl).trans ((xAload_n d200_38 rfl).trans ((xGetR 7 94 d200_39 zo_200 zfl_11_28 rfl rfl rfl (Or.inl (Nat.le_of_ble_eq_true rfl))).trans ((xSipush d200_42).trans ((xIload_n d200_45 rfl).trans ((xImul d200_46).trans ((xIload_n d200_47 rfl).trans ((xIadd d200_48).trans ((xIald (N := 784) (I 94 (wr ((wr (392 * a1)) + a2))) rfl d200_49 rfl (Or.inl (Nat.le_of_ble_eq_true rfl)) rfl).trans (ziteC ((xIast (N := 392) d200_50 rfl (Nat.le_of_ble_eq_true rfl) rfl).trans (ziteC ((xIinc d200_51 rfl rfl rfl).trans (xGoto (t := 26) d200_54 rfl)) rfl)) rfl)))))))))))))))
theorem run201 {h : zH} {x0 x1 : Int} : zrun 201 [vI x0, vI x1] h = zX 201 0 [vI x0, vI x1] [] h := rfl
theorem e201_0 {I : Nat → Int → Int} {b : Bool} {S : Nat} {x0 x1 : Int} : zX 201 0 [vI x0, vI x1] [] (I, zRs b, 103, S) = (zrun 125 [vL x0, vL 0, vL 3] (I, zRs b, 103, S)).bind (fun q => zX 201 9 [vI x0, vI x1] (zpush q.1 []) q.2) := (xIload_n d201_0 rfl).trans ((xI2l d201_1).trans ((xLconst d201_2).trans ((xLdc2 d201_3 zo_201 zcl_11_190 (by decide)).trans (xInvS [vL x0, vL 0, vL 3] [] d201_6 zo_201 zml_11_64 rfl rfl))))
theorem e201_9 {I : Nat → Int → Int} {b : Bool} {S : Nat} {a0 a1 t0 : Int} : zX 201 9 [vI a0, vI a1] [vI t0] (I, zRs b, 103, S) = if t0 = 0 then some (some (vI 0), (I, zRs b, 103, S)) else (zrun 125 [vL a1, vL 0, vL 1] (I, zRs b, 103, S)).bind (fun q => zX 201 19 [vI a0, vI a1] (zpush q.1 []) q.2) := (xIfEq (t := 26) d201_9 rfl).trans (ziteC ((xIconst d201_26).trans (xZret d201_27 zret_201 (by decide))) ((xIload_n d201_12 rfl).trans ((xI2l d201_13).trans ((xLconst d201_14).trans ((xLconst d201_15).trans (xInvS [vL a1, vL 0, vL 1] [] d201_16 zo_201 zml_11_64 rfl rfl))))))
theorem e201_19 {I : Nat → Int → Int} {b : Bool} {S : Nat} {a0 a1 t0 : Int} : zX 201 19 [vI a0, vI a1] [vI t0] (I, zRs b, 103, S) = if t0 = 0 then some (some (vI 0), (I, zRs b, 103, S)) else some (some (vI 1), (I, zRs b, 103, S)) := (xIfEq (t := 26) d201_19 rfl).trans (ziteC ((xIconst d201_26).trans (xZret d201_27 zret_201 (by decide))) ((xIconst d201_22).trans ((xGoto (t := 27) d201_23 rfl).trans (xZret d201_27 zret_201 (by decide)))))
theorem run202 {h : zH} {x0 x1 x2 : Int} : zrun 202 [vR 87, vI x0, vI x1, vI x2] h = zX 202 0 [vR 87, vI x0, vI x1, vI x2, none] [] h := rfl
theorem e202_0 {I : Nat → Int → Int} {b : Bool} {S : Nat} {x0 x1 x2 : Int} : zX 202 0 [vR 87, vI x0, vI x1, vI x2, none] [] (I, zRs b, 103, S) = (zrun 201 [vI x0, vI x1] (I, zRs b, 103, S)).bind (fun q => zX 202 5 [vR 87, vI x0, vI x1, vI x2, none] (zpush q.1 []) q.2) := (xIload_n d202_0 rfl).trans ((xIload_n d202_1 rfl).trans (xInvS [vI x0, vI x1] [] d202_2 zo_202 zml_11_299 rfl rfl))
theorem e202_5 {I : Nat → Int → Int} {b : Bool} {S : Nat} {a1 a2 a3 t0 : Int} : zX 202 5 [vR 87, vI a1, vI a2, vI a3, none] [vI t0] (I, zRs b, 103, S) = if t0 = 0 then some (some (vI (-1)), (I, zRs b, 103, S)) else if a3 ≤ 30 then if 0 ≤ a3 then if 0 ≤ a1 ∧ a1 < 4 then if 0 ≤ a1 ∧ a1 < 4 then zX 202 40 [vR 87, vI a1, vI a2, vI a3, vI 0] [] ((sI (sI I 101 a1 a2) 102 a1 a3), zRs b, 103, S) else none else none else some (some (vI (-14)), (I, zRs b, 103, S)) else some (some (vI (-1)), (I, zRs b, 103, S)) := (xIfEq (t := 14) d202_5 rfl).trans (ziteC ((xIconst d202_14).trans (xIret d202_15 zret_202)) ((xIload_n d202_8 rfl).trans ((xBipush d202_9).trans ((xIcmpLe (t := 16) d202_11 rfl).trans (ziteC ((xIload_n d202_16 rfl).trans ((xIfGe (t := 23) d202_17 rfl).trans (ziteC ((xAload_n d202_23 rfl).trans ((xGetR 25 101 d202_24 zo_202 zfl_11_50 rfl rfl rfl (Or.inl (Nat.le_of_ble_eq_true rfl))).trans ((xIload_n d202_27 rfl).trans ((xIload_n d202_28 rfl).trans ((xIast (N := 4) d202_29 rfl (Nat.le_of_ble_eq_true rfl) rfl).trans (ziteC ((xAload_n d202_30 rfl).trans ((xGetR 26 102 d202_31 zo_202 zfl_11_53 rfl rfl rfl (Or.inl (Nat.le_of_ble_eq_true rfl))).trans ((xIload_n d202_34 rfl).trans ((xIload_n d202_35 rfl).trans ((xIast (N := 4) d202_36 rfl (Nat.le_of_ble_eq_true rfl) rfl).trans (ziteC ((xIconst d202_37).trans (xIstore d202_38 rfl rfl)) rfl)))))) rfl)))))) ((xBipush d202_20).trans (xIret d202_22 zret_202))))) ((xIconst d202_14).trans (xIret d202_15 zret_202)))))))
theorem e202_40 {I : Nat → Int → Int} {b : Bool} {S : Nat} {a1 a2 a3 a4 : Int} : zX 202 40 [vR 87, vI a1, vI a2, vI a3, vI a4] [] (I, zRs b, 103, S) = if 30 ≤ a4 then some (some (vI 1), (I, zRs b, 103, S)) else if 0 ≤ (wr ((wr (30 * a1)) + a4)) ∧ (wr ((wr (30 * a1)) + a4)) < 120 then zX 202 40 [vR 87, vI a1, vI a2, vI a3, vI (wr (a4 + 1))] [] ((sI I 103 (wr ((wr (30 * a1)) + a4)) 0), zRs b, 103, S) else none := (xIload d202_40 rfl).trans ((xBipush d202_42).trans ((xIcmpGe (t := 66) d202_44 rfl).trans (ziteC ((xIconst d202_66).trans (xIret d202_67 zret_202)) ((xAload_n d202_47 rfl).trans ((xGetR 27 103 d202_48 zo_202 zfl_11_56 rfl rfl rfl (Or.inl (Nat.le_of_ble_eq_true rfl))).trans ((xBipush d202_51).trans ((xIload_n d202_53 rfl).trans ((xImul d202_54).trans ((xIload d202_55 rfl).trans ((xIadd d202_57).trans ((xIconst d202_58).trans ((xIast (N := 120) d202_59 rfl (Nat.le_of_ble_eq_true rfl) rfl).trans (ziteC ((xIinc d202_60 rfl rfl rfl).trans (xGoto (t := 40) d202_63 rfl)) rfl)))))))))))))
theorem run203 {h : zH} {x0 x1 x2 : Int} : zrun 203 [vR 87, vI x0, vI x1, vI x2] h = zX 203 0 [vR 87, vI x0, vI x1, vI x2] [] h := rfl
theorem e203_0 {I : Nat → Int → Int} {b : Bool} {S : Nat} {x0 x1 x2 : Int} : zX 203 0 [vR 87, vI x0, vI x1, vI x2] [] (I, zRs b, 103, S) = (zrun 201 [vI x0, vI 0] (I, zRs b, 103, S)).bind (fun q => zX 203 5 [vR 87, vI x0, vI x1, vI x2] (zpush q.1 []) q.2) := (xIload_n d203_0 rfl).trans ((xIconst d203_1).trans (xInvS [vI x0, vI 0] [] d203_2 zo_203 zml_11_299 rfl rfl))
theorem e203_5 {I : Nat → Int → Int} {b : Bool} {S : Nat} {a1 a2 a3 t0 : Int} : zX 203 5 [vR 87, vI a1, vI a2, vI a3] [vI t0] (I, zRs b, 103, S) = if t0 = 0 then some (some (vI (-1)), (I, zRs b, 103, S)) else if 0 ≤ a1 ∧ a1 < 4 then if (I 101 a1) = (-4) then some (some (vI (-11)), (I, zRs b, 103, S)) else if 0 ≤ a1 ∧ a1 < 4 then (zrun 125 [vL a2, vL 0, vL (wr ((I 102 a1) - 1))] (I, zRs b, 103, S)).bind (fun q => zX 203 39 [vR 87, vI a1, vI a2, vI a3] (zpush q.1 []) q.2) else none else none := (xIfNe (t := 10) d203_5 rfl).trans (ziteC ((xIconst d203_8).trans (xIret d203_9 zret_203)) ((xAload_n d203_10 rfl).trans ((xGetR 25 101 d203_11 zo_203 zfl_11_50 rfl rfl rfl (Or.inl (Nat.le_of_ble_eq_true rfl))).trans ((xIload_n d203_14 rfl).trans ((xIald (N := 4) (I 101 a1) rfl d203_15 rfl (Or.inl (Nat.le_of_ble_eq_true rfl)) rfl).trans (ziteC ((xBipush d203_16).trans ((xIcmpNe (t := 24) d203_18 rfl).trans (ziteC ((xBipush d203_21).trans (xIret d203_23 zret_203)) ((xIload_n d203_24 rfl).trans ((xI2l d203_25).trans ((xLconst d203_26).trans ((xAload_n d203_27 rfl).trans ((xGetR 26 102 d203_28 zo_203 zfl_11_53 rfl rfl rfl (Or.inl (Nat.le_of_ble_eq_true rfl))).trans ((xIload_n d203_31 rfl).trans ((xIald (N := 4) (I 102 a1) rfl d203_32 rfl (Or.inl (Nat.le_of_ble_eq_true rfl)) rfl).trans (ziteC ((xIconst d203_33).trans ((xIsub d203_34).trans ((xI2l d203_35).trans (xInvS [vL a2, vL 0, vL (wr ((I 102 a1) - 1))] [] d203_36 zo_203 zml_11_64 rfl rfl)))) rfl))))))))))) rfl))))))
theorem e203_39 {I : Nat → Int → Int} {b : Bool} {S : Nat} {a1 a2 a3 t0 : Int} : zX 203 39 [vR 87, vI a1, vI a2, vI a3] [vI t0] (I, zRs b, 103, S) = if t0 = 0 then some (some (vI (-13)), (I, zRs b, 103, S)) else if 0 ≤ a1 ∧ a1 < 4 then if (I 101 a1) = 0 then if 0 ≤ (wr ((wr (30 * a1)) + a2)) ∧ (wr ((wr (30 * a1)) + a2)) < 120 then some (some (vI 1), ((sI I 103 (wr ((wr (30 * a1)) + a2)) (wb a3)), zRs b, 103, S)) else none else if 0 ≤ (wr ((wr (30 * a1)) + a2)) ∧ (wr ((wr (30 * a1)) + a2)) < 120 then some (some (vI 1), ((sI I 103 (wr ((wr (30 * a1)) + a2)) a3), zRs b, 103, S)) else none else none := (xIfNe (t := 45) d203_39 rfl).trans (ziteC ((xBipush d203_42).trans (xIret d203_44 zret_203)) ((xAload_n d203_45 rfl).trans ((xGetR 27 103 d203_46 zo_203 zfl_11_56 rfl rfl rfl (Or.inl (Nat.le_of_ble_eq_true rfl))).trans ((xBipush d203_49).trans ((xIload_n d203_51 rfl).trans ((xImul d203_52).trans ((xIload_n d203_53 rfl).trans ((xIadd d203_54).trans ((xAload_n d203_55 rfl).trans ((xGetR 25 101 d203_56 zo_203 zfl_11_50 rfl rfl rfl (Or.inl (Nat.le_of_ble_eq_true rfl))).trans ((xIload_n d203_59 rfl).trans ((xIald (N := 4) (I 101 a1) rfl d203_60 rfl (Or.inl (Nat.le_of_ble_eq_true rfl)) rfl).trans (ziteC ((xIfNe (t := 69) d203_61 rfl).trans (ziteC ((xIload_n d203_64 rfl).trans ((xI2b d203_65).trans ((xGoto (t := 70) d203_66 rfl).trans ((xIast (N := 120) d203_70 rfl (Nat.le_of_ble_eq_true rfl) rfl).trans (ziteC ((xIconst d203_71).trans (xIret d203_72 zret_203)) rfl))))) ((xIload_n d203_69 rfl).trans ((xIast (N := 120) d203_70 rfl (Nat.le_of_ble_eq_true rfl) rfl).trans (ziteC ((xIconst d203_71).trans (xIret d203_72 zret_203)) rfl))))) rfl)))))))))))))
theorem run204 {h : zH} {x0 x1 x2 x3 : Int} : zrun 204 [vR 87, vI x0, vI x1, vI x2, vI x3] h = zX 204 0 [vR 87, vI x0, vI x1, vI x2, vI x3, none, none, none, none] [] h := rfl
theorem e204_0 {I : Nat → Int → Int} {b : Bool} {S : Nat} {x0 x1 x2 x3 : Int} : zX 204 0 [vR 87, vI x0, vI x1, vI x2, vI x3, none, none, none, none] [] (I, zRs b, 103, S) = (zrun 201 [vI x0, vI x1] (I, zRs b, 103, S)).bind (fun q => zX 204 5 [vR 87, vI x0, vI x1, vI x2, vI x3, none, none, none, none] (zpush q.1 []) q.2) := (xIload_n d204_0 rfl).trans ((xIload_n d204_1 rfl).trans (xInvS [vI x0, vI x1] [] d204_2 zo_204 zml_11_299 rfl rfl))
theorem e204_5 {I : Nat → Int → Int} {b : Bool} {S : Nat} {a1 a2 a3 a4 t0 : Int} : zX 204 5 [vR 87, vI a1, vI a2, vI a3, vI a4, none, none, none, none] [vI t0] (I, zRs b, 103, S) = if t0 = 0 then some (some (vI (-1)), (I, zRs b, 103, S)) else (zrun 125 [vL a4, vL 0, vL 20] (I, zRs b, 103, S)).bind (fun q => zX 204 18 [vR 87, vI a1, vI a2, vI a3, vI a4, none, none, none, none] (zpush q.1 []) q.2) := (xIfEq (t := 21) d204_5 rfl).trans (ziteC ((xIconst d204_21).trans (xIret d204_22 zret_204)) ((xIload d204_8 rfl).trans ((xI2l d204_10).trans ((xLconst d204_11).trans ((xLdc2 d204_12 zo_204 zcl_11_303 (by decide)).trans (xInvS [vL a4, vL 0, vL 20] [] d204_15 zo_204 zml_11_64 rfl rfl))))))
theorem e204_18 {I : Nat → Int → Int} {b : Bool} {S : Nat} {a1 a2 a3 a4 t0 : Int} : zX 204 18 [vR 87, vI a1, vI a2, vI a3, vI a4, none, none, none, none] [vI t0] (I, zRs b, 103, S) = if t0 = 0 then some (some (vI (-1)), (I, zRs b, 103, S)) else zX 204 31 [vR 87, vI a1, vI a2, vI a3, vI a4, vI 0, none, none, none] [] ((sI I 87 28 0), zRs b, 103, S) := (xIfNe (t := 23) d204_18 rfl).trans (ziteC ((xIconst d204_21).trans (xIret d204_22 zret_204)) ((xIconst d204_23).trans ((xIstore d204_24 rfl rfl).trans ((xAload_n d204_26 rfl).trans ((xIconst d204_27).trans (xPutI 28 d204_28 zo_204 zfl_11_305 rfl rfl (Nat.le_of_ble_eq_true rfl) (Or.inl rfl)))))))
theorem e204_31 {I : Nat → Int → Int} {b : Bool} {S : Nat} {a1 a2 a3 a4 a5 : Int} {w6 w8 : zV} : zX 204 31 [vR 87, vI a1, vI a2, vI a3, vI a4, vI a5, w6, none, w8] [] (I, zRs b, 103, S) = if a4 ≤ a5 then some (some (vI a5), (I, zRs b, 103, S)) else if (I 87 28) = 0 then if 0 ≤ a1 ∧ a1 < 4 then if (I 101 a1) = (-4) then zX 204 31 [vR 87, vI a1, vI a2, vI a3, vI a4, vI a5, vL (wl (a3 + a5)), none, w8] [] ((sI I 87 28 1), zRs b, 103, S) else if 0 ≤ a1 ∧ a1 < 4 then if (I 101 a1) = a2 then if 0 ≤ a1 ∧ a1 < 4 then (zrun 125 [vL (wl (a3 + a5)), vL 0, vL (wr ((I 102 a1) - 1))] (I, zRs b, 103, S)).bind (fun q => zX 204 98 [vR 87, vI a1, vI a2, vI a3, vI a4, vI a5, vL (wl (a3 + a5)), none, w8] (zpush q.1 [vR 87]) q.2) else none else zX 204 31 [vR 87, vI a1, vI a2, vI a3, vI a4, vI a5, vL (wl (a3 + a5)), none, w8] [] ((sI I 87 28 2), zRs b, 103, S) else none else none else some (some (vI a5), (I, zRs b, 103, S)) := (xIload d204_31 rfl).trans ((xIload d204_33 rfl).trans ((xIcmpGe (t := 165) d204_35 rfl).trans (ziteC ((xIload d204_165 rfl).trans (xIret d204_167 zret_204)) ((xAload_n d204_38 rfl).trans ((xGetI 28 (I 87 28) rfl d204_39 zo_204 zfl_11_305 (by decide) rfl rfl (Or.inl (Nat.le_of_ble_eq_true rfl))).trans ((xIfNe (t := 165) d204_42 rfl).trans (ziteC ((xIload_n d204_45 rfl).trans ((xI2l d204_46).trans ((xIload d204_47 rfl).trans ((xI2l d204_49).trans ((xLadd d204_50).trans ((xLstore d204_51 rfl rfl).trans ((xAload_n d204_53 rfl).trans ((xAload_n d204_54 rfl).trans ((xGetR 25 101 d204_55 zo_204 zfl_11_50 rfl rfl rfl (Or.inl (Nat.le_of_ble_eq_true rfl))).trans ((xIload_n d204_58 rfl).trans ((xIald (N := 4) (I 101 a1) rfl d204_59 rfl (Or.inl (Nat.le_of_ble_eq_true rfl)) rfl).trans (ziteC ((xBipush d204_60).trans ((xIcmpNe (t := 69) d204_62 rfl).trans (ziteC ((xIconst d204_65).trans ((xGoto (t := 106) d204_66 rfl).trans ((xPutI 28 d204_106 zo_204 zfl_11_305 rfl rfl (Nat.le_of_ble_eq_true rfl) (Or.inl rfl)).trans ((xAload_n d204_109 rfl).trans ((xGetI 28 1 sI_s d204_110 zo_204 zfl_11_305 (by decide) rfl rfl (Or.inl (Nat.le_of_ble_eq_true rfl))).trans ((xIfNe (t := 162) d204_113 rfl).trans ((if_neg (by decide)).trans (xGoto (t := 31) d204_162 rfl)))))))) ((xAload_n d204_69 rfl).trans ((xGetR 25 101 d204_70 zo_204 zfl_11_50 rfl rfl rfl (Or.inl (Nat.le_of_ble_eq_true rfl))).trans ((xIload_n d204_73 rfl).trans ((xIald (N := 4) (I 101 a1) rfl d204_74 rfl (Or.inl (Nat.le_of_ble_eq_true rfl)) rfl).trans (ziteC ((xIload_n d204_75 rfl).trans ((xIcmpEq (t := 83) d204_76 rfl).trans (ziteC ((xLload d204_83 rfl).trans ((xLconst d204_85).trans ((xAload_n d204_86 rfl).trans ((xGetR 26 102 d204_87 zo_204 zfl_11_53 rfl rfl rfl (Or.inl (Nat.le_of_ble_eq_true rfl))).trans ((xIload_n d204_90 rfl).trans ((xIald (N := 4) (I 102 a1) rfl d204_91 rfl (Or.inl (Nat.le_of_ble_eq_true rfl)) rfl).trans (ziteC ((xIconst d204_92).trans ((xIsub d204_93).trans ((xI2l d204_94).trans (xInvS [vL (wl (a3 + a5)), vL 0, vL (wr ((I 102 a1) - 1))] [vR 87] d204_95 zo_204 zml_11_64 rfl rfl)))) rfl))))))) ((xIconst d204_79).trans ((xGoto (t := 106) d204_80 rfl).trans ((xPutI 28 d204_106 zo_204 zfl_11_305 rfl rfl (Nat.le_of_ble_eq_true rfl) (Or.inl rfl)).trans ((xAload_n d204_109 rfl).trans ((xGetI 28 2 sI_s d204_110 zo_204 zfl_11_305 (by decide) rfl rfl (Or.inl (Nat.le_of_ble_eq_true rfl))).trans ((xIfNe (t := 162) d204_113 rfl).trans ((if_neg (by decide)).trans (xGoto (t := 31) d204_162 rfl))))))))))) rfl)))))))) rfl)))))))))))) ((xIload d204_165 rfl).trans (xIret d204_167 zret_204)))))))))
theorem e204_98 {I : Nat → Int → Int} {b : Bool} {S : Nat} {a1 a2 a3 a4 a5 a6 t1 : Int} {w8 : zV} : zX 204 98 [vR 87, vI a1, vI a2, vI a3, vI a4, vI a5, vL a6, none, w8] [vI t1, vR 87] (I, zRs b, 103, S) = if t1 = 0 then zX 204 31 [vR 87, vI a1, vI a2, vI a3, vI a4, vI a5, vL a6, none, w8] [] ((sI I 87 28 3), zRs b, 103, S) else if 0 ≤ (wr ((wr (30 * a1)) + (wr a6))) ∧ (wr ((wr (30 * a1)) + (wr a6))) < 120 then (zrun 125 [vL (I 103 (wr ((wr (30 * a1)) + (wr a6)))), vL 0, vL 3] ((sI I 87 28 0), zRs b, 103, S)).bind (fun q => zX 204 141 [vR 87, vI a1, vI a2, vI a3, vI a4, vI a5, vL a6, none, vI (I 103 (wr ((wr (30 * a1)) + (wr a6))))] (zpush q.1 []) q.2) else none := (xIfEq (t := 105) d204_98 rfl).trans (ziteC ((xIconst d204_105).trans ((xPutI 28 d204_106 zo_204 zfl_11_305 rfl rfl (Nat.le_of_ble_eq_true rfl) (Or.inl rfl)).trans ((xAload_n d204_109 rfl).trans ((xGetI 28 3 sI_s d204_110 zo_204 zfl_11_305 (by decide) rfl rfl (Or.inl (Nat.le_of_ble_eq_true rfl))).trans ((xIfNe (t := 162) d204_113 rfl).trans ((if_neg (by decide)).trans (xGoto (t := 31) d204_162 rfl))))))) ((xIconst d204_101).trans ((xGoto (t := 106) d204_102 rfl).trans ((xPutI 28 d204_106 zo_204 zfl_11_305 rfl rfl (Nat.le_of_ble_eq_true rfl) (Or.inl rfl)).trans ((xAload_n d204_109 rfl).trans ((xGetI 28 0 sI_s d204_110 zo_204 zfl_11_305 (by decide) rfl rfl (Or.inl (Nat.le_of_ble_eq_true rfl))).trans ((xIfNe (t := 162) d204_113 rfl).trans ((if_pos (by decide)).trans ((xAload_n d204_116 rfl).trans ((xGetR 27 103 d204_117 zo_204 zfl_11_56 rfl rfl rfl (Or.inl (Nat.le_of_ble_eq_true rfl))).trans ((xBipush d204_120).trans ((xIload_n d204_122 rfl).trans ((xImul d204_123).trans ((xLload d204_124 rfl).trans ((xL2i d204_126).trans ((xIadd d204_127).trans ((xIald (N := 120) (I 103 (wr ((wr (30 * a1)) + (wr a6)))) (sI_p (by decide)) d204_128 rfl (Or.inl (Nat.le_of_ble_eq_true rfl)) rfl).trans (ziteC ((xIstore d204_129 rfl rfl).trans ((xIload d204_131 rfl).trans ((xI2l d204_133).trans ((xLconst d204_134).trans ((xLdc2 d204_135 zo_204 zcl_11_190 (by decide)).trans (xInvS [vL (I 103 (wr ((wr (30 * a1)) + (wr a6)))), vL 0, vL 3] [] d204_138 zo_204 zml_11_64 rfl rfl)))))) rfl))))))))))))))))))
theorem e204_141 {I : Nat → Int → Int} {b : Bool} {S : Nat} {a1 a2 a3 a4 a5 a6 a8 t0 : Int} : zX 204 141 [vR 87, vI a1, vI a2, vI a3, vI a4, vI a5, vL a6, none, vI a8] [vI t0] (I, zRs b, 103, S) = if t0 = 0 then (zrun 179 [vR 87] (I, zRs b, 103, S)).bind (fun q => zX 204 159 [vR 87, vI a1, vI a2, vI a3, vI a4, vI a5, vL a6, none, vI a8] (zpush q.1 []) q.2) else if 0 ≤ (wr (9 + a8)) ∧ (wr (9 + a8)) < 392 then (zrun 179 [vR 87] ((sI I 93 (wr (9 + a8)) 1), zRs b, 103, S)).bind (fun q => zX 204 159 [vR 87, vI a1, vI a2, vI a3, vI a4, vI a5, vL a6, none, vI a8] (zpush q.1 []) q.2) else none := (xIfEq (t := 155) d204_141 rfl).trans (ziteC ((xAload_n d204_155 rfl).trans (xInvV [vR 87] [] d204_156 zo_204 zml_11_272 rfl rfl rfl (Or.inl ⟨rfl, (Nat.le_of_ble_eq_true rfl)⟩))) ((xAload_n d204_144 rfl).trans ((xGetR 6 93 d204_145 zo_204 zfl_11_25 rfl rfl rfl (Or.inl (Nat.le_of_ble_eq_true rfl))).trans ((xBipush d204_148).trans ((xIload d204_150 rfl).trans ((xIadd d204_152).trans ((xIconst d204_153).trans ((xIast (N := 392) d204_154 rfl (Nat.le_of_ble_eq_true rfl) rfl).trans (ziteC ((xAload_n d204_155 rfl).trans (xInvV [vR 87] [] d204_156 zo_204 zml_11_272 rfl rfl rfl (Or.inl ⟨rfl, (Nat.le_of_ble_eq_true rfl)⟩))) rfl)))))))))
theorem e204_159 {I : Nat → Int → Int} {b : Bool} {S : Nat} {a1 a2 a3 a4 a5 a6 a8 : Int} : zX 204 159 [vR 87, vI a1, vI a2, vI a3, vI a4, vI a5, vL a6, none, vI a8] [] (I, zRs b, 103, S) = zX 204 31 [vR 87, vI a1, vI a2, vI a3, vI a4, vI (wr (a5 + 1)), vL a6, none, vI a8] [] (I, zRs b, 103, S) := (xIinc d204_159 rfl rfl rfl).trans (xGoto (t := 31) d204_162 rfl)
theorem run205 {h : zH} : zrun 205 [vR 87] h = zX 205 0 [vR 87] [] h := rfl
theorem e205_0 {I : Nat → Int → Int} {b : Bool} {S : Nat} : zX 205 0 [vR 87] [] (I, zRs b, 103, S) = some (some (vI (I 87 28)), (I, zRs b, 103, S)) := (xAload_n d205_0 rfl).trans ((xGetI 28 (I 87 28) rfl d205_1 zo_205 zfl_11_305 (by decide) rfl rfl (Or.inl (Nat.le_of_ble_eq_true rfl))).trans (xIret d205_4 zret_205))
theorem run206 {h : zH} {x0 : Int} : zrun 206 [vR 87, vI x0] h = zX 206 0 [vR 87, vI x0] [] h := rfl
theorem e206_0 {I : Nat → Int → Int} {b : Bool} {S : Nat} {x0 : Int} : zX 206 0 [vR 87, vI x0] [] (I, zRs b, 103, S) = if x0 = 0 then (zrun 126 [vI (I 95 0)] (I, zRs b, 103, S)).bind (fun q => zX 206 37 [vR 87, vI x0] (zpush q.1 []) q.2) else if x0 = 1 then some (some (vI (I 87 10)), (I, zRs b, 103, S)) else if x0 = 2 then if (I 101 0) = (-4) then some (some (vI (-4)), (I, zRs b, 103, S)) else some (some (vI (I 102 0)), (I, zRs b, 103, S)) else some (some (vI (-1)), (I, zRs b, 103, S)) := (xIload_n d206_0 rfl).trans ((xTab [(0, 28), (1, 48), (2, 53)] 76 d206_1 rfl).trans (ziteC ((xAload_n d206_28 rfl).trans ((xGetR 8 95 d206_29 zo_206 zfl_11_31 rfl rfl rfl (Or.inl (Nat.le_of_ble_eq_true rfl))).trans ((xIconst d206_32).trans ((xBald (N := 2) (I 95 0) rfl d206_33 (Or.inr rfl) (Or.inl (Nat.le_of_ble_eq_true rfl)) rfl).trans ((if_pos (by decide)).trans (xInvS [vI (I 95 0)] [] d206_34 zo_206 zml_11_177 rfl rfl)))))) (ziteC ((xAload_n d206_48 rfl).trans ((xGetI 10 (I 87 10) rfl d206_49 zo_206 zfl_11_68 (by decide) rfl rfl (Or.inl (Nat.le_of_ble_eq_true rfl))).trans (xIret d206_52 zret_206))) (ziteC ((xAload_n d206_53 rfl).trans ((xGetR 25 101 d206_54 zo_206 zfl_11_50 rfl rfl rfl (Or.inl (Nat.le_of_ble_eq_true rfl))).trans ((xIconst d206_57).trans ((xIald (N := 4) (I 101 0) rfl d206_58 rfl (Or.inl (Nat.le_of_ble_eq_true rfl)) rfl).trans ((if_pos (by decide)).trans ((xBipush d206_59).trans ((xIcmpNe (t := 69) d206_61 rfl).trans (ziteC ((xBipush d206_64).trans ((xGoto (t := 75) d206_66 rfl).trans (xIret d206_75 zret_206))) ((xAload_n d206_69 rfl).trans ((xGetR 26 102 d206_70 zo_206 zfl_11_53 rfl rfl rfl (Or.inl (Nat.le_of_ble_eq_true rfl))).trans ((xIconst d206_73).trans ((xIald (N := 4) (I 102 0) rfl d206_74 rfl (Or.inl (Nat.le_of_ble_eq_true rfl)) rfl).trans ((if_pos (by decide)).trans (xIret d206_75 zret_206)))))))))))))) ((xIconst d206_76).trans (xIret d206_77 zret_206))))))
theorem e206_37 {I : Nat → Int → Int} {b : Bool} {S : Nat} {a1 t0 : Int} : zX 206 37 [vR 87, vI a1] [vI t0] (I, zRs b, 103, S) = (zrun 126 [vI (I 95 1)] (I, zRs b, 103, S)).bind (fun q => zX 206 46 [vR 87, vI a1] (zpush q.1 [vI t0]) q.2) := (xAload_n d206_37 rfl).trans ((xGetR 8 95 d206_38 zo_206 zfl_11_31 rfl rfl rfl (Or.inl (Nat.le_of_ble_eq_true rfl))).trans ((xIconst d206_41).trans ((xBald (N := 2) (I 95 1) rfl d206_42 (Or.inr rfl) (Or.inl (Nat.le_of_ble_eq_true rfl)) rfl).trans ((if_pos (by decide)).trans (xInvS [vI (I 95 1)] [vI t0] d206_43 zo_206 zml_11_177 rfl rfl)))))
theorem e206_46 {I : Nat → Int → Int} {b : Bool} {S : Nat} {a1 t0 t1 : Int} : zX 206 46 [vR 87, vI a1] [vI t1, vI t0] (I, zRs b, 103, S) = some (some (vI (wr (t0 + t1))), (I, zRs b, 103, S)) := (xIadd d206_46).trans (xIret d206_47 zret_206)
