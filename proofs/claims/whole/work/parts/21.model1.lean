theorem zo_139 : zo 139 = 11 := by decide +kernel
theorem zret_139 : zret 139 = none := by decide +kernel
theorem d139_0 : decode (zb 139) 0 = .ok (.aload_n 0, 1) := by decide +kernel
theorem d139_1 : decode (zb 139) 1 = .ok (.aload_n 0, 1) := by decide +kernel
theorem d139_2 : decode (zb 139) 2 = .ok (.getfield 13, 3) := by decide +kernel
theorem d139_5 : decode (zb 139) 5 = .ok (.iconst 0, 1) := by decide +kernel
theorem d139_6 : decode (zb 139) 6 = .ok (.iaload, 1) := by decide +kernel
theorem d139_7 : decode (zb 139) 7 = .ok (.bipush 8, 2) := by decide +kernel
theorem d139_9 : decode (zb 139) 9 = .ok (.if_icmp .ge 7, 3) := by decide +kernel
theorem d139_12 : decode (zb 139) 12 = .ok (.iconst 1, 1) := by decide +kernel
theorem d139_13 : decode (zb 139) 13 = .ok (.goto 4, 3) := by decide +kernel
theorem d139_16 : decode (zb 139) 16 = .ok (.iconst 0, 1) := by decide +kernel
theorem d139_17 : decode (zb 139) 17 = .ok (.iconst 4, 1) := by decide +kernel
theorem d139_18 : decode (zb 139) 18 = .ok (.invokevirtual 106, 3) := by decide +kernel
theorem d139_21 : decode (zb 139) 21 = .ok (.aload_n 0, 1) := by decide +kernel
theorem d139_22 : decode (zb 139) 22 = .ok (.invokevirtual 110, 3) := by decide +kernel
theorem d139_25 : decode (zb 139) 25 = .ok (.iconst 2, 1) := by decide +kernel
theorem d139_26 : decode (zb 139) 26 = .ok (.bipush 17, 2) := by decide +kernel
theorem d139_28 : decode (zb 139) 28 = .ok (.aload_n 0, 1) := by decide +kernel
theorem d139_29 : decode (zb 139) 29 = .ok (.getfield 13, 3) := by decide +kernel
theorem d139_32 : decode (zb 139) 32 = .ok (.iconst 0, 1) := by decide +kernel
theorem d139_33 : decode (zb 139) 33 = .ok (.iaload, 1) := by decide +kernel
theorem d139_34 : decode (zb 139) 34 = .ok (.bipush 8, 2) := by decide +kernel
theorem d139_36 : decode (zb 139) 36 = .ok (.if_icmp .ge 12, 3) := by decide +kernel
theorem d139_39 : decode (zb 139) 39 = .ok (.aload_n 0, 1) := by decide +kernel
theorem d139_40 : decode (zb 139) 40 = .ok (.getfield 13, 3) := by decide +kernel
theorem d139_43 : decode (zb 139) 43 = .ok (.iconst 0, 1) := by decide +kernel
theorem d139_44 : decode (zb 139) 44 = .ok (.iaload, 1) := by decide +kernel
theorem d139_45 : decode (zb 139) 45 = .ok (.goto 4, 3) := by decide +kernel
theorem d139_48 : decode (zb 139) 48 = .ok (.iconst 0, 1) := by decide +kernel
theorem d139_49 : decode (zb 139) 49 = .ok (.imul, 1) := by decide +kernel
theorem d139_50 : decode (zb 139) 50 = .ok (.iadd, 1) := by decide +kernel
theorem d139_51 : decode (zb 139) 51 = .ok (.istore_n 1, 1) := by decide +kernel
theorem d139_52 : decode (zb 139) 52 = .ok (.aload_n 0, 1) := by decide +kernel
theorem d139_53 : decode (zb 139) 53 = .ok (.getfield 72, 3) := by decide +kernel
theorem d139_56 : decode (zb 139) 56 = .ok (.ifCond .ne 7, 3) := by decide +kernel
theorem d139_59 : decode (zb 139) 59 = .ok (.iconst 1, 1) := by decide +kernel
theorem d139_60 : decode (zb 139) 60 = .ok (.goto 4, 3) := by decide +kernel
theorem d139_63 : decode (zb 139) 63 = .ok (.iconst 0, 1) := by decide +kernel
theorem d139_64 : decode (zb 139) 64 = .ok (.istore_n 2, 1) := by decide +kernel
theorem d139_65 : decode (zb 139) 65 = .ok (.iload_n 2, 1) := by decide +kernel
theorem d139_66 : decode (zb 139) 66 = .ok (.ifCond .eq 107, 3) := by decide +kernel
theorem d139_69 : decode (zb 139) 69 = .ok (.aload_n 0, 1) := by decide +kernel
theorem d139_70 : decode (zb 139) 70 = .ok (.aload_n 0, 1) := by decide +kernel
theorem d139_71 : decode (zb 139) 71 = .ok (.getfield 81, 3) := by decide +kernel
theorem d139_74 : decode (zb 139) 74 = .ok (.iconst 2, 1) := by decide +kernel
theorem d139_75 : decode (zb 139) 75 = .ok (.if_icmp .ne 7, 3) := by decide +kernel
theorem d139_78 : decode (zb 139) 78 = .ok (.iconst 1, 1) := by decide +kernel
theorem d139_79 : decode (zb 139) 79 = .ok (.goto 4, 3) := by decide +kernel
theorem d139_82 : decode (zb 139) 82 = .ok (.iconst 0, 1) := by decide +kernel
theorem d139_83 : decode (zb 139) 83 = .ok (.iconst 2, 1) := by decide +kernel
theorem d139_84 : decode (zb 139) 84 = .ok (.invokevirtual 106, 3) := by decide +kernel
theorem d139_87 : decode (zb 139) 87 = .ok (.aload_n 0, 1) := by decide +kernel
theorem d139_88 : decode (zb 139) 88 = .ok (.aload_n 0, 1) := by decide +kernel
theorem d139_89 : decode (zb 139) 89 = .ok (.getfield 13, 3) := by decide +kernel
theorem d139_92 : decode (zb 139) 92 = .ok (.iload_n 1, 1) := by decide +kernel
theorem d139_93 : decode (zb 139) 93 = .ok (.iaload, 1) := by decide +kernel
theorem d139_94 : decode (zb 139) 94 = .ok (.bipush 16, 2) := by decide +kernel
theorem d139_96 : decode (zb 139) 96 = .ok (.if_icmp .ge 7, 3) := by decide +kernel
theorem d139_99 : decode (zb 139) 99 = .ok (.iconst 1, 1) := by decide +kernel
theorem d139_100 : decode (zb 139) 100 = .ok (.goto 4, 3) := by decide +kernel
theorem d139_103 : decode (zb 139) 103 = .ok (.iconst 0, 1) := by decide +kernel
theorem d139_104 : decode (zb 139) 104 = .ok (.iconst 4, 1) := by decide +kernel
theorem d139_105 : decode (zb 139) 105 = .ok (.invokevirtual 106, 3) := by decide +kernel
theorem d139_108 : decode (zb 139) 108 = .ok (.aload_n 0, 1) := by decide +kernel
theorem d139_109 : decode (zb 139) 109 = .ok (.iconst 0, 1) := by decide +kernel
theorem d139_110 : decode (zb 139) 110 = .ok (.bipush 99, 2) := by decide +kernel
theorem d139_112 : decode (zb 139) 112 = .ok (.invokevirtual 117, 3) := by decide +kernel
theorem d139_115 : decode (zb 139) 115 = .ok (.istore_n 3, 1) := by decide +kernel
theorem d139_116 : decode (zb 139) 116 = .ok (.aload_n 0, 1) := by decide +kernel
theorem d139_117 : decode (zb 139) 117 = .ok (.getfield 72, 3) := by decide +kernel
theorem d139_120 : decode (zb 139) 120 = .ok (.ifCond .ne 29, 3) := by decide +kernel
theorem d139_123 : decode (zb 139) 123 = .ok (.aload_n 0, 1) := by decide +kernel
theorem d139_124 : decode (zb 139) 124 = .ok (.getfield 13, 3) := by decide +kernel
theorem d139_127 : decode (zb 139) 127 = .ok (.iload_n 1, 1) := by decide +kernel
theorem d139_128 : decode (zb 139) 128 = .ok (.iconst 1, 1) := by decide +kernel
theorem d139_129 : decode (zb 139) 129 = .ok (.iadd, 1) := by decide +kernel
theorem d139_130 : decode (zb 139) 130 = .ok (.aload_n 0, 1) := by decide +kernel
theorem d139_131 : decode (zb 139) 131 = .ok (.getfield 13, 3) := by decide +kernel
theorem d139_134 : decode (zb 139) 134 = .ok (.iload_n 1, 1) := by decide +kernel
theorem d139_135 : decode (zb 139) 135 = .ok (.iaload, 1) := by decide +kernel
theorem d139_136 : decode (zb 139) 136 = .ok (.iadd, 1) := by decide +kernel
theorem d139_137 : decode (zb 139) 137 = .ok (.iload_n 3, 1) := by decide +kernel
theorem d139_138 : decode (zb 139) 138 = .ok (.iastore, 1) := by decide +kernel
theorem d139_139 : decode (zb 139) 139 = .ok (.aload_n 0, 1) := by decide +kernel
theorem d139_140 : decode (zb 139) 140 = .ok (.getfield 13, 3) := by decide +kernel
theorem d139_143 : decode (zb 139) 143 = .ok (.iload_n 1, 1) := by decide +kernel
theorem d139_144 : decode (zb 139) 144 = .ok (.dup2, 1) := by decide +kernel
theorem d139_145 : decode (zb 139) 145 = .ok (.iaload, 1) := by decide +kernel
theorem d139_146 : decode (zb 139) 146 = .ok (.iconst 1, 1) := by decide +kernel
theorem d139_147 : decode (zb 139) 147 = .ok (.iadd, 1) := by decide +kernel
theorem d139_148 : decode (zb 139) 148 = .ok (.iastore, 1) := by decide +kernel
theorem d139_149 : decode (zb 139) 149 = .ok (.aload_n 0, 1) := by decide +kernel
theorem d139_150 : decode (zb 139) 150 = .ok (.getfield 72, 3) := by decide +kernel
theorem d139_153 : decode (zb 139) 153 = .ok (.ifCond .ne 15, 3) := by decide +kernel
theorem d139_156 : decode (zb 139) 156 = .ok (.aload_n 0, 1) := by decide +kernel
theorem d139_157 : decode (zb 139) 157 = .ok (.getfield 81, 3) := by decide +kernel
theorem d139_160 : decode (zb 139) 160 = .ok (.iconst 2, 1) := by decide +kernel
theorem d139_161 : decode (zb 139) 161 = .ok (.if_icmp .ne 7, 3) := by decide +kernel
theorem d139_164 : decode (zb 139) 164 = .ok (.iconst 1, 1) := by decide +kernel
theorem d139_165 : decode (zb 139) 165 = .ok (.goto 4, 3) := by decide +kernel
theorem d139_168 : decode (zb 139) 168 = .ok (.iconst 0, 1) := by decide +kernel
theorem d139_169 : decode (zb 139) 169 = .ok (.istore_n 2, 1) := by decide +kernel
theorem d139_170 : decode (zb 139) 170 = .ok (.goto (-105), 3) := by decide +kernel
theorem d139_173 : decode (zb 139) 173 = .ok (.aload_n 0, 1) := by decide +kernel
theorem d139_174 : decode (zb 139) 174 = .ok (.bipush 59, 2) := by decide +kernel
theorem d139_176 : decode (zb 139) 176 = .ok (.invokevirtual 121, 3) := by decide +kernel
theorem d139_179 : decode (zb 139) 179 = .ok (.aload_n 0, 1) := by decide +kernel
theorem d139_180 : decode (zb 139) 180 = .ok (.getfield 13, 3) := by decide +kernel
theorem d139_183 : decode (zb 139) 183 = .ok (.iconst 0, 1) := by decide +kernel
theorem d139_184 : decode (zb 139) 184 = .ok (.dup2, 1) := by decide +kernel
theorem d139_185 : decode (zb 139) 185 = .ok (.iaload, 1) := by decide +kernel
theorem d139_186 : decode (zb 139) 186 = .ok (.iconst 1, 1) := by decide +kernel
theorem d139_187 : decode (zb 139) 187 = .ok (.iadd, 1) := by decide +kernel
theorem d139_188 : decode (zb 139) 188 = .ok (.iastore, 1) := by decide +kernel
theorem d139_189 : decode (zb 139) 189 = .ok (.return_, 1) := by decide +kernel
theorem zo_140 : zo 140 = 11 := by decide +kernel
theorem zret_140 : zret 140 = none := by decide +kernel
theorem d140_0 : decode (zb 140) 0 = .ok (.sipush 138, 3) := by decide +kernel
theorem d140_3 : decode (zb 140) 3 = .ok (.iconst 4, 1) := by decide +kernel
theorem d140_4 : decode (zb 140) 4 = .ok (.aload_n 0, 1) := by decide +kernel
theorem d140_5 : decode (zb 140) 5 = .ok (.getfield 13, 3) := by decide +kernel
theorem d140_8 : decode (zb 140) 8 = .ok (.iconst 1, 1) := by decide +kernel
theorem d140_9 : decode (zb 140) 9 = .ok (.iaload, 1) := by decide +kernel
theorem d140_10 : decode (zb 140) 10 = .ok (.imul, 1) := by decide +kernel
theorem d140_11 : decode (zb 140) 11 = .ok (.iadd, 1) := by decide +kernel
theorem d140_12 : decode (zb 140) 12 = .ok (.istore 4, 2) := by decide +kernel
theorem d140_14 : decode (zb 140) 14 = .ok (.aload_n 0, 1) := by decide +kernel
theorem d140_15 : decode (zb 140) 15 = .ok (.getfield 13, 3) := by decide +kernel
theorem d140_18 : decode (zb 140) 18 = .ok (.iload 4, 2) := by decide +kernel
theorem d140_20 : decode (zb 140) 20 = .ok (.iload_n 1, 1) := by decide +kernel
theorem d140_21 : decode (zb 140) 21 = .ok (.iastore, 1) := by decide +kernel
theorem d140_22 : decode (zb 140) 22 = .ok (.aload_n 0, 1) := by decide +kernel
theorem d140_23 : decode (zb 140) 23 = .ok (.getfield 13, 3) := by decide +kernel
theorem d140_26 : decode (zb 140) 26 = .ok (.iload 4, 2) := by decide +kernel
theorem d140_28 : decode (zb 140) 28 = .ok (.iconst 1, 1) := by decide +kernel
theorem d140_29 : decode (zb 140) 29 = .ok (.iadd, 1) := by decide +kernel
theorem d140_30 : decode (zb 140) 30 = .ok (.iload_n 2, 1) := by decide +kernel
theorem d140_31 : decode (zb 140) 31 = .ok (.iastore, 1) := by decide +kernel
theorem d140_32 : decode (zb 140) 32 = .ok (.aload_n 0, 1) := by decide +kernel
theorem d140_33 : decode (zb 140) 33 = .ok (.getfield 13, 3) := by decide +kernel
theorem d140_36 : decode (zb 140) 36 = .ok (.iload 4, 2) := by decide +kernel
theorem d140_38 : decode (zb 140) 38 = .ok (.iconst 2, 1) := by decide +kernel
theorem d140_39 : decode (zb 140) 39 = .ok (.iadd, 1) := by decide +kernel
theorem d140_40 : decode (zb 140) 40 = .ok (.iload_n 3, 1) := by decide +kernel
theorem d140_41 : decode (zb 140) 41 = .ok (.iastore, 1) := by decide +kernel
theorem d140_42 : decode (zb 140) 42 = .ok (.aload_n 0, 1) := by decide +kernel
theorem d140_43 : decode (zb 140) 43 = .ok (.getfield 13, 3) := by decide +kernel
theorem d140_46 : decode (zb 140) 46 = .ok (.iload 4, 2) := by decide +kernel
theorem d140_48 : decode (zb 140) 48 = .ok (.iconst 3, 1) := by decide +kernel
theorem d140_49 : decode (zb 140) 49 = .ok (.iadd, 1) := by decide +kernel
theorem d140_50 : decode (zb 140) 50 = .ok (.aload_n 0, 1) := by decide +kernel
theorem d140_51 : decode (zb 140) 51 = .ok (.getfield 125, 3) := by decide +kernel
theorem d140_54 : decode (zb 140) 54 = .ok (.iastore, 1) := by decide +kernel
theorem d140_55 : decode (zb 140) 55 = .ok (.aload_n 0, 1) := by decide +kernel
theorem d140_56 : decode (zb 140) 56 = .ok (.getfield 13, 3) := by decide +kernel
theorem d140_59 : decode (zb 140) 59 = .ok (.iconst 1, 1) := by decide +kernel
theorem d140_60 : decode (zb 140) 60 = .ok (.dup2, 1) := by decide +kernel
theorem d140_61 : decode (zb 140) 61 = .ok (.iaload, 1) := by decide +kernel
theorem d140_62 : decode (zb 140) 62 = .ok (.iconst 1, 1) := by decide +kernel
theorem d140_63 : decode (zb 140) 63 = .ok (.iadd, 1) := by decide +kernel
theorem d140_64 : decode (zb 140) 64 = .ok (.iastore, 1) := by decide +kernel
theorem d140_65 : decode (zb 140) 65 = .ok (.return_, 1) := by decide +kernel
theorem zo_141 : zo 141 = 11 := by decide +kernel
theorem zret_141 : zret 141 = none := by decide +kernel
theorem d141_0 : decode (zb 141) 0 = .ok (.aload_n 0, 1) := by decide +kernel
theorem d141_1 : decode (zb 141) 1 = .ok (.dup, 1) := by decide +kernel
theorem d141_2 : decode (zb 141) 2 = .ok (.getfield 125, 3) := by decide +kernel
theorem d141_5 : decode (zb 141) 5 = .ok (.iconst 1, 1) := by decide +kernel
theorem d141_6 : decode (zb 141) 6 = .ok (.isub, 1) := by decide +kernel
theorem d141_7 : decode (zb 141) 7 = .ok (.putfield 125, 3) := by decide +kernel
theorem d141_10 : decode (zb 141) 10 = .ok (.aload_n 0, 1) := by decide +kernel
theorem d141_11 : decode (zb 141) 11 = .ok (.getfield 38, 3) := by decide +kernel
theorem d141_14 : decode (zb 141) 14 = .ok (.aload_n 0, 1) := by decide +kernel
theorem d141_15 : decode (zb 141) 15 = .ok (.getfield 125, 3) := by decide +kernel
theorem d141_18 : decode (zb 141) 18 = .ok (.iaload, 1) := by decide +kernel
theorem d141_19 : decode (zb 141) 19 = .ok (.istore_n 1, 1) := by decide +kernel
theorem d141_20 : decode (zb 141) 20 = .ok (.aload_n 0, 1) := by decide +kernel
theorem d141_21 : decode (zb 141) 21 = .ok (.getfield 13, 3) := by decide +kernel
theorem d141_24 : decode (zb 141) 24 = .ok (.sipush 138, 3) := by decide +kernel
theorem d141_27 : decode (zb 141) 27 = .ok (.iconst 4, 1) := by decide +kernel
theorem d141_28 : decode (zb 141) 28 = .ok (.iload_n 1, 1) := by decide +kernel
theorem d141_29 : decode (zb 141) 29 = .ok (.imul, 1) := by decide +kernel
theorem d141_30 : decode (zb 141) 30 = .ok (.iadd, 1) := by decide +kernel
theorem d141_31 : decode (zb 141) 31 = .ok (.iconst 2, 1) := by decide +kernel
theorem d141_32 : decode (zb 141) 32 = .ok (.iadd, 1) := by decide +kernel
theorem d141_33 : decode (zb 141) 33 = .ok (.aload_n 0, 1) := by decide +kernel
theorem d141_34 : decode (zb 141) 34 = .ok (.getfield 13, 3) := by decide +kernel
theorem d141_37 : decode (zb 141) 37 = .ok (.iconst 1, 1) := by decide +kernel
theorem d141_38 : decode (zb 141) 38 = .ok (.iaload, 1) := by decide +kernel
theorem d141_39 : decode (zb 141) 39 = .ok (.iastore, 1) := by decide +kernel
theorem d141_40 : decode (zb 141) 40 = .ok (.aload_n 0, 1) := by decide +kernel
theorem d141_41 : decode (zb 141) 41 = .ok (.iconst 4, 1) := by decide +kernel
theorem d141_42 : decode (zb 141) 42 = .ok (.aload_n 0, 1) := by decide +kernel
theorem d141_43 : decode (zb 141) 43 = .ok (.getfield 13, 3) := by decide +kernel
theorem d141_46 : decode (zb 141) 46 = .ok (.sipush 138, 3) := by decide +kernel
theorem d141_49 : decode (zb 141) 49 = .ok (.iconst 4, 1) := by decide +kernel
theorem d141_50 : decode (zb 141) 50 = .ok (.iload_n 1, 1) := by decide +kernel
theorem d141_51 : decode (zb 141) 51 = .ok (.imul, 1) := by decide +kernel
theorem d141_52 : decode (zb 141) 52 = .ok (.iadd, 1) := by decide +kernel
theorem d141_53 : decode (zb 141) 53 = .ok (.iconst 1, 1) := by decide +kernel
theorem d141_54 : decode (zb 141) 54 = .ok (.iadd, 1) := by decide +kernel
theorem d141_55 : decode (zb 141) 55 = .ok (.iaload, 1) := by decide +kernel
theorem d141_56 : decode (zb 141) 56 = .ok (.iload_n 1, 1) := by decide +kernel
theorem d141_57 : decode (zb 141) 57 = .ok (.invokevirtual 128, 3) := by decide +kernel
theorem d141_60 : decode (zb 141) 60 = .ok (.aload_n 0, 1) := by decide +kernel
theorem d141_61 : decode (zb 141) 61 = .ok (.getfield 125, 3) := by decide +kernel
theorem d141_64 : decode (zb 141) 64 = .ok (.ifCond .le 45, 3) := by decide +kernel
theorem d141_67 : decode (zb 141) 67 = .ok (.aload_n 0, 1) := by decide +kernel
theorem d141_68 : decode (zb 141) 68 = .ok (.getfield 41, 3) := by decide +kernel
theorem d141_71 : decode (zb 141) 71 = .ok (.aload_n 0, 1) := by decide +kernel
theorem d141_72 : decode (zb 141) 72 = .ok (.getfield 125, 3) := by decide +kernel
theorem d141_75 : decode (zb 141) 75 = .ok (.iconst 1, 1) := by decide +kernel
theorem d141_76 : decode (zb 141) 76 = .ok (.isub, 1) := by decide +kernel
theorem d141_77 : decode (zb 141) 77 = .ok (.aload_n 0, 1) := by decide +kernel
theorem d141_78 : decode (zb 141) 78 = .ok (.getfield 41, 3) := by decide +kernel
theorem d141_81 : decode (zb 141) 81 = .ok (.aload_n 0, 1) := by decide +kernel
theorem d141_82 : decode (zb 141) 82 = .ok (.getfield 125, 3) := by decide +kernel
theorem d141_85 : decode (zb 141) 85 = .ok (.iconst 1, 1) := by decide +kernel
theorem d141_86 : decode (zb 141) 86 = .ok (.isub, 1) := by decide +kernel
theorem d141_87 : decode (zb 141) 87 = .ok (.baload, 1) := by decide +kernel
theorem d141_88 : decode (zb 141) 88 = .ok (.ifCond .ne 15, 3) := by decide +kernel
theorem d141_91 : decode (zb 141) 91 = .ok (.aload_n 0, 1) := by decide +kernel
theorem d141_92 : decode (zb 141) 92 = .ok (.getfield 41, 3) := by decide +kernel
theorem d141_95 : decode (zb 141) 95 = .ok (.aload_n 0, 1) := by decide +kernel
theorem d141_96 : decode (zb 141) 96 = .ok (.getfield 125, 3) := by decide +kernel
theorem d141_99 : decode (zb 141) 99 = .ok (.baload, 1) := by decide +kernel
theorem d141_100 : decode (zb 141) 100 = .ok (.ifCond .eq 7, 3) := by decide +kernel
theorem d141_103 : decode (zb 141) 103 = .ok (.iconst 1, 1) := by decide +kernel
theorem d141_104 : decode (zb 141) 104 = .ok (.goto 4, 3) := by decide +kernel
theorem d141_107 : decode (zb 141) 107 = .ok (.iconst 0, 1) := by decide +kernel
theorem d141_108 : decode (zb 141) 108 = .ok (.bastore, 1) := by decide +kernel
theorem d141_109 : decode (zb 141) 109 = .ok (.return_, 1) := by decide +kernel
theorem zo_142 : zo 142 = 11 := by decide +kernel
theorem zret_142 : zret 142 = none := by decide +kernel
theorem d142_0 : decode (zb 142) 0 = .ok (.aload_n 0, 1) := by decide +kernel
theorem d142_1 : decode (zb 142) 1 = .ok (.iload_n 1, 1) := by decide +kernel
theorem d142_2 : decode (zb 142) 2 = .ok (.iload_n 2, 1) := by decide +kernel
theorem d142_3 : decode (zb 142) 3 = .ok (.bipush (-4), 2) := by decide +kernel
theorem d142_5 : decode (zb 142) 5 = .ok (.invokevirtual 128, 3) := by decide +kernel
theorem d142_8 : decode (zb 142) 8 = .ok (.aload_n 0, 1) := by decide +kernel
theorem d142_9 : decode (zb 142) 9 = .ok (.getfield 38, 3) := by decide +kernel
theorem d142_12 : decode (zb 142) 12 = .ok (.aload_n 0, 1) := by decide +kernel
theorem d142_13 : decode (zb 142) 13 = .ok (.getfield 125, 3) := by decide +kernel
theorem d142_16 : decode (zb 142) 16 = .ok (.aload_n 0, 1) := by decide +kernel
theorem d142_17 : decode (zb 142) 17 = .ok (.getfield 13, 3) := by decide +kernel
theorem d142_20 : decode (zb 142) 20 = .ok (.iconst 1, 1) := by decide +kernel
theorem d142_21 : decode (zb 142) 21 = .ok (.iaload, 1) := by decide +kernel
theorem d142_22 : decode (zb 142) 22 = .ok (.iconst 1, 1) := by decide +kernel
theorem d142_23 : decode (zb 142) 23 = .ok (.isub, 1) := by decide +kernel
theorem d142_24 : decode (zb 142) 24 = .ok (.iastore, 1) := by decide +kernel
theorem d142_25 : decode (zb 142) 25 = .ok (.aload_n 0, 1) := by decide +kernel
theorem d142_26 : decode (zb 142) 26 = .ok (.getfield 41, 3) := by decide +kernel
theorem d142_29 : decode (zb 142) 29 = .ok (.aload_n 0, 1) := by decide +kernel
theorem d142_30 : decode (zb 142) 30 = .ok (.getfield 125, 3) := by decide +kernel
theorem d142_33 : decode (zb 142) 33 = .ok (.iconst 0, 1) := by decide +kernel
theorem d142_34 : decode (zb 142) 34 = .ok (.bastore, 1) := by decide +kernel
theorem d142_35 : decode (zb 142) 35 = .ok (.aload_n 0, 1) := by decide +kernel
theorem d142_36 : decode (zb 142) 36 = .ok (.dup, 1) := by decide +kernel
theorem d142_37 : decode (zb 142) 37 = .ok (.getfield 125, 3) := by decide +kernel
theorem d142_40 : decode (zb 142) 40 = .ok (.iconst 1, 1) := by decide +kernel
theorem d142_41 : decode (zb 142) 41 = .ok (.iadd, 1) := by decide +kernel
theorem d142_42 : decode (zb 142) 42 = .ok (.putfield 125, 3) := by decide +kernel
theorem d142_45 : decode (zb 142) 45 = .ok (.return_, 1) := by decide +kernel
theorem zo_143 : zo 143 = 11 := by decide +kernel
theorem zret_143 : zret 143 = none := by decide +kernel
theorem d143_0 : decode (zb 143) 0 = .ok (.aload_n 0, 1) := by decide +kernel
theorem d143_1 : decode (zb 143) 1 = .ok (.invokevirtual 110, 3) := by decide +kernel
theorem d143_4 : decode (zb 143) 4 = .ok (.iload_n 1, 1) := by decide +kernel
theorem d143_5 : decode (zb 143) 5 = .ok (.ifCond .ne 54, 3) := by decide +kernel
theorem d143_8 : decode (zb 143) 8 = .ok (.aload_n 0, 1) := by decide +kernel
theorem d143_9 : decode (zb 143) 9 = .ok (.iconst 0, 1) := by decide +kernel
theorem d143_10 : decode (zb 143) 10 = .ok (.aload_n 0, 1) := by decide +kernel
theorem d143_11 : decode (zb 143) 11 = .ok (.getfield 13, 3) := by decide +kernel
theorem d143_14 : decode (zb 143) 14 = .ok (.iconst 0, 1) := by decide +kernel
theorem d143_15 : decode (zb 143) 15 = .ok (.iaload, 1) := by decide +kernel
theorem d143_16 : decode (zb 143) 16 = .ok (.iconst 1, 1) := by decide +kernel
theorem d143_17 : decode (zb 143) 17 = .ok (.isub, 1) := by decide +kernel
theorem d143_18 : decode (zb 143) 18 = .ok (.invokevirtual 117, 3) := by decide +kernel
theorem d143_21 : decode (zb 143) 21 = .ok (.istore_n 2, 1) := by decide +kernel
theorem d143_22 : decode (zb 143) 22 = .ok (.aload_n 0, 1) := by decide +kernel
theorem d143_23 : decode (zb 143) 23 = .ok (.getfield 72, 3) := by decide +kernel
theorem d143_26 : decode (zb 143) 26 = .ok (.ifCond .ne 30, 3) := by decide +kernel
theorem d143_29 : decode (zb 143) 29 = .ok (.aload_n 0, 1) := by decide +kernel
theorem d143_30 : decode (zb 143) 30 = .ok (.iconst 0, 1) := by decide +kernel
theorem d143_31 : decode (zb 143) 31 = .ok (.iload_n 2, 1) := by decide +kernel
theorem d143_32 : decode (zb 143) 32 = .ok (.bipush (-4), 2) := by decide +kernel
theorem d143_34 : decode (zb 143) 34 = .ok (.invokevirtual 128, 3) := by decide +kernel
theorem d143_37 : decode (zb 143) 37 = .ok (.aload_n 0, 1) := by decide +kernel
theorem d143_38 : decode (zb 143) 38 = .ok (.getfield 125, 3) := by decide +kernel
theorem d143_41 : decode (zb 143) 41 = .ok (.ifCond .le 15, 3) := by decide +kernel
theorem d143_44 : decode (zb 143) 44 = .ok (.aload_n 0, 1) := by decide +kernel
theorem d143_45 : decode (zb 143) 45 = .ok (.getfield 41, 3) := by decide +kernel
theorem d143_48 : decode (zb 143) 48 = .ok (.aload_n 0, 1) := by decide +kernel
theorem d143_49 : decode (zb 143) 49 = .ok (.getfield 125, 3) := by decide +kernel
theorem d143_52 : decode (zb 143) 52 = .ok (.iconst 1, 1) := by decide +kernel
theorem d143_53 : decode (zb 143) 53 = .ok (.isub, 1) := by decide +kernel
theorem d143_54 : decode (zb 143) 54 = .ok (.iconst 1, 1) := by decide +kernel
theorem d143_55 : decode (zb 143) 55 = .ok (.bastore, 1) := by decide +kernel
theorem d143_56 : decode (zb 143) 56 = .ok (.goto 113, 3) := by decide +kernel
theorem d143_59 : decode (zb 143) 59 = .ok (.iload_n 1, 1) := by decide +kernel
theorem d143_60 : decode (zb 143) 60 = .ok (.iconst 1, 1) := by decide +kernel
theorem d143_61 : decode (zb 143) 61 = .ok (.if_icmp .ne 29, 3) := by decide +kernel
theorem d143_64 : decode (zb 143) 64 = .ok (.aload_n 0, 1) := by decide +kernel
theorem d143_65 : decode (zb 143) 65 = .ok (.iconst 0, 1) := by decide +kernel
theorem d143_66 : decode (zb 143) 66 = .ok (.bipush 9, 2) := by decide +kernel
theorem d143_68 : decode (zb 143) 68 = .ok (.invokevirtual 117, 3) := by decide +kernel
theorem d143_71 : decode (zb 143) 71 = .ok (.istore_n 2, 1) := by decide +kernel
theorem d143_72 : decode (zb 143) 72 = .ok (.aload_n 0, 1) := by decide +kernel
theorem d143_73 : decode (zb 143) 73 = .ok (.getfield 72, 3) := by decide +kernel
theorem d143_76 : decode (zb 143) 76 = .ok (.ifCond .ne 11, 3) := by decide +kernel
theorem d143_79 : decode (zb 143) 79 = .ok (.aload_n 0, 1) := by decide +kernel
theorem d143_80 : decode (zb 143) 80 = .ok (.iconst 1, 1) := by decide +kernel
theorem d143_81 : decode (zb 143) 81 = .ok (.iload_n 2, 1) := by decide +kernel
theorem d143_82 : decode (zb 143) 82 = .ok (.bipush (-4), 2) := by decide +kernel
theorem d143_84 : decode (zb 143) 84 = .ok (.invokevirtual 128, 3) := by decide +kernel
theorem d143_87 : decode (zb 143) 87 = .ok (.goto 82, 3) := by decide +kernel
theorem d143_90 : decode (zb 143) 90 = .ok (.aload_n 0, 1) := by decide +kernel
theorem d143_91 : decode (zb 143) 91 = .ok (.iload_n 1, 1) := by decide +kernel
theorem d143_92 : decode (zb 143) 92 = .ok (.iconst 2, 1) := by decide +kernel
theorem d143_93 : decode (zb 143) 93 = .ok (.if_icmp .ne 7, 3) := by decide +kernel
theorem d143_96 : decode (zb 143) 96 = .ok (.iconst 1, 1) := by decide +kernel
theorem d143_97 : decode (zb 143) 97 = .ok (.goto 4, 3) := by decide +kernel
theorem d143_100 : decode (zb 143) 100 = .ok (.iconst 0, 1) := by decide +kernel
theorem d143_101 : decode (zb 143) 101 = .ok (.iload_n 1, 1) := by decide +kernel
theorem d143_102 : decode (zb 143) 102 = .ok (.iconst 2, 1) := by decide +kernel
theorem d143_103 : decode (zb 143) 103 = .ok (.if_icmp .ne 8, 3) := by decide +kernel
theorem d143_106 : decode (zb 143) 106 = .ok (.bipush 9, 2) := by decide +kernel
theorem d143_108 : decode (zb 143) 108 = .ok (.goto 4, 3) := by decide +kernel
theorem d143_111 : decode (zb 143) 111 = .ok (.iconst 3, 1) := by decide +kernel
theorem d143_112 : decode (zb 143) 112 = .ok (.invokevirtual 117, 3) := by decide +kernel
theorem d143_115 : decode (zb 143) 115 = .ok (.istore_n 2, 1) := by decide +kernel
theorem d143_116 : decode (zb 143) 116 = .ok (.aload_n 0, 1) := by decide +kernel
theorem d143_117 : decode (zb 143) 117 = .ok (.getfield 72, 3) := by decide +kernel
theorem d143_120 : decode (zb 143) 120 = .ok (.ifCond .ne 32, 3) := by decide +kernel
theorem d143_123 : decode (zb 143) 123 = .ok (.aload_n 0, 1) := by decide +kernel
theorem d143_124 : decode (zb 143) 124 = .ok (.aload_n 0, 1) := by decide +kernel
theorem d143_125 : decode (zb 143) 125 = .ok (.bipush 40, 2) := by decide +kernel
theorem d143_127 : decode (zb 143) 127 = .ok (.invokevirtual 113, 3) := by decide +kernel
theorem d143_130 : decode (zb 143) 130 = .ok (.iconst 2, 1) := by decide +kernel
theorem d143_131 : decode (zb 143) 131 = .ok (.invokevirtual 106, 3) := by decide +kernel
theorem d143_134 : decode (zb 143) 134 = .ok (.aload_n 0, 1) := by decide +kernel
theorem d143_135 : decode (zb 143) 135 = .ok (.aload_n 0, 1) := by decide +kernel
theorem d143_136 : decode (zb 143) 136 = .ok (.getfield 125, 3) := by decide +kernel
theorem d143_139 : decode (zb 143) 139 = .ok (.iconst 4, 1) := by decide +kernel
theorem d143_140 : decode (zb 143) 140 = .ok (.if_icmp .ge 7, 3) := by decide +kernel
theorem d143_143 : decode (zb 143) 143 = .ok (.iconst 1, 1) := by decide +kernel
theorem d143_144 : decode (zb 143) 144 = .ok (.goto 4, 3) := by decide +kernel
theorem d143_147 : decode (zb 143) 147 = .ok (.iconst 0, 1) := by decide +kernel
theorem d143_148 : decode (zb 143) 148 = .ok (.iconst 5, 1) := by decide +kernel
theorem d143_149 : decode (zb 143) 149 = .ok (.invokevirtual 106, 3) := by decide +kernel
theorem d143_152 : decode (zb 143) 152 = .ok (.aload_n 0, 1) := by decide +kernel
theorem d143_153 : decode (zb 143) 153 = .ok (.getfield 72, 3) := by decide +kernel
theorem d143_156 : decode (zb 143) 156 = .ok (.ifCond .ne 9, 3) := by decide +kernel
theorem d143_159 : decode (zb 143) 159 = .ok (.aload_n 0, 1) := by decide +kernel
theorem d143_160 : decode (zb 143) 160 = .ok (.iload_n 1, 1) := by decide +kernel
theorem d143_161 : decode (zb 143) 161 = .ok (.iload_n 2, 1) := by decide +kernel
theorem d143_162 : decode (zb 143) 162 = .ok (.invokevirtual 132, 3) := by decide +kernel
theorem d143_165 : decode (zb 143) 165 = .ok (.aload_n 0, 1) := by decide +kernel
theorem d143_166 : decode (zb 143) 166 = .ok (.invokevirtual 110, 3) := by decide +kernel
theorem d143_169 : decode (zb 143) 169 = .ok (.return_, 1) := by decide +kernel
theorem zo_144 : zo 144 = 11 := by decide +kernel
theorem zret_144 : zret 144 = none := by decide +kernel
theorem d144_0 : decode (zb 144) 0 = .ok (.aload_n 0, 1) := by decide +kernel
theorem d144_1 : decode (zb 144) 1 = .ok (.getfield 72, 3) := by decide +kernel
theorem d144_4 : decode (zb 144) 4 = .ok (.ifCond .ne 7, 3) := by decide +kernel
theorem d144_7 : decode (zb 144) 7 = .ok (.iconst 1, 1) := by decide +kernel
theorem d144_8 : decode (zb 144) 8 = .ok (.goto 4, 3) := by decide +kernel
theorem d144_11 : decode (zb 144) 11 = .ok (.iconst 0, 1) := by decide +kernel
theorem d144_12 : decode (zb 144) 12 = .ok (.istore_n 1, 1) := by decide +kernel
theorem d144_13 : decode (zb 144) 13 = .ok (.iload_n 1, 1) := by decide +kernel
theorem d144_14 : decode (zb 144) 14 = .ok (.ifCond .eq 133, 3) := by decide +kernel
theorem d144_17 : decode (zb 144) 17 = .ok (.aload_n 0, 1) := by decide +kernel
theorem d144_18 : decode (zb 144) 18 = .ok (.invokevirtual 136, 3) := by decide +kernel
theorem d144_21 : decode (zb 144) 21 = .ok (.istore_n 2, 1) := by decide +kernel
theorem d144_22 : decode (zb 144) 22 = .ok (.aload_n 0, 1) := by decide +kernel
theorem d144_23 : decode (zb 144) 23 = .ok (.bipush 41, 2) := by decide +kernel
theorem d144_25 : decode (zb 144) 25 = .ok (.invokevirtual 113, 3) := by decide +kernel
theorem d144_28 : decode (zb 144) 28 = .ok (.ifCond .eq 14, 3) := by decide +kernel
theorem d144_31 : decode (zb 144) 31 = .ok (.aload_n 0, 1) := by decide +kernel
theorem d144_32 : decode (zb 144) 32 = .ok (.getfield 125, 3) := by decide +kernel
theorem d144_35 : decode (zb 144) 35 = .ok (.ifCond .le 7, 3) := by decide +kernel
theorem d144_38 : decode (zb 144) 38 = .ok (.iconst 1, 1) := by decide +kernel
theorem d144_39 : decode (zb 144) 39 = .ok (.goto 4, 3) := by decide +kernel
theorem d144_42 : decode (zb 144) 42 = .ok (.iconst 0, 1) := by decide +kernel
theorem d144_43 : decode (zb 144) 43 = .ok (.istore_n 3, 1) := by decide +kernel
theorem d144_44 : decode (zb 144) 44 = .ok (.iload_n 2, 1) := by decide +kernel
theorem d144_45 : decode (zb 144) 45 = .ok (.bipush (-4), 2) := by decide +kernel
theorem d144_47 : decode (zb 144) 47 = .ok (.if_icmp .ne 12, 3) := by decide +kernel
theorem d144_50 : decode (zb 144) 50 = .ok (.iload_n 3, 1) := by decide +kernel
theorem d144_51 : decode (zb 144) 51 = .ok (.ifCond .ne 8, 3) := by decide +kernel
theorem d144_54 : decode (zb 144) 54 = .ok (.iconst 0, 1) := by decide +kernel
theorem d144_55 : decode (zb 144) 55 = .ok (.istore_n 1, 1) := by decide +kernel
theorem d144_56 : decode (zb 144) 56 = .ok (.goto 88, 3) := by decide +kernel
theorem d144_59 : decode (zb 144) 59 = .ok (.aload_n 0, 1) := by decide +kernel
theorem d144_60 : decode (zb 144) 60 = .ok (.aload_n 0, 1) := by decide +kernel
theorem d144_61 : decode (zb 144) 61 = .ok (.getfield 13, 3) := by decide +kernel
theorem d144_64 : decode (zb 144) 64 = .ok (.iconst 1, 1) := by decide +kernel
theorem d144_65 : decode (zb 144) 65 = .ok (.iaload, 1) := by decide +kernel
theorem d144_66 : decode (zb 144) 66 = .ok (.bipush 24, 2) := by decide +kernel
theorem d144_68 : decode (zb 144) 68 = .ok (.if_icmp .ge 7, 3) := by decide +kernel
theorem d144_71 : decode (zb 144) 71 = .ok (.iconst 1, 1) := by decide +kernel
theorem d144_72 : decode (zb 144) 72 = .ok (.goto 4, 3) := by decide +kernel
theorem d144_75 : decode (zb 144) 75 = .ok (.iconst 0, 1) := by decide +kernel
theorem d144_76 : decode (zb 144) 76 = .ok (.iconst 4, 1) := by decide +kernel
theorem d144_77 : decode (zb 144) 77 = .ok (.invokevirtual 106, 3) := by decide +kernel
theorem d144_80 : decode (zb 144) 80 = .ok (.iload_n 3, 1) := by decide +kernel
theorem d144_81 : decode (zb 144) 81 = .ok (.ifCond .eq 38, 3) := by decide +kernel
theorem d144_84 : decode (zb 144) 84 = .ok (.aload_n 0, 1) := by decide +kernel
theorem d144_85 : decode (zb 144) 85 = .ok (.aload_n 0, 1) := by decide +kernel
theorem d144_86 : decode (zb 144) 86 = .ok (.getfield 41, 3) := by decide +kernel
theorem d144_89 : decode (zb 144) 89 = .ok (.aload_n 0, 1) := by decide +kernel
theorem d144_90 : decode (zb 144) 90 = .ok (.getfield 125, 3) := by decide +kernel
theorem d144_93 : decode (zb 144) 93 = .ok (.iconst 1, 1) := by decide +kernel
theorem d144_94 : decode (zb 144) 94 = .ok (.isub, 1) := by decide +kernel
theorem d144_95 : decode (zb 144) 95 = .ok (.baload, 1) := by decide +kernel
theorem d144_96 : decode (zb 144) 96 = .ok (.bipush 6, 2) := by decide +kernel
theorem d144_98 : decode (zb 144) 98 = .ok (.invokevirtual 106, 3) := by decide +kernel
theorem d144_101 : decode (zb 144) 101 = .ok (.aload_n 0, 1) := by decide +kernel
theorem d144_102 : decode (zb 144) 102 = .ok (.getfield 72, 3) := by decide +kernel
theorem d144_105 : decode (zb 144) 105 = .ok (.ifCond .ne 7, 3) := by decide +kernel
theorem d144_108 : decode (zb 144) 108 = .ok (.aload_n 0, 1) := by decide +kernel
theorem d144_109 : decode (zb 144) 109 = .ok (.invokevirtual 140, 3) := by decide +kernel
theorem d144_112 : decode (zb 144) 112 = .ok (.aload_n 0, 1) := by decide +kernel
theorem d144_113 : decode (zb 144) 113 = .ok (.invokevirtual 110, 3) := by decide +kernel
theorem d144_116 : decode (zb 144) 116 = .ok (.goto 15, 3) := by decide +kernel
theorem d144_119 : decode (zb 144) 119 = .ok (.aload_n 0, 1) := by decide +kernel
theorem d144_120 : decode (zb 144) 120 = .ok (.getfield 72, 3) := by decide +kernel
theorem d144_123 : decode (zb 144) 123 = .ok (.ifCond .ne 8, 3) := by decide +kernel
theorem d144_126 : decode (zb 144) 126 = .ok (.aload_n 0, 1) := by decide +kernel
theorem d144_127 : decode (zb 144) 127 = .ok (.iload_n 2, 1) := by decide +kernel
theorem d144_128 : decode (zb 144) 128 = .ok (.invokevirtual 143, 3) := by decide +kernel
theorem d144_131 : decode (zb 144) 131 = .ok (.aload_n 0, 1) := by decide +kernel
theorem d144_132 : decode (zb 144) 132 = .ok (.getfield 72, 3) := by decide +kernel
theorem d144_135 : decode (zb 144) 135 = .ok (.ifCond .ne 7, 3) := by decide +kernel
theorem d144_138 : decode (zb 144) 138 = .ok (.iconst 1, 1) := by decide +kernel
theorem d144_139 : decode (zb 144) 139 = .ok (.goto 4, 3) := by decide +kernel
theorem d144_142 : decode (zb 144) 142 = .ok (.iconst 0, 1) := by decide +kernel
theorem d144_143 : decode (zb 144) 143 = .ok (.istore_n 1, 1) := by decide +kernel
theorem d144_144 : decode (zb 144) 144 = .ok (.goto (-131), 3) := by decide +kernel
theorem d144_147 : decode (zb 144) 147 = .ok (.aload_n 0, 1) := by decide +kernel
theorem d144_148 : decode (zb 144) 148 = .ok (.getfield 72, 3) := by decide +kernel
theorem d144_151 : decode (zb 144) 151 = .ok (.ifCond .ne 20, 3) := by decide +kernel
theorem d144_154 : decode (zb 144) 154 = .ok (.aload_n 0, 1) := by decide +kernel
theorem d144_155 : decode (zb 144) 155 = .ok (.aload_n 0, 1) := by decide +kernel
theorem d144_156 : decode (zb 144) 156 = .ok (.getfield 125, 3) := by decide +kernel
theorem d144_159 : decode (zb 144) 159 = .ok (.ifCond .ne 7, 3) := by decide +kernel
theorem d144_162 : decode (zb 144) 162 = .ok (.iconst 1, 1) := by decide +kernel
theorem d144_163 : decode (zb 144) 163 = .ok (.goto 4, 3) := by decide +kernel
theorem d144_166 : decode (zb 144) 166 = .ok (.iconst 0, 1) := by decide +kernel
theorem d144_167 : decode (zb 144) 167 = .ok (.iconst 2, 1) := by decide +kernel
theorem d144_168 : decode (zb 144) 168 = .ok (.invokevirtual 106, 3) := by decide +kernel
theorem d144_171 : decode (zb 144) 171 = .ok (.aload_n 0, 1) := by decide +kernel
theorem d144_172 : decode (zb 144) 172 = .ok (.bipush 59, 2) := by decide +kernel
theorem d144_174 : decode (zb 144) 174 = .ok (.invokevirtual 121, 3) := by decide +kernel
theorem d144_177 : decode (zb 144) 177 = .ok (.return_, 1) := by decide +kernel
theorem zo_145 : zo 145 = 11 := by decide +kernel
theorem zret_145 : zret 145 = some .int := by decide +kernel
theorem d145_0 : decode (zb 145) 0 = .ok (.aload_n 0, 1) := by decide +kernel
theorem d145_1 : decode (zb 145) 1 = .ok (.iconst 0, 1) := by decide +kernel
theorem d145_2 : decode (zb 145) 2 = .ok (.putfield 72, 3) := by decide +kernel
theorem d145_5 : decode (zb 145) 5 = .ok (.aload_n 0, 1) := by decide +kernel
theorem d145_6 : decode (zb 145) 6 = .ok (.iconst 0, 1) := by decide +kernel
theorem d145_7 : decode (zb 145) 7 = .ok (.putfield 84, 3) := by decide +kernel
theorem d145_10 : decode (zb 145) 10 = .ok (.aload_n 0, 1) := by decide +kernel
theorem d145_11 : decode (zb 145) 11 = .ok (.iconst 0, 1) := by decide +kernel
theorem d145_12 : decode (zb 145) 12 = .ok (.putfield 125, 3) := by decide +kernel
theorem d145_15 : decode (zb 145) 15 = .ok (.iconst 0, 1) := by decide +kernel
theorem d145_16 : decode (zb 145) 16 = .ok (.istore_n 1, 1) := by decide +kernel
theorem d145_17 : decode (zb 145) 17 = .ok (.iload_n 1, 1) := by decide +kernel
theorem d145_18 : decode (zb 145) 18 = .ok (.sipush 234, 3) := by decide +kernel
theorem d145_21 : decode (zb 145) 21 = .ok (.if_icmp .ge 16, 3) := by decide +kernel
theorem d145_24 : decode (zb 145) 24 = .ok (.aload_n 0, 1) := by decide +kernel
theorem d145_25 : decode (zb 145) 25 = .ok (.getfield 13, 3) := by decide +kernel
theorem d145_28 : decode (zb 145) 28 = .ok (.iload_n 1, 1) := by decide +kernel
theorem d145_29 : decode (zb 145) 29 = .ok (.iconst 0, 1) := by decide +kernel
theorem d145_30 : decode (zb 145) 30 = .ok (.iastore, 1) := by decide +kernel
theorem d145_31 : decode (zb 145) 31 = .ok (.iinc 1 1, 3) := by decide +kernel
theorem d145_34 : decode (zb 145) 34 = .ok (.goto (-17), 3) := by decide +kernel
theorem d145_37 : decode (zb 145) 37 = .ok (.aload_n 0, 1) := by decide +kernel
theorem d145_38 : decode (zb 145) 38 = .ok (.invokevirtual 110, 3) := by decide +kernel
theorem d145_41 : decode (zb 145) 41 = .ok (.aload_n 0, 1) := by decide +kernel
theorem d145_42 : decode (zb 145) 42 = .ok (.getfield 72, 3) := by decide +kernel
theorem d145_45 : decode (zb 145) 45 = .ok (.ifCond .ne 17, 3) := by decide +kernel
theorem d145_48 : decode (zb 145) 48 = .ok (.aload_n 0, 1) := by decide +kernel
theorem d145_49 : decode (zb 145) 49 = .ok (.invokevirtual 146, 3) := by decide +kernel
theorem d145_52 : decode (zb 145) 52 = .ok (.ifCond .eq 10, 3) := by decide +kernel
theorem d145_55 : decode (zb 145) 55 = .ok (.aload_n 0, 1) := by decide +kernel
theorem d145_56 : decode (zb 145) 56 = .ok (.invokevirtual 150, 3) := by decide +kernel
theorem d145_59 : decode (zb 145) 59 = .ok (.goto (-18), 3) := by decide +kernel
theorem d145_62 : decode (zb 145) 62 = .ok (.aload_n 0, 1) := by decide +kernel
theorem d145_63 : decode (zb 145) 63 = .ok (.getfield 72, 3) := by decide +kernel
theorem d145_66 : decode (zb 145) 66 = .ok (.ifCond .ne 12, 3) := by decide +kernel
theorem d145_69 : decode (zb 145) 69 = .ok (.aload_n 0, 1) := by decide +kernel
theorem d145_70 : decode (zb 145) 70 = .ok (.aload_n 0, 1) := by decide +kernel
theorem d145_71 : decode (zb 145) 71 = .ok (.invokevirtual 153, 3) := by decide +kernel
theorem d145_74 : decode (zb 145) 74 = .ok (.iconst 2, 1) := by decide +kernel
theorem d145_75 : decode (zb 145) 75 = .ok (.invokevirtual 106, 3) := by decide +kernel
theorem d145_78 : decode (zb 145) 78 = .ok (.aload_n 0, 1) := by decide +kernel
theorem d145_79 : decode (zb 145) 79 = .ok (.invokevirtual 110, 3) := by decide +kernel
theorem d145_82 : decode (zb 145) 82 = .ok (.aload_n 0, 1) := by decide +kernel
theorem d145_83 : decode (zb 145) 83 = .ok (.invokevirtual 156, 3) := by decide +kernel
theorem d145_86 : decode (zb 145) 86 = .ok (.aload_n 0, 1) := by decide +kernel
theorem d145_87 : decode (zb 145) 87 = .ok (.getfield 72, 3) := by decide +kernel
theorem d145_90 : decode (zb 145) 90 = .ok (.ifCond .ne 20, 3) := by decide +kernel
theorem d145_93 : decode (zb 145) 93 = .ok (.aload_n 0, 1) := by decide +kernel
theorem d145_94 : decode (zb 145) 94 = .ok (.aload_n 0, 1) := by decide +kernel
theorem d145_95 : decode (zb 145) 95 = .ok (.getfield 81, 3) := by decide +kernel
theorem d145_98 : decode (zb 145) 98 = .ok (.ifCond .ne 7, 3) := by decide +kernel
theorem d145_101 : decode (zb 145) 101 = .ok (.iconst 1, 1) := by decide +kernel
theorem d145_102 : decode (zb 145) 102 = .ok (.goto 4, 3) := by decide +kernel
theorem d145_105 : decode (zb 145) 105 = .ok (.iconst 0, 1) := by decide +kernel
theorem d145_106 : decode (zb 145) 106 = .ok (.iconst 2, 1) := by decide +kernel
theorem d145_107 : decode (zb 145) 107 = .ok (.invokevirtual 106, 3) := by decide +kernel
theorem d145_110 : decode (zb 145) 110 = .ok (.aload_n 0, 1) := by decide +kernel
theorem d145_111 : decode (zb 145) 111 = .ok (.iconst 0, 1) := by decide +kernel
theorem d145_112 : decode (zb 145) 112 = .ok (.putfield 68, 3) := by decide +kernel
theorem d145_115 : decode (zb 145) 115 = .ok (.aload_n 0, 1) := by decide +kernel
theorem d145_116 : decode (zb 145) 116 = .ok (.getfield 72, 3) := by decide +kernel
theorem d145_119 : decode (zb 145) 119 = .ok (.ifCond .le 11, 3) := by decide +kernel
theorem d145_122 : decode (zb 145) 122 = .ok (.bipush (-10), 2) := by decide +kernel
theorem d145_124 : decode (zb 145) 124 = .ok (.aload_n 0, 1) := by decide +kernel
theorem d145_125 : decode (zb 145) 125 = .ok (.getfield 78, 3) := by decide +kernel
theorem d145_128 : decode (zb 145) 128 = .ok (.isub, 1) := by decide +kernel
theorem d145_129 : decode (zb 145) 129 = .ok (.ireturn, 1) := by decide +kernel
theorem d145_130 : decode (zb 145) 130 = .ok (.aload_n 0, 1) := by decide +kernel
theorem d145_131 : decode (zb 145) 131 = .ok (.invokevirtual 159, 3) := by decide +kernel
theorem d145_134 : decode (zb 145) 134 = .ok (.aload_n 0, 1) := by decide +kernel
theorem d145_135 : decode (zb 145) 135 = .ok (.getfield 7, 3) := by decide +kernel
theorem d145_138 : decode (zb 145) 138 = .ok (.iconst 1, 1) := by decide +kernel
theorem d145_139 : decode (zb 145) 139 = .ok (.iaload, 1) := by decide +kernel
theorem d145_140 : decode (zb 145) 140 = .ok (.ireturn, 1) := by decide +kernel
theorem zo_146 : zo 146 = 11 := by decide +kernel
theorem zret_146 : zret 146 = none := by decide +kernel
theorem d146_0 : decode (zb 146) 0 = .ok (.iconst 0, 1) := by decide +kernel
theorem d146_1 : decode (zb 146) 1 = .ok (.istore_n 1, 1) := by decide +kernel
theorem d146_2 : decode (zb 146) 2 = .ok (.iload_n 1, 1) := by decide +kernel
theorem d146_3 : decode (zb 146) 3 = .ok (.sipush 234, 3) := by decide +kernel
theorem d146_6 : decode (zb 146) 6 = .ok (.if_icmp .ge 21, 3) := by decide +kernel
theorem d146_9 : decode (zb 146) 9 = .ok (.aload_n 0, 1) := by decide +kernel
theorem d146_10 : decode (zb 146) 10 = .ok (.getfield 7, 3) := by decide +kernel
theorem d146_13 : decode (zb 146) 13 = .ok (.iload_n 1, 1) := by decide +kernel
theorem d146_14 : decode (zb 146) 14 = .ok (.aload_n 0, 1) := by decide +kernel
theorem d146_15 : decode (zb 146) 15 = .ok (.getfield 13, 3) := by decide +kernel
theorem d146_18 : decode (zb 146) 18 = .ok (.iload_n 1, 1) := by decide +kernel
theorem d146_19 : decode (zb 146) 19 = .ok (.iaload, 1) := by decide +kernel
theorem d146_20 : decode (zb 146) 20 = .ok (.iastore, 1) := by decide +kernel
theorem d146_21 : decode (zb 146) 21 = .ok (.iinc 1 1, 3) := by decide +kernel
theorem d146_24 : decode (zb 146) 24 = .ok (.goto (-22), 3) := by decide +kernel
theorem d146_27 : decode (zb 146) 27 = .ok (.aload_n 0, 1) := by decide +kernel
theorem d146_28 : decode (zb 146) 28 = .ok (.iconst 0, 1) := by decide +kernel
theorem d146_29 : decode (zb 146) 29 = .ok (.putfield 162, 3) := by decide +kernel
theorem d146_32 : decode (zb 146) 32 = .ok (.iconst 0, 1) := by decide +kernel
theorem d146_33 : decode (zb 146) 33 = .ok (.istore_n 1, 1) := by decide +kernel
theorem d146_34 : decode (zb 146) 34 = .ok (.iload_n 1, 1) := by decide +kernel
theorem d146_35 : decode (zb 146) 35 = .ok (.aload_n 0, 1) := by decide +kernel
theorem d146_36 : decode (zb 146) 36 = .ok (.getfield 7, 3) := by decide +kernel
theorem d146_39 : decode (zb 146) 39 = .ok (.iconst 0, 1) := by decide +kernel
theorem d146_40 : decode (zb 146) 40 = .ok (.iaload, 1) := by decide +kernel
theorem d146_41 : decode (zb 146) 41 = .ok (.if_icmp .ge 14, 3) := by decide +kernel
theorem d146_44 : decode (zb 146) 44 = .ok (.aload_n 0, 1) := by decide +kernel
theorem d146_45 : decode (zb 146) 45 = .ok (.iload_n 1, 1) := by decide +kernel
theorem d146_46 : decode (zb 146) 46 = .ok (.invokevirtual 165, 3) := by decide +kernel
theorem d146_49 : decode (zb 146) 49 = .ok (.iinc 1 1, 3) := by decide +kernel
theorem d146_52 : decode (zb 146) 52 = .ok (.goto (-18), 3) := by decide +kernel
theorem d146_55 : decode (zb 146) 55 = .ok (.aload_n 0, 1) := by decide +kernel
theorem d146_56 : decode (zb 146) 56 = .ok (.getfield 31, 3) := by decide +kernel
theorem d146_59 : decode (zb 146) 59 = .ok (.iconst 0, 1) := by decide +kernel
theorem d146_60 : decode (zb 146) 60 = .ok (.iconst 0, 1) := by decide +kernel
theorem d146_61 : decode (zb 146) 61 = .ok (.bastore, 1) := by decide +kernel
theorem d146_62 : decode (zb 146) 62 = .ok (.aload_n 0, 1) := by decide +kernel
theorem d146_63 : decode (zb 146) 63 = .ok (.getfield 31, 3) := by decide +kernel
theorem d146_66 : decode (zb 146) 66 = .ok (.iconst 1, 1) := by decide +kernel
theorem d146_67 : decode (zb 146) 67 = .ok (.iconst 0, 1) := by decide +kernel
theorem d146_68 : decode (zb 146) 68 = .ok (.bastore, 1) := by decide +kernel
theorem d146_69 : decode (zb 146) 69 = .ok (.aload_n 0, 1) := by decide +kernel
theorem d146_70 : decode (zb 146) 70 = .ok (.invokevirtual 59, 3) := by decide +kernel
theorem d146_73 : decode (zb 146) 73 = .ok (.return_, 1) := by decide +kernel
theorem zo_147 : zo 147 = 11 := by decide +kernel
theorem zret_147 : zret 147 = some .int := by decide +kernel
theorem d147_0 : decode (zb 147) 0 = .ok (.aload_n 0, 1) := by decide +kernel
theorem d147_1 : decode (zb 147) 1 = .ok (.getfield 72, 3) := by decide +kernel
theorem d147_4 : decode (zb 147) 4 = .ok (.ireturn, 1) := by decide +kernel
theorem zo_148 : zo 148 = 11 := by decide +kernel
theorem zret_148 : zret 148 = some .int := by decide +kernel
theorem d148_0 : decode (zb 148) 0 = .ok (.aload_n 0, 1) := by decide +kernel
theorem d148_1 : decode (zb 148) 1 = .ok (.getfield 7, 3) := by decide +kernel
theorem d148_4 : decode (zb 148) 4 = .ok (.iconst 2, 1) := by decide +kernel
theorem d148_5 : decode (zb 148) 5 = .ok (.bipush 17, 2) := by decide +kernel
theorem d148_7 : decode (zb 148) 7 = .ok (.iload_n 1, 1) := by decide +kernel
theorem d148_8 : decode (zb 148) 8 = .ok (.imul, 1) := by decide +kernel
theorem d148_9 : decode (zb 148) 9 = .ok (.iadd, 1) := by decide +kernel
theorem d148_10 : decode (zb 148) 10 = .ok (.iaload, 1) := by decide +kernel
theorem d148_11 : decode (zb 148) 11 = .ok (.ireturn, 1) := by decide +kernel
theorem zo_149 : zo 149 = 11 := by decide +kernel
theorem zret_149 : zret 149 = some .int := by decide +kernel
theorem d149_0 : decode (zb 149) 0 = .ok (.aload_n 0, 1) := by decide +kernel
theorem d149_1 : decode (zb 149) 1 = .ok (.getfield 7, 3) := by decide +kernel
theorem d149_4 : decode (zb 149) 4 = .ok (.iconst 2, 1) := by decide +kernel
theorem d149_5 : decode (zb 149) 5 = .ok (.bipush 17, 2) := by decide +kernel
theorem d149_7 : decode (zb 149) 7 = .ok (.iload_n 1, 1) := by decide +kernel
theorem d149_8 : decode (zb 149) 8 = .ok (.imul, 1) := by decide +kernel
theorem d149_9 : decode (zb 149) 9 = .ok (.iadd, 1) := by decide +kernel
theorem d149_10 : decode (zb 149) 10 = .ok (.iconst 1, 1) := by decide +kernel
theorem d149_11 : decode (zb 149) 11 = .ok (.iadd, 1) := by decide +kernel
theorem d149_12 : decode (zb 149) 12 = .ok (.iload_n 2, 1) := by decide +kernel
theorem d149_13 : decode (zb 149) 13 = .ok (.iadd, 1) := by decide +kernel
theorem d149_14 : decode (zb 149) 14 = .ok (.iaload, 1) := by decide +kernel
theorem d149_15 : decode (zb 149) 15 = .ok (.ireturn, 1) := by decide +kernel
theorem zo_150 : zo 150 = 11 := by decide +kernel
theorem zret_150 : zret 150 = some .int := by decide +kernel
theorem d150_0 : decode (zb 150) 0 = .ok (.iconst 0, 1) := by decide +kernel
theorem d150_1 : decode (zb 150) 1 = .ok (.istore_n 3, 1) := by decide +kernel
theorem d150_2 : decode (zb 150) 2 = .ok (.iload_n 3, 1) := by decide +kernel
theorem d150_3 : decode (zb 150) 3 = .ok (.aload_n 0, 1) := by decide +kernel
theorem d150_4 : decode (zb 150) 4 = .ok (.iload_n 1, 1) := by decide +kernel
theorem d150_5 : decode (zb 150) 5 = .ok (.invokevirtual 168, 3) := by decide +kernel
theorem d150_8 : decode (zb 150) 8 = .ok (.if_icmp .ge 39, 3) := by decide +kernel
theorem d150_11 : decode (zb 150) 11 = .ok (.iload_n 2, 1) := by decide +kernel
theorem d150_12 : decode (zb 150) 12 = .ok (.iload_n 3, 1) := by decide +kernel
theorem d150_13 : decode (zb 150) 13 = .ok (.iadd, 1) := by decide +kernel
theorem d150_14 : decode (zb 150) 14 = .ok (.aload_n 0, 1) := by decide +kernel
theorem d150_15 : decode (zb 150) 15 = .ok (.getfield 162, 3) := by decide +kernel
theorem d150_18 : decode (zb 150) 18 = .ok (.if_icmp .ge 29, 3) := by decide +kernel
theorem d150_21 : decode (zb 150) 21 = .ok (.aload_n 0, 1) := by decide +kernel
theorem d150_22 : decode (zb 150) 22 = .ok (.getfield 16, 3) := by decide +kernel
theorem d150_25 : decode (zb 150) 25 = .ok (.iload_n 2, 1) := by decide +kernel
theorem d150_26 : decode (zb 150) 26 = .ok (.iload_n 3, 1) := by decide +kernel
theorem d150_27 : decode (zb 150) 27 = .ok (.iadd, 1) := by decide +kernel
theorem d150_28 : decode (zb 150) 28 = .ok (.iaload, 1) := by decide +kernel
theorem d150_29 : decode (zb 150) 29 = .ok (.aload_n 0, 1) := by decide +kernel
theorem d150_30 : decode (zb 150) 30 = .ok (.iload_n 1, 1) := by decide +kernel
theorem d150_31 : decode (zb 150) 31 = .ok (.iload_n 3, 1) := by decide +kernel
theorem d150_32 : decode (zb 150) 32 = .ok (.invokevirtual 171, 3) := by decide +kernel
theorem d150_35 : decode (zb 150) 35 = .ok (.if_icmp .eq 6, 3) := by decide +kernel
theorem d150_38 : decode (zb 150) 38 = .ok (.bipush (-4), 2) := by decide +kernel
theorem d150_40 : decode (zb 150) 40 = .ok (.ireturn, 1) := by decide +kernel
theorem d150_41 : decode (zb 150) 41 = .ok (.iinc 3 1, 3) := by decide +kernel
theorem d150_44 : decode (zb 150) 44 = .ok (.goto (-42), 3) := by decide +kernel
theorem d150_47 : decode (zb 150) 47 = .ok (.iload_n 3, 1) := by decide +kernel
theorem d150_48 : decode (zb 150) 48 = .ok (.ireturn, 1) := by decide +kernel
theorem zo_151 : zo 151 = 11 := by decide +kernel
theorem zret_151 : zret 151 = none := by decide +kernel
theorem d151_0 : decode (zb 151) 0 = .ok (.iconst 0, 1) := by decide +kernel
theorem d151_1 : decode (zb 151) 1 = .ok (.istore_n 2, 1) := by decide +kernel
theorem d151_2 : decode (zb 151) 2 = .ok (.iload_n 2, 1) := by decide +kernel
theorem d151_3 : decode (zb 151) 3 = .ok (.aload_n 0, 1) := by decide +kernel
theorem d151_4 : decode (zb 151) 4 = .ok (.getfield 162, 3) := by decide +kernel
theorem d151_7 : decode (zb 151) 7 = .ok (.if_icmp .ge 23, 3) := by decide +kernel
theorem d151_10 : decode (zb 151) 10 = .ok (.aload_n 0, 1) := by decide +kernel
theorem d151_11 : decode (zb 151) 11 = .ok (.iload_n 1, 1) := by decide +kernel
theorem d151_12 : decode (zb 151) 12 = .ok (.iload_n 2, 1) := by decide +kernel
theorem d151_13 : decode (zb 151) 13 = .ok (.invokevirtual 174, 3) := by decide +kernel
theorem d151_16 : decode (zb 151) 16 = .ok (.aload_n 0, 1) := by decide +kernel
theorem d151_17 : decode (zb 151) 17 = .ok (.iload_n 1, 1) := by decide +kernel
theorem d151_18 : decode (zb 151) 18 = .ok (.invokevirtual 168, 3) := by decide +kernel
theorem d151_21 : decode (zb 151) 21 = .ok (.if_icmp .eq 9, 3) := by decide +kernel
theorem d151_24 : decode (zb 151) 24 = .ok (.iinc 2 1, 3) := by decide +kernel
theorem d151_27 : decode (zb 151) 27 = .ok (.goto (-25), 3) := by decide +kernel
theorem d151_30 : decode (zb 151) 30 = .ok (.iload_n 2, 1) := by decide +kernel
theorem d151_31 : decode (zb 151) 31 = .ok (.aload_n 0, 1) := by decide +kernel
theorem d151_32 : decode (zb 151) 32 = .ok (.getfield 162, 3) := by decide +kernel
theorem d151_35 : decode (zb 151) 35 = .ok (.if_icmp .ne 30, 3) := by decide +kernel
theorem d151_38 : decode (zb 151) 38 = .ok (.iconst 0, 1) := by decide +kernel
theorem d151_39 : decode (zb 151) 39 = .ok (.istore_n 2, 1) := by decide +kernel
theorem d151_40 : decode (zb 151) 40 = .ok (.iload_n 2, 1) := by decide +kernel
theorem d151_41 : decode (zb 151) 41 = .ok (.aload_n 0, 1) := by decide +kernel
theorem d151_42 : decode (zb 151) 42 = .ok (.getfield 162, 3) := by decide +kernel
theorem d151_45 : decode (zb 151) 45 = .ok (.if_icmp .ge 20, 3) := by decide +kernel
theorem d151_48 : decode (zb 151) 48 = .ok (.aload_n 0, 1) := by decide +kernel
theorem d151_49 : decode (zb 151) 49 = .ok (.iload_n 1, 1) := by decide +kernel
theorem d151_50 : decode (zb 151) 50 = .ok (.iload_n 2, 1) := by decide +kernel
theorem d151_51 : decode (zb 151) 51 = .ok (.invokevirtual 174, 3) := by decide +kernel
theorem d151_54 : decode (zb 151) 54 = .ok (.bipush (-4), 2) := by decide +kernel
theorem d151_56 : decode (zb 151) 56 = .ok (.if_icmp .ne 9, 3) := by decide +kernel
theorem d151_59 : decode (zb 151) 59 = .ok (.iinc 2 1, 3) := by decide +kernel
theorem d151_62 : decode (zb 151) 62 = .ok (.goto (-22), 3) := by decide +kernel
theorem d151_65 : decode (zb 151) 65 = .ok (.aload_n 0, 1) := by decide +kernel
theorem d151_66 : decode (zb 151) 66 = .ok (.getfield 19, 3) := by decide +kernel
theorem d151_69 : decode (zb 151) 69 = .ok (.iload_n 1, 1) := by decide +kernel
theorem d151_70 : decode (zb 151) 70 = .ok (.iload_n 2, 1) := by decide +kernel
theorem d151_71 : decode (zb 151) 71 = .ok (.iastore, 1) := by decide +kernel
theorem d151_72 : decode (zb 151) 72 = .ok (.aload_n 0, 1) := by decide +kernel
theorem d151_73 : decode (zb 151) 73 = .ok (.getfield 22, 3) := by decide +kernel
theorem d151_76 : decode (zb 151) 76 = .ok (.iload_n 1, 1) := by decide +kernel
theorem d151_77 : decode (zb 151) 77 = .ok (.iconst 0, 1) := by decide +kernel
theorem d151_78 : decode (zb 151) 78 = .ok (.iastore, 1) := by decide +kernel
theorem d151_79 : decode (zb 151) 79 = .ok (.aload_n 0, 1) := by decide +kernel
theorem d151_80 : decode (zb 151) 80 = .ok (.getfield 162, 3) := by decide +kernel
theorem d151_83 : decode (zb 151) 83 = .ok (.iload_n 2, 1) := by decide +kernel
theorem d151_84 : decode (zb 151) 84 = .ok (.isub, 1) := by decide +kernel
theorem d151_85 : decode (zb 151) 85 = .ok (.istore_n 3, 1) := by decide +kernel
theorem d151_86 : decode (zb 151) 86 = .ok (.iload_n 3, 1) := by decide +kernel
theorem d151_87 : decode (zb 151) 87 = .ok (.aload_n 0, 1) := by decide +kernel
theorem d151_88 : decode (zb 151) 88 = .ok (.iload_n 1, 1) := by decide +kernel
theorem d151_89 : decode (zb 151) 89 = .ok (.invokevirtual 168, 3) := by decide +kernel
theorem d151_92 : decode (zb 151) 92 = .ok (.if_icmp .ge 44, 3) := by decide +kernel
theorem d151_95 : decode (zb 151) 95 = .ok (.aload_n 0, 1) := by decide +kernel
theorem d151_96 : decode (zb 151) 96 = .ok (.getfield 16, 3) := by decide +kernel
theorem d151_99 : decode (zb 151) 99 = .ok (.aload_n 0, 1) := by decide +kernel
theorem d151_100 : decode (zb 151) 100 = .ok (.getfield 162, 3) := by decide +kernel
theorem d151_103 : decode (zb 151) 103 = .ok (.aload_n 0, 1) := by decide +kernel
theorem d151_104 : decode (zb 151) 104 = .ok (.iload_n 1, 1) := by decide +kernel
theorem d151_105 : decode (zb 151) 105 = .ok (.iload_n 3, 1) := by decide +kernel
theorem d151_106 : decode (zb 151) 106 = .ok (.invokevirtual 171, 3) := by decide +kernel
theorem d151_109 : decode (zb 151) 109 = .ok (.iastore, 1) := by decide +kernel
theorem d151_110 : decode (zb 151) 110 = .ok (.aload_n 0, 1) := by decide +kernel
theorem d151_111 : decode (zb 151) 111 = .ok (.dup, 1) := by decide +kernel
theorem d151_112 : decode (zb 151) 112 = .ok (.getfield 162, 3) := by decide +kernel
theorem d151_115 : decode (zb 151) 115 = .ok (.iconst 1, 1) := by decide +kernel
theorem d151_116 : decode (zb 151) 116 = .ok (.iadd, 1) := by decide +kernel
theorem d151_117 : decode (zb 151) 117 = .ok (.putfield 162, 3) := by decide +kernel
theorem d151_120 : decode (zb 151) 120 = .ok (.aload_n 0, 1) := by decide +kernel
theorem d151_121 : decode (zb 151) 121 = .ok (.getfield 22, 3) := by decide +kernel
theorem d151_124 : decode (zb 151) 124 = .ok (.iload_n 1, 1) := by decide +kernel
theorem d151_125 : decode (zb 151) 125 = .ok (.dup2, 1) := by decide +kernel
theorem d151_126 : decode (zb 151) 126 = .ok (.iaload, 1) := by decide +kernel
theorem d151_127 : decode (zb 151) 127 = .ok (.iconst 1, 1) := by decide +kernel
theorem d151_128 : decode (zb 151) 128 = .ok (.iadd, 1) := by decide +kernel
theorem d151_129 : decode (zb 151) 129 = .ok (.iastore, 1) := by decide +kernel
theorem d151_130 : decode (zb 151) 130 = .ok (.iinc 3 1, 3) := by decide +kernel
theorem d151_133 : decode (zb 151) 133 = .ok (.goto (-47), 3) := by decide +kernel
theorem d151_136 : decode (zb 151) 136 = .ok (.return_, 1) := by decide +kernel
theorem zo_152 : zo 152 = 11 := by decide +kernel
theorem zret_152 : zret 152 = some .int := by decide +kernel
theorem d152_0 : decode (zb 152) 0 = .ok (.iconst 0, 1) := by decide +kernel
theorem d152_1 : decode (zb 152) 1 = .ok (.istore_n 1, 1) := by decide +kernel
theorem d152_2 : decode (zb 152) 2 = .ok (.iconst 0, 1) := by decide +kernel
theorem d152_3 : decode (zb 152) 3 = .ok (.istore_n 2, 1) := by decide +kernel
theorem d152_4 : decode (zb 152) 4 = .ok (.iload_n 2, 1) := by decide +kernel
theorem d152_5 : decode (zb 152) 5 = .ok (.aload_n 0, 1) := by decide +kernel
theorem d152_6 : decode (zb 152) 6 = .ok (.getfield 7, 3) := by decide +kernel
theorem d152_9 : decode (zb 152) 9 = .ok (.iconst 0, 1) := by decide +kernel
theorem d152_10 : decode (zb 152) 10 = .ok (.iaload, 1) := by decide +kernel
theorem d152_11 : decode (zb 152) 11 = .ok (.if_icmp .ge 17, 3) := by decide +kernel
theorem d152_14 : decode (zb 152) 14 = .ok (.iload_n 1, 1) := by decide +kernel
theorem d152_15 : decode (zb 152) 15 = .ok (.aload_n 0, 1) := by decide +kernel
theorem d152_16 : decode (zb 152) 16 = .ok (.iload_n 2, 1) := by decide +kernel
theorem d152_17 : decode (zb 152) 17 = .ok (.invokevirtual 168, 3) := by decide +kernel
theorem d152_20 : decode (zb 152) 20 = .ok (.iadd, 1) := by decide +kernel
theorem d152_21 : decode (zb 152) 21 = .ok (.istore_n 1, 1) := by decide +kernel
theorem d152_22 : decode (zb 152) 22 = .ok (.iinc 2 1, 3) := by decide +kernel
theorem d152_25 : decode (zb 152) 25 = .ok (.goto (-21), 3) := by decide +kernel
theorem d152_28 : decode (zb 152) 28 = .ok (.iload_n 1, 1) := by decide +kernel
theorem d152_29 : decode (zb 152) 29 = .ok (.ireturn, 1) := by decide +kernel
theorem run139 {h : zH} : zrun 139 [vR 87] h = zX 139 0 [vR 87, none, none, none] [] h := rfl
theorem e139_0 {I : Nat → Int → Int} {b : Bool} {S : Nat} : zX 139 0 [vR 87, none, none, none] [] (I, zRs b, 103, S) = if 8 ≤ (I 89 0) then (zrun 129 [vR 87, vI 0, vI 4] (I, zRs b, 103, S)).bind (fun q => zX 139 21 [vR 87, none, none, none] (zpush q.1 []) q.2) else (zrun 129 [vR 87, vI 1, vI 4] (I, zRs b, 103, S)).bind (fun q => zX 139 21 [vR 87, none, none, none] (zpush q.1 []) q.2) := (xAload_n d139_0 rfl).trans ((xAload_n d139_1 rfl).trans ((xGetR 1 89 d139_2 zo_139 zfl_11_13 rfl rfl rfl (Or.inl (Nat.le_of_ble_eq_true rfl))).trans ((xIconst d139_5).trans ((xIald (N := 234) (I 89 0) rfl d139_6 rfl (Or.inl (Nat.le_of_ble_eq_true rfl)) rfl).trans ((if_pos (by decide)).trans ((xBipush d139_7).trans ((xIcmpGe (t := 16) d139_9 rfl).trans (ziteC ((xIconst d139_16).trans ((xIconst d139_17).trans (xInvV [vR 87, vI 0, vI 4] [] d139_18 zo_139 zml_11_106 rfl rfl rfl (Or.inl ⟨rfl, (Nat.le_of_ble_eq_true rfl)⟩)))) ((xIconst d139_12).trans ((xGoto (t := 17) d139_13 rfl).trans ((xIconst d139_17).trans (xInvV [vR 87, vI 1, vI 4] [] d139_18 zo_139 zml_11_106 rfl rfl rfl (Or.inl ⟨rfl, (Nat.le_of_ble_eq_true rfl)⟩)))))))))))))
theorem e139_21 {I : Nat → Int → Int} {b : Bool} {S : Nat} : zX 139 21 [vR 87, none, none, none] [] (I, zRs b, 103, S) = (zrun 135 [vR 87] (I, zRs b, 103, S)).bind (fun q => zX 139 25 [vR 87, none, none, none] (zpush q.1 []) q.2) := (xAload_n d139_21 rfl).trans (xInvV [vR 87] [] d139_22 zo_139 zml_11_110 rfl rfl rfl (Or.inl ⟨rfl, (Nat.le_of_ble_eq_true rfl)⟩))
theorem e139_25 {I : Nat → Int → Int} {b : Bool} {S : Nat} : zX 139 25 [vR 87, none, none, none] [] (I, zRs b, 103, S) = if 8 ≤ (I 89 0) then if (I 87 15) = 0 then zX 139 65 [vR 87, vI (wr (2 + (wr (17 * 0)))), vI 1, none] [] (I, zRs b, 103, S) else zX 139 65 [vR 87, vI (wr (2 + (wr (17 * 0)))), vI 0, none] [] (I, zRs b, 103, S) else if (I 87 15) = 0 then zX 139 65 [vR 87, vI (wr (2 + (wr (17 * (I 89 0))))), vI 1, none] [] (I, zRs b, 103, S) else zX 139 65 [vR 87, vI (wr (2 + (wr (17 * (I 89 0))))), vI 0, none] [] (I, zRs b, 103, S) := (xIconst d139_25).trans ((xBipush d139_26).trans ((xAload_n d139_28 rfl).trans ((xGetR 1 89 d139_29 zo_139 zfl_11_13 rfl rfl rfl (Or.inl (Nat.le_of_ble_eq_true rfl))).trans ((xIconst d139_32).trans ((xIald (N := 234) (I 89 0) rfl d139_33 rfl (Or.inl (Nat.le_of_ble_eq_true rfl)) rfl).trans ((if_pos (by decide)).trans ((xBipush d139_34).trans ((xIcmpGe (t := 48) d139_36 rfl).trans (ziteC ((xIconst d139_48).trans ((xImul d139_49).trans ((xIadd d139_50).trans ((xIstore_n d139_51 rfl rfl).trans ((xAload_n d139_52 rfl).trans ((xGetI 15 (I 87 15) rfl d139_53 zo_139 zfl_11_72 (by decide) rfl rfl (Or.inl (Nat.le_of_ble_eq_true rfl))).trans ((xIfNe (t := 63) d139_56 rfl).trans (ziteC ((xIconst d139_59).trans ((xGoto (t := 64) d139_60 rfl).trans (xIstore_n d139_64 rfl rfl))) ((xIconst d139_63).trans (xIstore_n d139_64 rfl rfl)))))))))) ((xAload_n d139_39 rfl).trans ((xGetR 1 89 d139_40 zo_139 zfl_11_13 rfl rfl rfl (Or.inl (Nat.le_of_ble_eq_true rfl))).trans ((xIconst d139_43).trans ((xIald (N := 234) (I 89 0) rfl d139_44 rfl (Or.inl (Nat.le_of_ble_eq_true rfl)) rfl).trans ((if_pos (by decide)).trans ((xGoto (t := 49) d139_45 rfl).trans ((xImul d139_49).trans ((xIadd d139_50).trans ((xIstore_n d139_51 rfl rfl).trans ((xAload_n d139_52 rfl).trans ((xGetI 15 (I 87 15) rfl d139_53 zo_139 zfl_11_72 (by decide) rfl rfl (Or.inl (Nat.le_of_ble_eq_true rfl))).trans ((xIfNe (t := 63) d139_56 rfl).trans (ziteC ((xIconst d139_59).trans ((xGoto (t := 64) d139_60 rfl).trans (xIstore_n d139_64 rfl rfl))) ((xIconst d139_63).trans (xIstore_n d139_64 rfl rfl))))))))))))))))))))))))
theorem e139_65 {I : Nat → Int → Int} {b : Bool} {S : Nat} {a1 a2 : Int} {w3 : zV} : zX 139 65 [vR 87, vI a1, vI a2, w3] [] (I, zRs b, 103, S) = if a2 = 0 then (zrun 138 [vR 87, vI 59] (I, zRs b, 103, S)).bind (fun q => zX 139 179 [vR 87, vI a1, vI a2, w3] (zpush q.1 []) q.2) else if (I 87 13) = 2 then (zrun 129 [vR 87, vI 1, vI 2] (I, zRs b, 103, S)).bind (fun q => zX 139 87 [vR 87, vI a1, vI a2, w3] (zpush q.1 []) q.2) else (zrun 129 [vR 87, vI 0, vI 2] (I, zRs b, 103, S)).bind (fun q => zX 139 87 [vR 87, vI a1, vI a2, w3] (zpush q.1 []) q.2) := (xIload_n d139_65 rfl).trans ((xIfEq (t := 173) d139_66 rfl).trans (ziteC ((xAload_n d139_173 rfl).trans ((xBipush d139_174).trans (xInvV [vR 87, vI 59] [] d139_176 zo_139 zml_11_121 rfl rfl rfl (Or.inl ⟨rfl, (Nat.le_of_ble_eq_true rfl)⟩)))) ((xAload_n d139_69 rfl).trans ((xAload_n d139_70 rfl).trans ((xGetI 13 (I 87 13) rfl d139_71 zo_139 zfl_11_81 (by decide) rfl rfl (Or.inl (Nat.le_of_ble_eq_true rfl))).trans ((xIconst d139_74).trans ((xIcmpNe (t := 82) d139_75 rfl).trans (ziteC ((xIconst d139_78).trans ((xGoto (t := 83) d139_79 rfl).trans ((xIconst d139_83).trans (xInvV [vR 87, vI 1, vI 2] [] d139_84 zo_139 zml_11_106 rfl rfl rfl (Or.inl ⟨rfl, (Nat.le_of_ble_eq_true rfl)⟩))))) ((xIconst d139_82).trans ((xIconst d139_83).trans (xInvV [vR 87, vI 0, vI 2] [] d139_84 zo_139 zml_11_106 rfl rfl rfl (Or.inl ⟨rfl, (Nat.le_of_ble_eq_true rfl)⟩))))))))))))
theorem e139_87 {I : Nat → Int → Int} {b : Bool} {S : Nat} {a1 a2 : Int} {w3 : zV} : zX 139 87 [vR 87, vI a1, vI a2, w3] [] (I, zRs b, 103, S) = if 0 ≤ a1 ∧ a1 < 234 then if 16 ≤ (I 89 a1) then (zrun 129 [vR 87, vI 0, vI 4] (I, zRs b, 103, S)).bind (fun q => zX 139 108 [vR 87, vI a1, vI a2, w3] (zpush q.1 []) q.2) else (zrun 129 [vR 87, vI 1, vI 4] (I, zRs b, 103, S)).bind (fun q => zX 139 108 [vR 87, vI a1, vI a2, w3] (zpush q.1 []) q.2) else none := (xAload_n d139_87 rfl).trans ((xAload_n d139_88 rfl).trans ((xGetR 1 89 d139_89 zo_139 zfl_11_13 rfl rfl rfl (Or.inl (Nat.le_of_ble_eq_true rfl))).trans ((xIload_n d139_92 rfl).trans ((xIald (N := 234) (I 89 a1) rfl d139_93 rfl (Or.inl (Nat.le_of_ble_eq_true rfl)) rfl).trans (ziteC ((xBipush d139_94).trans ((xIcmpGe (t := 103) d139_96 rfl).trans (ziteC ((xIconst d139_103).trans ((xIconst d139_104).trans (xInvV [vR 87, vI 0, vI 4] [] d139_105 zo_139 zml_11_106 rfl rfl rfl (Or.inl ⟨rfl, (Nat.le_of_ble_eq_true rfl)⟩)))) ((xIconst d139_99).trans ((xGoto (t := 104) d139_100 rfl).trans ((xIconst d139_104).trans (xInvV [vR 87, vI 1, vI 4] [] d139_105 zo_139 zml_11_106 rfl rfl rfl (Or.inl ⟨rfl, (Nat.le_of_ble_eq_true rfl)⟩)))))))) rfl)))))
theorem e139_108 {I : Nat → Int → Int} {b : Bool} {S : Nat} {a1 a2 : Int} {w3 : zV} : zX 139 108 [vR 87, vI a1, vI a2, w3] [] (I, zRs b, 103, S) = (zrun 137 [vR 87, vI 0, vI 99] (I, zRs b, 103, S)).bind (fun q => zX 139 115 [vR 87, vI a1, vI a2, w3] (zpush q.1 []) q.2) := (xAload_n d139_108 rfl).trans ((xIconst d139_109).trans ((xBipush d139_110).trans (xInvV [vR 87, vI 0, vI 99] [] d139_112 zo_139 zml_11_117 rfl rfl rfl (Or.inl ⟨rfl, (Nat.le_of_ble_eq_true rfl)⟩))))
theorem e139_115 {I : Nat → Int → Int} {b : Bool} {S : Nat} {a1 a2 t0 : Int} {w3 : zV} : zX 139 115 [vR 87, vI a1, vI a2, w3] [vI t0] (I, zRs b, 103, S) = if (I 87 15) = 0 then if 0 ≤ a1 ∧ a1 < 234 then if 0 ≤ (wr ((wr (a1 + 1)) + (I 89 a1))) ∧ (wr ((wr (a1 + 1)) + (I 89 a1))) < 234 then if 0 ≤ a1 ∧ a1 < 234 then if 0 ≤ a1 ∧ a1 < 234 then if (I 87 15) = 0 then if (I 87 13) = 2 then zX 139 65 [vR 87, vI a1, vI 1, vI t0] [] ((sI (sI I 89 (wr ((wr (a1 + 1)) + (I 89 a1))) t0) 89 a1 (wr (((sI I 89 (wr ((wr (a1 + 1)) + (I 89 a1))) t0) 89 a1) + 1))), zRs b, 103, S) else zX 139 65 [vR 87, vI a1, vI 0, vI t0] [] ((sI (sI I 89 (wr ((wr (a1 + 1)) + (I 89 a1))) t0) 89 a1 (wr (((sI I 89 (wr ((wr (a1 + 1)) + (I 89 a1))) t0) 89 a1) + 1))), zRs b, 103, S) else zX 139 65 [vR 87, vI a1, vI 0, vI t0] [] ((sI (sI I 89 (wr ((wr (a1 + 1)) + (I 89 a1))) t0) 89 a1 (wr (((sI I 89 (wr ((wr (a1 + 1)) + (I 89 a1))) t0) 89 a1) + 1))), zRs b, 103, S) else none else none else none else none else if (I 87 15) = 0 then if (I 87 13) = 2 then zX 139 65 [vR 87, vI a1, vI 1, vI t0] [] (I, zRs b, 103, S) else zX 139 65 [vR 87, vI a1, vI 0, vI t0] [] (I, zRs b, 103, S) else zX 139 65 [vR 87, vI a1, vI 0, vI t0] [] (I, zRs b, 103, S) := (xIstore_n d139_115 rfl rfl).trans ((xAload_n d139_116 rfl).trans ((xGetI 15 (I 87 15) rfl d139_117 zo_139 zfl_11_72 (by decide) rfl rfl (Or.inl (Nat.le_of_ble_eq_true rfl))).trans ((xIfNe (t := 149) d139_120 rfl).trans (ziteC ((xAload_n d139_123 rfl).trans ((xGetR 1 89 d139_124 zo_139 zfl_11_13 rfl rfl rfl (Or.inl (Nat.le_of_ble_eq_true rfl))).trans ((xIload_n d139_127 rfl).trans ((xIconst d139_128).trans ((xIadd d139_129).trans ((xAload_n d139_130 rfl).trans ((xGetR 1 89 d139_131 zo_139 zfl_11_13 rfl rfl rfl (Or.inl (Nat.le_of_ble_eq_true rfl))).trans ((xIload_n d139_134 rfl).trans ((xIald (N := 234) (I 89 a1) rfl d139_135 rfl (Or.inl (Nat.le_of_ble_eq_true rfl)) rfl).trans (ziteC ((xIadd d139_136).trans ((xIload_n d139_137 rfl).trans ((xIast (N := 234) d139_138 rfl (Nat.le_of_ble_eq_true rfl) rfl).trans (ziteC ((xAload_n d139_139 rfl).trans ((xGetR 1 89 d139_140 zo_139 zfl_11_13 rfl rfl rfl (Or.inl (Nat.le_of_ble_eq_true rfl))).trans ((xIload_n d139_143 rfl).trans ((xDup2 d139_144 rfl rfl).trans ((xIald (N := 234) ((sI I 89 (wr ((wr (a1 + 1)) + (I 89 a1))) t0) 89 a1) rfl d139_145 rfl (Or.inl (Nat.le_of_ble_eq_true rfl)) rfl).trans (ziteC ((xIconst d139_146).trans ((xIadd d139_147).trans ((xIast (N := 234) d139_148 rfl (Nat.le_of_ble_eq_true rfl) rfl).trans (ziteC ((xAload_n d139_149 rfl).trans ((xGetI 15 (I 87 15) ((sI_p (by decide)).trans (sI_p (by decide))) d139_150 zo_139 zfl_11_72 (by decide) rfl rfl (Or.inl (Nat.le_of_ble_eq_true rfl))).trans ((xIfNe (t := 168) d139_153 rfl).trans (ziteC ((xAload_n d139_156 rfl).trans ((xGetI 13 (I 87 13) ((sI_p (by decide)).trans (sI_p (by decide))) d139_157 zo_139 zfl_11_81 (by decide) rfl rfl (Or.inl (Nat.le_of_ble_eq_true rfl))).trans ((xIconst d139_160).trans ((xIcmpNe (t := 168) d139_161 rfl).trans (ziteC ((xIconst d139_164).trans ((xGoto (t := 169) d139_165 rfl).trans ((xIstore_n d139_169 rfl rfl).trans (xGoto (t := 65) d139_170 rfl)))) ((xIconst d139_168).trans ((xIstore_n d139_169 rfl rfl).trans (xGoto (t := 65) d139_170 rfl)))))))) ((xIconst d139_168).trans ((xIstore_n d139_169 rfl rfl).trans (xGoto (t := 65) d139_170 rfl))))))) rfl)))) rfl)))))) rfl)))) rfl)))))))))) ((xAload_n d139_149 rfl).trans ((xGetI 15 (I 87 15) rfl d139_150 zo_139 zfl_11_72 (by decide) rfl rfl (Or.inl (Nat.le_of_ble_eq_true rfl))).trans ((xIfNe (t := 168) d139_153 rfl).trans (ziteC ((xAload_n d139_156 rfl).trans ((xGetI 13 (I 87 13) rfl d139_157 zo_139 zfl_11_81 (by decide) rfl rfl (Or.inl (Nat.le_of_ble_eq_true rfl))).trans ((xIconst d139_160).trans ((xIcmpNe (t := 168) d139_161 rfl).trans (ziteC ((xIconst d139_164).trans ((xGoto (t := 169) d139_165 rfl).trans ((xIstore_n d139_169 rfl rfl).trans (xGoto (t := 65) d139_170 rfl)))) ((xIconst d139_168).trans ((xIstore_n d139_169 rfl rfl).trans (xGoto (t := 65) d139_170 rfl)))))))) ((xIconst d139_168).trans ((xIstore_n d139_169 rfl rfl).trans (xGoto (t := 65) d139_170 rfl)))))))))))
theorem e139_179 {I : Nat → Int → Int} {b : Bool} {S : Nat} {a1 a2 : Int} {w3 : zV} : zX 139 179 [vR 87, vI a1, vI a2, w3] [] (I, zRs b, 103, S) = some (none, ((sI I 89 0 (wr ((I 89 0) + 1))), zRs b, 103, S)) := (xAload_n d139_179 rfl).trans ((xGetR 1 89 d139_180 zo_139 zfl_11_13 rfl rfl rfl (Or.inl (Nat.le_of_ble_eq_true rfl))).trans ((xIconst d139_183).trans ((xDup2 d139_184 rfl rfl).trans ((xIald (N := 234) (I 89 0) rfl d139_185 rfl (Or.inl (Nat.le_of_ble_eq_true rfl)) rfl).trans ((if_pos (by decide)).trans ((xIconst d139_186).trans ((xIadd d139_187).trans ((xIast (N := 234) d139_188 rfl (Nat.le_of_ble_eq_true rfl) rfl).trans ((if_pos (by decide)).trans (xVret d139_189 zret_139))))))))))
theorem run140 {h : zH} {x0 x1 x2 : Int} : zrun 140 [vR 87, vI x0, vI x1, vI x2] h = zX 140 0 [vR 87, vI x0, vI x1, vI x2, none] [] h := rfl
theorem e140_0 {I : Nat → Int → Int} {b : Bool} {S : Nat} {x0 x1 x2 : Int} : zX 140 0 [vR 87, vI x0, vI x1, vI x2, none] [] (I, zRs b, 103, S) = if 0 ≤ (wr (138 + (wr (4 * (I 89 1))))) ∧ (wr (138 + (wr (4 * (I 89 1))))) < 234 then if 0 ≤ (wr ((wr (138 + (wr (4 * (I 89 1))))) + 1)) ∧ (wr ((wr (138 + (wr (4 * (I 89 1))))) + 1)) < 234 then if 0 ≤ (wr ((wr (138 + (wr (4 * (I 89 1))))) + 2)) ∧ (wr ((wr (138 + (wr (4 * (I 89 1))))) + 2)) < 234 then if 0 ≤ (wr ((wr (138 + (wr (4 * (I 89 1))))) + 3)) ∧ (wr ((wr (138 + (wr (4 * (I 89 1))))) + 3)) < 234 then some (none, ((sI (sI (sI (sI (sI I 89 (wr (138 + (wr (4 * (I 89 1))))) x0) 89 (wr ((wr (138 + (wr (4 * (I 89 1))))) + 1)) x1) 89 (wr ((wr (138 + (wr (4 * (I 89 1))))) + 2)) x2) 89 (wr ((wr (138 + (wr (4 * (I 89 1))))) + 3)) (I 87 19)) 89 1 (wr (((sI (sI (sI (sI I 89 (wr (138 + (wr (4 * (I 89 1))))) x0) 89 (wr ((wr (138 + (wr (4 * (I 89 1))))) + 1)) x1) 89 (wr ((wr (138 + (wr (4 * (I 89 1))))) + 2)) x2) 89 (wr ((wr (138 + (wr (4 * (I 89 1))))) + 3)) (I 87 19)) 89 1) + 1))), zRs b, 103, S)) else none else none else none else none := (xSipush d140_0).trans ((xIconst d140_3).trans ((xAload_n d140_4 rfl).trans ((xGetR 1 89 d140_5 zo_140 zfl_11_13 rfl rfl rfl (Or.inl (Nat.le_of_ble_eq_true rfl))).trans ((xIconst d140_8).trans ((xIald (N := 234) (I 89 1) rfl d140_9 rfl (Or.inl (Nat.le_of_ble_eq_true rfl)) rfl).trans ((if_pos (by decide)).trans ((xImul d140_10).trans ((xIadd d140_11).trans ((xIstore d140_12 rfl rfl).trans ((xAload_n d140_14 rfl).trans ((xGetR 1 89 d140_15 zo_140 zfl_11_13 rfl rfl rfl (Or.inl (Nat.le_of_ble_eq_true rfl))).trans ((xIload d140_18 rfl).trans ((xIload_n d140_20 rfl).trans ((xIast (N := 234) d140_21 rfl (Nat.le_of_ble_eq_true rfl) rfl).trans (ziteC ((xAload_n d140_22 rfl).trans ((xGetR 1 89 d140_23 zo_140 zfl_11_13 rfl rfl rfl (Or.inl (Nat.le_of_ble_eq_true rfl))).trans ((xIload d140_26 rfl).trans ((xIconst d140_28).trans ((xIadd d140_29).trans ((xIload_n d140_30 rfl).trans ((xIast (N := 234) d140_31 rfl (Nat.le_of_ble_eq_true rfl) rfl).trans (ziteC ((xAload_n d140_32 rfl).trans ((xGetR 1 89 d140_33 zo_140 zfl_11_13 rfl rfl rfl (Or.inl (Nat.le_of_ble_eq_true rfl))).trans ((xIload d140_36 rfl).trans ((xIconst d140_38).trans ((xIadd d140_39).trans ((xIload_n d140_40 rfl).trans ((xIast (N := 234) d140_41 rfl (Nat.le_of_ble_eq_true rfl) rfl).trans (ziteC ((xAload_n d140_42 rfl).trans ((xGetR 1 89 d140_43 zo_140 zfl_11_13 rfl rfl rfl (Or.inl (Nat.le_of_ble_eq_true rfl))).trans ((xIload d140_46 rfl).trans ((xIconst d140_48).trans ((xIadd d140_49).trans ((xAload_n d140_50 rfl).trans ((xGetI 19 (I 87 19) ((sI_p (by decide)).trans ((sI_p (by decide)).trans (sI_p (by decide)))) d140_51 zo_140 zfl_11_125 (by decide) rfl rfl (Or.inl (Nat.le_of_ble_eq_true rfl))).trans ((xIast (N := 234) d140_54 rfl (Nat.le_of_ble_eq_true rfl) rfl).trans (ziteC ((xAload_n d140_55 rfl).trans ((xGetR 1 89 d140_56 zo_140 zfl_11_13 rfl rfl rfl (Or.inl (Nat.le_of_ble_eq_true rfl))).trans ((xIconst d140_59).trans ((xDup2 d140_60 rfl rfl).trans ((xIald (N := 234) ((sI (sI (sI (sI I 89 (wr (138 + (wr (4 * (I 89 1))))) x0) 89 (wr ((wr (138 + (wr (4 * (I 89 1))))) + 1)) x1) 89 (wr ((wr (138 + (wr (4 * (I 89 1))))) + 2)) x2) 89 (wr ((wr (138 + (wr (4 * (I 89 1))))) + 3)) (I 87 19)) 89 1) rfl d140_61 rfl (Or.inl (Nat.le_of_ble_eq_true rfl)) rfl).trans ((if_pos (by decide)).trans ((xIconst d140_62).trans ((xIadd d140_63).trans ((xIast (N := 234) d140_64 rfl (Nat.le_of_ble_eq_true rfl) rfl).trans ((if_pos (by decide)).trans (xVret d140_65 zret_140))))))))))) rfl))))))))) rfl)))))))) rfl)))))))) rfl)))))))))))))))
theorem run141 {h : zH} : zrun 141 [vR 87] h = zX 141 0 [vR 87, none] [] h := rfl
theorem e141_0 {I : Nat → Int → Int} {b : Bool} {S : Nat} : zX 141 0 [vR 87, none] [] (I, zRs b, 103, S) = if 0 ≤ (wr ((I 87 19) - 1)) ∧ (wr ((I 87 19) - 1)) < 4 then if 0 ≤ (wr ((wr (138 + (wr (4 * (I 97 (wr ((I 87 19) - 1))))))) + 2)) ∧ (wr ((wr (138 + (wr (4 * (I 97 (wr ((I 87 19) - 1))))))) + 2)) < 234 then if 0 ≤ (wr ((wr (138 + (wr (4 * (I 97 (wr ((I 87 19) - 1))))))) + 1)) ∧ (wr ((wr (138 + (wr (4 * (I 97 (wr ((I 87 19) - 1))))))) + 1)) < 234 then (zrun 140 [vR 87, vI 4, vI ((sI (sI I 87 19 (wr ((I 87 19) - 1))) 89 (wr ((wr (138 + (wr (4 * (I 97 (wr ((I 87 19) - 1))))))) + 2)) (I 89 1)) 89 (wr ((wr (138 + (wr (4 * (I 97 (wr ((I 87 19) - 1))))))) + 1))), vI (I 97 (wr ((I 87 19) - 1)))] ((sI (sI I 87 19 (wr ((I 87 19) - 1))) 89 (wr ((wr (138 + (wr (4 * (I 97 (wr ((I 87 19) - 1))))))) + 2)) (I 89 1)), zRs b, 103, S)).bind (fun q => zX 141 60 [vR 87, vI (I 97 (wr ((I 87 19) - 1)))] (zpush q.1 []) q.2) else none else none else none := (xAload_n d141_0 rfl).trans ((xDup d141_1 rfl).trans ((xGetI 19 (I 87 19) rfl d141_2 zo_141 zfl_11_125 (by decide) rfl rfl (Or.inl (Nat.le_of_ble_eq_true rfl))).trans ((xIconst d141_5).trans ((xIsub d141_6).trans ((xPutI 19 d141_7 zo_141 zfl_11_125 rfl rfl (Nat.le_of_ble_eq_true rfl) (Or.inl rfl)).trans ((xAload_n d141_10 rfl).trans ((xGetR 17 97 d141_11 zo_141 zfl_11_38 rfl rfl rfl (Or.inl (Nat.le_of_ble_eq_true rfl))).trans ((xAload_n d141_14 rfl).trans ((xGetI 19 (wr ((I 87 19) - 1)) sI_s d141_15 zo_141 zfl_11_125 (by decide) rfl rfl (Or.inl (Nat.le_of_ble_eq_true rfl))).trans ((xIald (N := 4) (I 97 (wr ((I 87 19) - 1))) (sI_p (by decide)) d141_18 rfl (Or.inl (Nat.le_of_ble_eq_true rfl)) rfl).trans (ziteC ((xIstore_n d141_19 rfl rfl).trans ((xAload_n d141_20 rfl).trans ((xGetR 1 89 d141_21 zo_141 zfl_11_13 rfl rfl rfl (Or.inl (Nat.le_of_ble_eq_true rfl))).trans ((xSipush d141_24).trans ((xIconst d141_27).trans ((xIload_n d141_28 rfl).trans ((xImul d141_29).trans ((xIadd d141_30).trans ((xIconst d141_31).trans ((xIadd d141_32).trans ((xAload_n d141_33 rfl).trans ((xGetR 1 89 d141_34 zo_141 zfl_11_13 rfl rfl rfl (Or.inl (Nat.le_of_ble_eq_true rfl))).trans ((xIconst d141_37).trans ((xIald (N := 234) (I 89 1) (sI_p (by decide)) d141_38 rfl (Or.inl (Nat.le_of_ble_eq_true rfl)) rfl).trans ((if_pos (by decide)).trans ((xIast (N := 234) d141_39 rfl (Nat.le_of_ble_eq_true rfl) rfl).trans (ziteC ((xAload_n d141_40 rfl).trans ((xIconst d141_41).trans ((xAload_n d141_42 rfl).trans ((xGetR 1 89 d141_43 zo_141 zfl_11_13 rfl rfl rfl (Or.inl (Nat.le_of_ble_eq_true rfl))).trans ((xSipush d141_46).trans ((xIconst d141_49).trans ((xIload_n d141_50 rfl).trans ((xImul d141_51).trans ((xIadd d141_52).trans ((xIconst d141_53).trans ((xIadd d141_54).trans ((xIald (N := 234) ((sI (sI I 87 19 (wr ((I 87 19) - 1))) 89 (wr ((wr (138 + (wr (4 * (I 97 (wr ((I 87 19) - 1))))))) + 2)) (I 89 1)) 89 (wr ((wr (138 + (wr (4 * (I 97 (wr ((I 87 19) - 1))))))) + 1))) rfl d141_55 rfl (Or.inl (Nat.le_of_ble_eq_true rfl)) rfl).trans (ziteC ((xIload_n d141_56 rfl).trans (xInvV [vR 87, vI 4, vI ((sI (sI I 87 19 (wr ((I 87 19) - 1))) 89 (wr ((wr (138 + (wr (4 * (I 97 (wr ((I 87 19) - 1))))))) + 2)) (I 89 1)) 89 (wr ((wr (138 + (wr (4 * (I 97 (wr ((I 87 19) - 1))))))) + 1))), vI (I 97 (wr ((I 87 19) - 1)))] [] d141_57 zo_141 zml_11_128 rfl rfl rfl (Or.inl ⟨rfl, (Nat.le_of_ble_eq_true rfl)⟩))) rfl))))))))))))) rfl))))))))))))))))) rfl)))))))))))
theorem e141_60 {I : Nat → Int → Int} {b : Bool} {S : Nat} {a1 : Int} : zX 141 60 [vR 87, vI a1] [] (I, zRs b, 103, S) = if (I 87 19) ≤ 0 then some (none, (I, zRs b, 103, S)) else if 0 ≤ (wr ((I 87 19) - 1)) ∧ (wr ((I 87 19) - 1)) < 4 then if (I 98 (wr ((I 87 19) - 1))) = 0 then if 0 ≤ (I 87 19) ∧ (I 87 19) < 4 then if (I 98 (I 87 19)) = 0 then if 0 ≤ (wr ((I 87 19) - 1)) ∧ (wr ((I 87 19) - 1)) < 4 then some (none, ((sI I 98 (wr ((I 87 19) - 1)) 0), zRs b, 103, S)) else none else if 0 ≤ (wr ((I 87 19) - 1)) ∧ (wr ((I 87 19) - 1)) < 4 then some (none, ((sI I 98 (wr ((I 87 19) - 1)) 1), zRs b, 103, S)) else none else none else if 0 ≤ (wr ((I 87 19) - 1)) ∧ (wr ((I 87 19) - 1)) < 4 then some (none, ((sI I 98 (wr ((I 87 19) - 1)) 1), zRs b, 103, S)) else none else none := (xAload_n d141_60 rfl).trans ((xGetI 19 (I 87 19) rfl d141_61 zo_141 zfl_11_125 (by decide) rfl rfl (Or.inl (Nat.le_of_ble_eq_true rfl))).trans ((xIfLe (t := 109) d141_64 rfl).trans (ziteC (xVret d141_109 zret_141) ((xAload_n d141_67 rfl).trans ((xGetR 18 98 d141_68 zo_141 zfl_11_41 rfl rfl rfl (Or.inl (Nat.le_of_ble_eq_true rfl))).trans ((xAload_n d141_71 rfl).trans ((xGetI 19 (I 87 19) rfl d141_72 zo_141 zfl_11_125 (by decide) rfl rfl (Or.inl (Nat.le_of_ble_eq_true rfl))).trans ((xIconst d141_75).trans ((xIsub d141_76).trans ((xAload_n d141_77 rfl).trans ((xGetR 18 98 d141_78 zo_141 zfl_11_41 rfl rfl rfl (Or.inl (Nat.le_of_ble_eq_true rfl))).trans ((xAload_n d141_81 rfl).trans ((xGetI 19 (I 87 19) rfl d141_82 zo_141 zfl_11_125 (by decide) rfl rfl (Or.inl (Nat.le_of_ble_eq_true rfl))).trans ((xIconst d141_85).trans ((xIsub d141_86).trans ((xBald (N := 4) (I 98 (wr ((I 87 19) - 1))) rfl d141_87 (Or.inr rfl) (Or.inl (Nat.le_of_ble_eq_true rfl)) rfl).trans (ziteC ((xIfNe (t := 103) d141_88 rfl).trans (ziteC ((xAload_n d141_91 rfl).trans ((xGetR 18 98 d141_92 zo_141 zfl_11_41 rfl rfl rfl (Or.inl (Nat.le_of_ble_eq_true rfl))).trans ((xAload_n d141_95 rfl).trans ((xGetI 19 (I 87 19) rfl d141_96 zo_141 zfl_11_125 (by decide) rfl rfl (Or.inl (Nat.le_of_ble_eq_true rfl))).trans ((xBald (N := 4) (I 98 (I 87 19)) rfl d141_99 (Or.inr rfl) (Or.inl (Nat.le_of_ble_eq_true rfl)) rfl).trans (ziteC ((xIfEq (t := 107) d141_100 rfl).trans (ziteC ((xIconst d141_107).trans ((xZast (N := 4) d141_108 rfl (Nat.le_of_ble_eq_true rfl) (by decide) rfl).trans (ziteC (xVret d141_109 zret_141) rfl))) ((xIconst d141_103).trans ((xGoto (t := 108) d141_104 rfl).trans ((xZast (N := 4) d141_108 rfl (Nat.le_of_ble_eq_true rfl) (by decide) rfl).trans (ziteC (xVret d141_109 zret_141) rfl)))))) rfl)))))) ((xIconst d141_103).trans ((xGoto (t := 108) d141_104 rfl).trans ((xZast (N := 4) d141_108 rfl (Nat.le_of_ble_eq_true rfl) (by decide) rfl).trans (ziteC (xVret d141_109 zret_141) rfl)))))) rfl)))))))))))))))))
theorem run142 {h : zH} {x0 x1 : Int} : zrun 142 [vR 87, vI x0, vI x1] h = zX 142 0 [vR 87, vI x0, vI x1] [] h := rfl
theorem e142_0 {I : Nat → Int → Int} {b : Bool} {S : Nat} {x0 x1 : Int} : zX 142 0 [vR 87, vI x0, vI x1] [] (I, zRs b, 103, S) = (zrun 140 [vR 87, vI x0, vI x1, vI (-4)] (I, zRs b, 103, S)).bind (fun q => zX 142 8 [vR 87, vI x0, vI x1] (zpush q.1 []) q.2) := (xAload_n d142_0 rfl).trans ((xIload_n d142_1 rfl).trans ((xIload_n d142_2 rfl).trans ((xBipush d142_3).trans (xInvV [vR 87, vI x0, vI x1, vI (-4)] [] d142_5 zo_142 zml_11_128 rfl rfl rfl (Or.inl ⟨rfl, (Nat.le_of_ble_eq_true rfl)⟩)))))
theorem e142_8 {I : Nat → Int → Int} {b : Bool} {S : Nat} {a1 a2 : Int} : zX 142 8 [vR 87, vI a1, vI a2] [] (I, zRs b, 103, S) = if 0 ≤ (I 87 19) ∧ (I 87 19) < 4 then if 0 ≤ (I 87 19) ∧ (I 87 19) < 4 then some (none, ((sI (sI (sI I 97 (I 87 19) (wr ((I 89 1) - 1))) 98 (I 87 19) 0) 87 19 (wr ((I 87 19) + 1))), zRs b, 103, S)) else none else none := (xAload_n d142_8 rfl).trans ((xGetR 17 97 d142_9 zo_142 zfl_11_38 rfl rfl rfl (Or.inl (Nat.le_of_ble_eq_true rfl))).trans ((xAload_n d142_12 rfl).trans ((xGetI 19 (I 87 19) rfl d142_13 zo_142 zfl_11_125 (by decide) rfl rfl (Or.inl (Nat.le_of_ble_eq_true rfl))).trans ((xAload_n d142_16 rfl).trans ((xGetR 1 89 d142_17 zo_142 zfl_11_13 rfl rfl rfl (Or.inl (Nat.le_of_ble_eq_true rfl))).trans ((xIconst d142_20).trans ((xIald (N := 234) (I 89 1) rfl d142_21 rfl (Or.inl (Nat.le_of_ble_eq_true rfl)) rfl).trans ((if_pos (by decide)).trans ((xIconst d142_22).trans ((xIsub d142_23).trans ((xIast (N := 4) d142_24 rfl (Nat.le_of_ble_eq_true rfl) rfl).trans (ziteC ((xAload_n d142_25 rfl).trans ((xGetR 18 98 d142_26 zo_142 zfl_11_41 rfl rfl rfl (Or.inl (Nat.le_of_ble_eq_true rfl))).trans ((xAload_n d142_29 rfl).trans ((xGetI 19 (I 87 19) (sI_p (by decide)) d142_30 zo_142 zfl_11_125 (by decide) rfl rfl (Or.inl (Nat.le_of_ble_eq_true rfl))).trans ((xIconst d142_33).trans ((xZast (N := 4) d142_34 rfl (Nat.le_of_ble_eq_true rfl) (by decide) rfl).trans (ziteC ((xAload_n d142_35 rfl).trans ((xDup d142_36 rfl).trans ((xGetI 19 (I 87 19) ((sI_p (by decide)).trans (sI_p (by decide))) d142_37 zo_142 zfl_11_125 (by decide) rfl rfl (Or.inl (Nat.le_of_ble_eq_true rfl))).trans ((xIconst d142_40).trans ((xIadd d142_41).trans ((xPutI 19 d142_42 zo_142 zfl_11_125 rfl rfl (Nat.le_of_ble_eq_true rfl) (Or.inl rfl)).trans (xVret d142_45 zret_142))))))) rfl))))))) rfl))))))))))))
theorem run143 {h : zH} {x0 : Int} : zrun 143 [vR 87, vI x0] h = zX 143 0 [vR 87, vI x0, none] [] h := rfl
theorem e143_0 {I : Nat → Int → Int} {b : Bool} {S : Nat} {x0 : Int} : zX 143 0 [vR 87, vI x0, none] [] (I, zRs b, 103, S) = (zrun 135 [vR 87] (I, zRs b, 103, S)).bind (fun q => zX 143 4 [vR 87, vI x0, none] (zpush q.1 []) q.2) := (xAload_n d143_0 rfl).trans (xInvV [vR 87] [] d143_1 zo_143 zml_11_110 rfl rfl rfl (Or.inl ⟨rfl, (Nat.le_of_ble_eq_true rfl)⟩))
theorem e143_4 {I : Nat → Int → Int} {b : Bool} {S : Nat} {a1 : Int} : zX 143 4 [vR 87, vI a1, none] [] (I, zRs b, 103, S) = if a1 = 0 then (zrun 137 [vR 87, vI 0, vI (wr ((I 89 0) - 1))] (I, zRs b, 103, S)).bind (fun q => zX 143 21 [vR 87, vI a1, none] (zpush q.1 []) q.2) else if a1 = 1 then (zrun 137 [vR 87, vI 0, vI 9] (I, zRs b, 103, S)).bind (fun q => zX 143 71 [vR 87, vI a1, none] (zpush q.1 []) q.2) else if a1 = 2 then if a1 = 2 then (zrun 137 [vR 87, vI 1, vI 9] (I, zRs b, 103, S)).bind (fun q => zX 143 115 [vR 87, vI a1, none] (zpush q.1 []) q.2) else (zrun 137 [vR 87, vI 1, vI 3] (I, zRs b, 103, S)).bind (fun q => zX 143 115 [vR 87, vI a1, none] (zpush q.1 []) q.2) else if a1 = 2 then (zrun 137 [vR 87, vI 0, vI 9] (I, zRs b, 103, S)).bind (fun q => zX 143 115 [vR 87, vI a1, none] (zpush q.1 []) q.2) else (zrun 137 [vR 87, vI 0, vI 3] (I, zRs b, 103, S)).bind (fun q => zX 143 115 [vR 87, vI a1, none] (zpush q.1 []) q.2) := (xIload_n d143_4 rfl).trans ((xIfNe (t := 59) d143_5 rfl).trans (ziteC ((xAload_n d143_8 rfl).trans ((xIconst d143_9).trans ((xAload_n d143_10 rfl).trans ((xGetR 1 89 d143_11 zo_143 zfl_11_13 rfl rfl rfl (Or.inl (Nat.le_of_ble_eq_true rfl))).trans ((xIconst d143_14).trans ((xIald (N := 234) (I 89 0) rfl d143_15 rfl (Or.inl (Nat.le_of_ble_eq_true rfl)) rfl).trans ((if_pos (by decide)).trans ((xIconst d143_16).trans ((xIsub d143_17).trans (xInvV [vR 87, vI 0, vI (wr ((I 89 0) - 1))] [] d143_18 zo_143 zml_11_117 rfl rfl rfl (Or.inl ⟨rfl, (Nat.le_of_ble_eq_true rfl)⟩))))))))))) ((xIload_n d143_59 rfl).trans ((xIconst d143_60).trans ((xIcmpNe (t := 90) d143_61 rfl).trans (ziteC ((xAload_n d143_64 rfl).trans ((xIconst d143_65).trans ((xBipush d143_66).trans (xInvV [vR 87, vI 0, vI 9] [] d143_68 zo_143 zml_11_117 rfl rfl rfl (Or.inl ⟨rfl, (Nat.le_of_ble_eq_true rfl)⟩))))) ((xAload_n d143_90 rfl).trans ((xIload_n d143_91 rfl).trans ((xIconst d143_92).trans ((xIcmpNe (t := 100) d143_93 rfl).trans (ziteC ((xIconst d143_96).trans ((xGoto (t := 101) d143_97 rfl).trans ((xIload_n d143_101 rfl).trans ((xIconst d143_102).trans ((xIcmpNe (t := 111) d143_103 rfl).trans (ziteC ((xBipush d143_106).trans ((xGoto (t := 112) d143_108 rfl).trans (xInvV [vR 87, vI 1, vI 9] [] d143_112 zo_143 zml_11_117 rfl rfl rfl (Or.inl ⟨rfl, (Nat.le_of_ble_eq_true rfl)⟩)))) ((xIconst d143_111).trans (xInvV [vR 87, vI 1, vI 3] [] d143_112 zo_143 zml_11_117 rfl rfl rfl (Or.inl ⟨rfl, (Nat.le_of_ble_eq_true rfl)⟩))))))))) ((xIconst d143_100).trans ((xIload_n d143_101 rfl).trans ((xIconst d143_102).trans ((xIcmpNe (t := 111) d143_103 rfl).trans (ziteC ((xBipush d143_106).trans ((xGoto (t := 112) d143_108 rfl).trans (xInvV [vR 87, vI 0, vI 9] [] d143_112 zo_143 zml_11_117 rfl rfl rfl (Or.inl ⟨rfl, (Nat.le_of_ble_eq_true rfl)⟩)))) ((xIconst d143_111).trans (xInvV [vR 87, vI 0, vI 3] [] d143_112 zo_143 zml_11_117 rfl rfl rfl (Or.inl ⟨rfl, (Nat.le_of_ble_eq_true rfl)⟩)))))))))))))))))))
theorem e143_21 {I : Nat → Int → Int} {b : Bool} {S : Nat} {a1 t0 : Int} : zX 143 21 [vR 87, vI a1, none] [vI t0] (I, zRs b, 103, S) = if (I 87 15) = 0 then (zrun 140 [vR 87, vI 0, vI t0, vI (-4)] (I, zRs b, 103, S)).bind (fun q => zX 143 37 [vR 87, vI a1, vI t0] (zpush q.1 []) q.2) else zX 143 169 [vR 87, vI a1, vI t0] [] (I, zRs b, 103, S) := (xIstore_n d143_21 rfl rfl).trans ((xAload_n d143_22 rfl).trans ((xGetI 15 (I 87 15) rfl d143_23 zo_143 zfl_11_72 (by decide) rfl rfl (Or.inl (Nat.le_of_ble_eq_true rfl))).trans ((xIfNe (t := 56) d143_26 rfl).trans (ziteC ((xAload_n d143_29 rfl).trans ((xIconst d143_30).trans ((xIload_n d143_31 rfl).trans ((xBipush d143_32).trans (xInvV [vR 87, vI 0, vI t0, vI (-4)] [] d143_34 zo_143 zml_11_128 rfl rfl rfl (Or.inl ⟨rfl, (Nat.le_of_ble_eq_true rfl)⟩)))))) (xGoto (t := 169) d143_56 rfl)))))
theorem e143_37 {I : Nat → Int → Int} {b : Bool} {S : Nat} {a1 a2 : Int} : zX 143 37 [vR 87, vI a1, vI a2] [] (I, zRs b, 103, S) = if (I 87 19) ≤ 0 then zX 143 169 [vR 87, vI a1, vI a2] [] (I, zRs b, 103, S) else if 0 ≤ (wr ((I 87 19) - 1)) ∧ (wr ((I 87 19) - 1)) < 4 then zX 143 169 [vR 87, vI a1, vI a2] [] ((sI I 98 (wr ((I 87 19) - 1)) 1), zRs b, 103, S) else none := (xAload_n d143_37 rfl).trans ((xGetI 19 (I 87 19) rfl d143_38 zo_143 zfl_11_125 (by decide) rfl rfl (Or.inl (Nat.le_of_ble_eq_true rfl))).trans ((xIfLe (t := 56) d143_41 rfl).trans (ziteC (xGoto (t := 169) d143_56 rfl) ((xAload_n d143_44 rfl).trans ((xGetR 18 98 d143_45 zo_143 zfl_11_41 rfl rfl rfl (Or.inl (Nat.le_of_ble_eq_true rfl))).trans ((xAload_n d143_48 rfl).trans ((xGetI 19 (I 87 19) rfl d143_49 zo_143 zfl_11_125 (by decide) rfl rfl (Or.inl (Nat.le_of_ble_eq_true rfl))).trans ((xIconst d143_52).trans ((xIsub d143_53).trans ((xIconst d143_54).trans ((xZast (N := 4) d143_55 rfl (Nat.le_of_ble_eq_true rfl) (by decide) rfl).trans (ziteC (xGoto (t := 169) d143_56 rfl) rfl))))))))))))
theorem e143_71 {I : Nat → Int → Int} {b : Bool} {S : Nat} {a1 t0 : Int} : zX 143 71 [vR 87, vI a1, none] [vI t0] (I, zRs b, 103, S) = if (I 87 15) = 0 then (zrun 140 [vR 87, vI 1, vI t0, vI (-4)] (I, zRs b, 103, S)).bind (fun q => zX 143 87 [vR 87, vI a1, vI t0] (zpush q.1 []) q.2) else zX 143 87 [vR 87, vI a1, vI t0] [] (I, zRs b, 103, S) := (xIstore_n d143_71 rfl rfl).trans ((xAload_n d143_72 rfl).trans ((xGetI 15 (I 87 15) rfl d143_73 zo_143 zfl_11_72 (by decide) rfl rfl (Or.inl (Nat.le_of_ble_eq_true rfl))).trans ((xIfNe (t := 87) d143_76 rfl).trans (ziteC ((xAload_n d143_79 rfl).trans ((xIconst d143_80).trans ((xIload_n d143_81 rfl).trans ((xBipush d143_82).trans (xInvV [vR 87, vI 1, vI t0, vI (-4)] [] d143_84 zo_143 zml_11_128 rfl rfl rfl (Or.inl ⟨rfl, (Nat.le_of_ble_eq_true rfl)⟩)))))) rfl))))
theorem e143_87 {I : Nat → Int → Int} {b : Bool} {S : Nat} {a1 a2 : Int} : zX 143 87 [vR 87, vI a1, vI a2] [] (I, zRs b, 103, S) = zX 143 169 [vR 87, vI a1, vI a2] [] (I, zRs b, 103, S) := xGoto (t := 169) d143_87 rfl
theorem e143_115 {I : Nat → Int → Int} {b : Bool} {S : Nat} {a1 t0 : Int} : zX 143 115 [vR 87, vI a1, none] [vI t0] (I, zRs b, 103, S) = if (I 87 15) = 0 then (zrun 136 [vR 87, vI 40] (I, zRs b, 103, S)).bind (fun q => zX 143 130 [vR 87, vI a1, vI t0] (zpush q.1 [vR 87]) q.2) else zX 143 152 [vR 87, vI a1, vI t0] [] (I, zRs b, 103, S) := (xIstore_n d143_115 rfl rfl).trans ((xAload_n d143_116 rfl).trans ((xGetI 15 (I 87 15) rfl d143_117 zo_143 zfl_11_72 (by decide) rfl rfl (Or.inl (Nat.le_of_ble_eq_true rfl))).trans ((xIfNe (t := 152) d143_120 rfl).trans (ziteC ((xAload_n d143_123 rfl).trans ((xAload_n d143_124 rfl).trans ((xBipush d143_125).trans (xInvV [vR 87, vI 40] [vR 87] d143_127 zo_143 zml_11_113 rfl rfl rfl (Or.inl ⟨rfl, (Nat.le_of_ble_eq_true rfl)⟩))))) rfl))))
theorem e143_130 {I : Nat → Int → Int} {b : Bool} {S : Nat} {a1 a2 t1 : Int} : zX 143 130 [vR 87, vI a1, vI a2] [vI t1, vR 87] (I, zRs b, 103, S) = (zrun 129 [vR 87, vI t1, vI 2] (I, zRs b, 103, S)).bind (fun q => zX 143 134 [vR 87, vI a1, vI a2] (zpush q.1 []) q.2) := (xIconst d143_130).trans (xInvV [vR 87, vI t1, vI 2] [] d143_131 zo_143 zml_11_106 rfl rfl rfl (Or.inl ⟨rfl, (Nat.le_of_ble_eq_true rfl)⟩))
theorem e143_134 {I : Nat → Int → Int} {b : Bool} {S : Nat} {a1 a2 : Int} : zX 143 134 [vR 87, vI a1, vI a2] [] (I, zRs b, 103, S) = if 4 ≤ (I 87 19) then (zrun 129 [vR 87, vI 0, vI 5] (I, zRs b, 103, S)).bind (fun q => zX 143 152 [vR 87, vI a1, vI a2] (zpush q.1 []) q.2) else (zrun 129 [vR 87, vI 1, vI 5] (I, zRs b, 103, S)).bind (fun q => zX 143 152 [vR 87, vI a1, vI a2] (zpush q.1 []) q.2) := (xAload_n d143_134 rfl).trans ((xAload_n d143_135 rfl).trans ((xGetI 19 (I 87 19) rfl d143_136 zo_143 zfl_11_125 (by decide) rfl rfl (Or.inl (Nat.le_of_ble_eq_true rfl))).trans ((xIconst d143_139).trans ((xIcmpGe (t := 147) d143_140 rfl).trans (ziteC ((xIconst d143_147).trans ((xIconst d143_148).trans (xInvV [vR 87, vI 0, vI 5] [] d143_149 zo_143 zml_11_106 rfl rfl rfl (Or.inl ⟨rfl, (Nat.le_of_ble_eq_true rfl)⟩)))) ((xIconst d143_143).trans ((xGoto (t := 148) d143_144 rfl).trans ((xIconst d143_148).trans (xInvV [vR 87, vI 1, vI 5] [] d143_149 zo_143 zml_11_106 rfl rfl rfl (Or.inl ⟨rfl, (Nat.le_of_ble_eq_true rfl)⟩))))))))))
theorem e143_152 {I : Nat → Int → Int} {b : Bool} {S : Nat} {a1 a2 : Int} : zX 143 152 [vR 87, vI a1, vI a2] [] (I, zRs b, 103, S) = if (I 87 15) = 0 then (zrun 142 [vR 87, vI a1, vI a2] (I, zRs b, 103, S)).bind (fun q => zX 143 165 [vR 87, vI a1, vI a2] (zpush q.1 []) q.2) else zX 143 165 [vR 87, vI a1, vI a2] [] (I, zRs b, 103, S) := (xAload_n d143_152 rfl).trans ((xGetI 15 (I 87 15) rfl d143_153 zo_143 zfl_11_72 (by decide) rfl rfl (Or.inl (Nat.le_of_ble_eq_true rfl))).trans ((xIfNe (t := 165) d143_156 rfl).trans (ziteC ((xAload_n d143_159 rfl).trans ((xIload_n d143_160 rfl).trans ((xIload_n d143_161 rfl).trans (xInvV [vR 87, vI a1, vI a2] [] d143_162 zo_143 zml_11_132 rfl rfl rfl (Or.inl ⟨rfl, (Nat.le_of_ble_eq_true rfl)⟩))))) rfl)))
theorem e143_165 {I : Nat → Int → Int} {b : Bool} {S : Nat} {a1 a2 : Int} : zX 143 165 [vR 87, vI a1, vI a2] [] (I, zRs b, 103, S) = (zrun 135 [vR 87] (I, zRs b, 103, S)).bind (fun q => zX 143 169 [vR 87, vI a1, vI a2] (zpush q.1 []) q.2) := (xAload_n d143_165 rfl).trans (xInvV [vR 87] [] d143_166 zo_143 zml_11_110 rfl rfl rfl (Or.inl ⟨rfl, (Nat.le_of_ble_eq_true rfl)⟩))
theorem e143_169 {I : Nat → Int → Int} {b : Bool} {S : Nat} {a1 a2 : Int} : zX 143 169 [vR 87, vI a1, vI a2] [] (I, zRs b, 103, S) = some (none, (I, zRs b, 103, S)) := xVret d143_169 zret_143
theorem run144 {h : zH} : zrun 144 [vR 87] h = zX 144 0 [vR 87, none, none, none] [] h := rfl
theorem e144_0 {I : Nat → Int → Int} {b : Bool} {S : Nat} : zX 144 0 [vR 87, none, none, none] [] (I, zRs b, 103, S) = if (I 87 15) = 0 then zX 144 13 [vR 87, vI 1, none, none] [] (I, zRs b, 103, S) else zX 144 13 [vR 87, vI 0, none, none] [] (I, zRs b, 103, S) := (xAload_n d144_0 rfl).trans ((xGetI 15 (I 87 15) rfl d144_1 zo_144 zfl_11_72 (by decide) rfl rfl (Or.inl (Nat.le_of_ble_eq_true rfl))).trans ((xIfNe (t := 11) d144_4 rfl).trans (ziteC ((xIconst d144_7).trans ((xGoto (t := 12) d144_8 rfl).trans (xIstore_n d144_12 rfl rfl))) ((xIconst d144_11).trans (xIstore_n d144_12 rfl rfl)))))
theorem e144_13 {I : Nat → Int → Int} {b : Bool} {S : Nat} {a1 : Int} {w2 w3 : zV} : zX 144 13 [vR 87, vI a1, w2, w3] [] (I, zRs b, 103, S) = if a1 = 0 then if (I 87 15) = 0 then if (I 87 19) = 0 then (zrun 129 [vR 87, vI 1, vI 2] (I, zRs b, 103, S)).bind (fun q => zX 144 171 [vR 87, vI a1, w2, w3] (zpush q.1 []) q.2) else (zrun 129 [vR 87, vI 0, vI 2] (I, zRs b, 103, S)).bind (fun q => zX 144 171 [vR 87, vI a1, w2, w3] (zpush q.1 []) q.2) else zX 144 171 [vR 87, vI a1, w2, w3] [] (I, zRs b, 103, S) else (zrun 134 [vR 87] (I, zRs b, 103, S)).bind (fun q => zX 144 21 [vR 87, vI a1, w2, w3] (zpush q.1 []) q.2) := (xIload_n d144_13 rfl).trans ((xIfEq (t := 147) d144_14 rfl).trans (ziteC ((xAload_n d144_147 rfl).trans ((xGetI 15 (I 87 15) rfl d144_148 zo_144 zfl_11_72 (by decide) rfl rfl (Or.inl (Nat.le_of_ble_eq_true rfl))).trans ((xIfNe (t := 171) d144_151 rfl).trans (ziteC ((xAload_n d144_154 rfl).trans ((xAload_n d144_155 rfl).trans ((xGetI 19 (I 87 19) rfl d144_156 zo_144 zfl_11_125 (by decide) rfl rfl (Or.inl (Nat.le_of_ble_eq_true rfl))).trans ((xIfNe (t := 166) d144_159 rfl).trans (ziteC ((xIconst d144_162).trans ((xGoto (t := 167) d144_163 rfl).trans ((xIconst d144_167).trans (xInvV [vR 87, vI 1, vI 2] [] d144_168 zo_144 zml_11_106 rfl rfl rfl (Or.inl ⟨rfl, (Nat.le_of_ble_eq_true rfl)⟩))))) ((xIconst d144_166).trans ((xIconst d144_167).trans (xInvV [vR 87, vI 0, vI 2] [] d144_168 zo_144 zml_11_106 rfl rfl rfl (Or.inl ⟨rfl, (Nat.le_of_ble_eq_true rfl)⟩))))))))) rfl)))) ((xAload_n d144_17 rfl).trans (xInvV [vR 87] [] d144_18 zo_144 zml_11_136 rfl rfl rfl (Or.inl ⟨rfl, (Nat.le_of_ble_eq_true rfl)⟩)))))
theorem e144_21 {I : Nat → Int → Int} {b : Bool} {S : Nat} {a1 t0 : Int} {w2 w3 : zV} : zX 144 21 [vR 87, vI a1, w2, w3] [vI t0] (I, zRs b, 103, S) = (zrun 136 [vR 87, vI 41] (I, zRs b, 103, S)).bind (fun q => zX 144 28 [vR 87, vI a1, vI t0, w3] (zpush q.1 []) q.2) := (xIstore_n d144_21 rfl rfl).trans ((xAload_n d144_22 rfl).trans ((xBipush d144_23).trans (xInvV [vR 87, vI 41] [] d144_25 zo_144 zml_11_113 rfl rfl rfl (Or.inl ⟨rfl, (Nat.le_of_ble_eq_true rfl)⟩))))
theorem e144_28 {I : Nat → Int → Int} {b : Bool} {S : Nat} {a1 a2 t0 : Int} {w3 : zV} : zX 144 28 [vR 87, vI a1, vI a2, w3] [vI t0] (I, zRs b, 103, S) = if t0 = 0 then if a2 = (-4) then zX 144 13 [vR 87, vI 0, vI a2, vI 0] [] (I, zRs b, 103, S) else if 24 ≤ (I 89 1) then (zrun 129 [vR 87, vI 0, vI 4] (I, zRs b, 103, S)).bind (fun q => zX 144 80 [vR 87, vI a1, vI a2, vI 0] (zpush q.1 []) q.2) else (zrun 129 [vR 87, vI 1, vI 4] (I, zRs b, 103, S)).bind (fun q => zX 144 80 [vR 87, vI a1, vI a2, vI 0] (zpush q.1 []) q.2) else if (I 87 19) ≤ 0 then if a2 = (-4) then zX 144 13 [vR 87, vI 0, vI a2, vI 0] [] (I, zRs b, 103, S) else if 24 ≤ (I 89 1) then (zrun 129 [vR 87, vI 0, vI 4] (I, zRs b, 103, S)).bind (fun q => zX 144 80 [vR 87, vI a1, vI a2, vI 0] (zpush q.1 []) q.2) else (zrun 129 [vR 87, vI 1, vI 4] (I, zRs b, 103, S)).bind (fun q => zX 144 80 [vR 87, vI a1, vI a2, vI 0] (zpush q.1 []) q.2) else if a2 = (-4) then if 24 ≤ (I 89 1) then (zrun 129 [vR 87, vI 0, vI 4] (I, zRs b, 103, S)).bind (fun q => zX 144 80 [vR 87, vI a1, vI a2, vI 1] (zpush q.1 []) q.2) else (zrun 129 [vR 87, vI 1, vI 4] (I, zRs b, 103, S)).bind (fun q => zX 144 80 [vR 87, vI a1, vI a2, vI 1] (zpush q.1 []) q.2) else if 24 ≤ (I 89 1) then (zrun 129 [vR 87, vI 0, vI 4] (I, zRs b, 103, S)).bind (fun q => zX 144 80 [vR 87, vI a1, vI a2, vI 1] (zpush q.1 []) q.2) else (zrun 129 [vR 87, vI 1, vI 4] (I, zRs b, 103, S)).bind (fun q => zX 144 80 [vR 87, vI a1, vI a2, vI 1] (zpush q.1 []) q.2) := (xIfEq (t := 42) d144_28 rfl).trans (ziteC ((xIconst d144_42).trans ((xIstore_n d144_43 rfl rfl).trans ((xIload_n d144_44 rfl).trans ((xBipush d144_45).trans ((xIcmpNe (t := 59) d144_47 rfl).trans (ziteC ((xIload_n d144_50 rfl).trans ((xIfNe (t := 59) d144_51 rfl).trans ((if_pos (by decide)).trans ((xIconst d144_54).trans ((xIstore_n d144_55 rfl rfl).trans ((xGoto (t := 144) d144_56 rfl).trans (xGoto (t := 13) d144_144 rfl))))))) ((xAload_n d144_59 rfl).trans ((xAload_n d144_60 rfl).trans ((xGetR 1 89 d144_61 zo_144 zfl_11_13 rfl rfl rfl (Or.inl (Nat.le_of_ble_eq_true rfl))).trans ((xIconst d144_64).trans ((xIald (N := 234) (I 89 1) rfl d144_65 rfl (Or.inl (Nat.le_of_ble_eq_true rfl)) rfl).trans ((if_pos (by decide)).trans ((xBipush d144_66).trans ((xIcmpGe (t := 75) d144_68 rfl).trans (ziteC ((xIconst d144_75).trans ((xIconst d144_76).trans (xInvV [vR 87, vI 0, vI 4] [] d144_77 zo_144 zml_11_106 rfl rfl rfl (Or.inl ⟨rfl, (Nat.le_of_ble_eq_true rfl)⟩)))) ((xIconst d144_71).trans ((xGoto (t := 76) d144_72 rfl).trans ((xIconst d144_76).trans (xInvV [vR 87, vI 1, vI 4] [] d144_77 zo_144 zml_11_106 rfl rfl rfl (Or.inl ⟨rfl, (Nat.le_of_ble_eq_true rfl)⟩)))))))))))))))))))) ((xAload_n d144_31 rfl).trans ((xGetI 19 (I 87 19) rfl d144_32 zo_144 zfl_11_125 (by decide) rfl rfl (Or.inl (Nat.le_of_ble_eq_true rfl))).trans ((xIfLe (t := 42) d144_35 rfl).trans (ziteC ((xIconst d144_42).trans ((xIstore_n d144_43 rfl rfl).trans ((xIload_n d144_44 rfl).trans ((xBipush d144_45).trans ((xIcmpNe (t := 59) d144_47 rfl).trans (ziteC ((xIload_n d144_50 rfl).trans ((xIfNe (t := 59) d144_51 rfl).trans ((if_pos (by decide)).trans ((xIconst d144_54).trans ((xIstore_n d144_55 rfl rfl).trans ((xGoto (t := 144) d144_56 rfl).trans (xGoto (t := 13) d144_144 rfl))))))) ((xAload_n d144_59 rfl).trans ((xAload_n d144_60 rfl).trans ((xGetR 1 89 d144_61 zo_144 zfl_11_13 rfl rfl rfl (Or.inl (Nat.le_of_ble_eq_true rfl))).trans ((xIconst d144_64).trans ((xIald (N := 234) (I 89 1) rfl d144_65 rfl (Or.inl (Nat.le_of_ble_eq_true rfl)) rfl).trans ((if_pos (by decide)).trans ((xBipush d144_66).trans ((xIcmpGe (t := 75) d144_68 rfl).trans (ziteC ((xIconst d144_75).trans ((xIconst d144_76).trans (xInvV [vR 87, vI 0, vI 4] [] d144_77 zo_144 zml_11_106 rfl rfl rfl (Or.inl ⟨rfl, (Nat.le_of_ble_eq_true rfl)⟩)))) ((xIconst d144_71).trans ((xGoto (t := 76) d144_72 rfl).trans ((xIconst d144_76).trans (xInvV [vR 87, vI 1, vI 4] [] d144_77 zo_144 zml_11_106 rfl rfl rfl (Or.inl ⟨rfl, (Nat.le_of_ble_eq_true rfl)⟩)))))))))))))))))))) ((xIconst d144_38).trans ((xGoto (t := 43) d144_39 rfl).trans ((xIstore_n d144_43 rfl rfl).trans ((xIload_n d144_44 rfl).trans ((xBipush d144_45).trans ((xIcmpNe (t := 59) d144_47 rfl).trans (ziteC ((xIload_n d144_50 rfl).trans ((xIfNe (t := 59) d144_51 rfl).trans ((if_neg (by decide)).trans ((xAload_n d144_59 rfl).trans ((xAload_n d144_60 rfl).trans ((xGetR 1 89 d144_61 zo_144 zfl_11_13 rfl rfl rfl (Or.inl (Nat.le_of_ble_eq_true rfl))).trans ((xIconst d144_64).trans ((xIald (N := 234) (I 89 1) rfl d144_65 rfl (Or.inl (Nat.le_of_ble_eq_true rfl)) rfl).trans ((if_pos (by decide)).trans ((xBipush d144_66).trans ((xIcmpGe (t := 75) d144_68 rfl).trans (ziteC ((xIconst d144_75).trans ((xIconst d144_76).trans (xInvV [vR 87, vI 0, vI 4] [] d144_77 zo_144 zml_11_106 rfl rfl rfl (Or.inl ⟨rfl, (Nat.le_of_ble_eq_true rfl)⟩)))) ((xIconst d144_71).trans ((xGoto (t := 76) d144_72 rfl).trans ((xIconst d144_76).trans (xInvV [vR 87, vI 1, vI 4] [] d144_77 zo_144 zml_11_106 rfl rfl rfl (Or.inl ⟨rfl, (Nat.le_of_ble_eq_true rfl)⟩))))))))))))))))) ((xAload_n d144_59 rfl).trans ((xAload_n d144_60 rfl).trans ((xGetR 1 89 d144_61 zo_144 zfl_11_13 rfl rfl rfl (Or.inl (Nat.le_of_ble_eq_true rfl))).trans ((xIconst d144_64).trans ((xIald (N := 234) (I 89 1) rfl d144_65 rfl (Or.inl (Nat.le_of_ble_eq_true rfl)) rfl).trans ((if_pos (by decide)).trans ((xBipush d144_66).trans ((xIcmpGe (t := 75) d144_68 rfl).trans (ziteC ((xIconst d144_75).trans ((xIconst d144_76).trans (xInvV [vR 87, vI 0, vI 4] [] d144_77 zo_144 zml_11_106 rfl rfl rfl (Or.inl ⟨rfl, (Nat.le_of_ble_eq_true rfl)⟩)))) ((xIconst d144_71).trans ((xGoto (t := 76) d144_72 rfl).trans ((xIconst d144_76).trans (xInvV [vR 87, vI 1, vI 4] [] d144_77 zo_144 zml_11_106 rfl rfl rfl (Or.inl ⟨rfl, (Nat.le_of_ble_eq_true rfl)⟩))))))))))))))))))))))))))
theorem e144_80 {I : Nat → Int → Int} {b : Bool} {S : Nat} {a1 a2 a3 : Int} : zX 144 80 [vR 87, vI a1, vI a2, vI a3] [] (I, zRs b, 103, S) = if a3 = 0 then if (I 87 15) = 0 then (zrun 143 [vR 87, vI a2] (I, zRs b, 103, S)).bind (fun q => zX 144 131 [vR 87, vI a1, vI a2, vI a3] (zpush q.1 []) q.2) else zX 144 131 [vR 87, vI a1, vI a2, vI a3] [] (I, zRs b, 103, S) else if 0 ≤ (wr ((I 87 19) - 1)) ∧ (wr ((I 87 19) - 1)) < 4 then (zrun 129 [vR 87, vI (I 98 (wr ((I 87 19) - 1))), vI 6] (I, zRs b, 103, S)).bind (fun q => zX 144 101 [vR 87, vI a1, vI a2, vI a3] (zpush q.1 []) q.2) else none := (xIload_n d144_80 rfl).trans ((xIfEq (t := 119) d144_81 rfl).trans (ziteC ((xAload_n d144_119 rfl).trans ((xGetI 15 (I 87 15) rfl d144_120 zo_144 zfl_11_72 (by decide) rfl rfl (Or.inl (Nat.le_of_ble_eq_true rfl))).trans ((xIfNe (t := 131) d144_123 rfl).trans (ziteC ((xAload_n d144_126 rfl).trans ((xIload_n d144_127 rfl).trans (xInvV [vR 87, vI a2] [] d144_128 zo_144 zml_11_143 rfl rfl rfl (Or.inl ⟨rfl, (Nat.le_of_ble_eq_true rfl)⟩)))) rfl)))) ((xAload_n d144_84 rfl).trans ((xAload_n d144_85 rfl).trans ((xGetR 18 98 d144_86 zo_144 zfl_11_41 rfl rfl rfl (Or.inl (Nat.le_of_ble_eq_true rfl))).trans ((xAload_n d144_89 rfl).trans ((xGetI 19 (I 87 19) rfl d144_90 zo_144 zfl_11_125 (by decide) rfl rfl (Or.inl (Nat.le_of_ble_eq_true rfl))).trans ((xIconst d144_93).trans ((xIsub d144_94).trans ((xBald (N := 4) (I 98 (wr ((I 87 19) - 1))) rfl d144_95 (Or.inr rfl) (Or.inl (Nat.le_of_ble_eq_true rfl)) rfl).trans (ziteC ((xBipush d144_96).trans (xInvV [vR 87, vI (I 98 (wr ((I 87 19) - 1))), vI 6] [] d144_98 zo_144 zml_11_106 rfl rfl rfl (Or.inl ⟨rfl, (Nat.le_of_ble_eq_true rfl)⟩))) rfl)))))))))))
theorem e144_101 {I : Nat → Int → Int} {b : Bool} {S : Nat} {a1 a2 a3 : Int} : zX 144 101 [vR 87, vI a1, vI a2, vI a3] [] (I, zRs b, 103, S) = if (I 87 15) = 0 then (zrun 141 [vR 87] (I, zRs b, 103, S)).bind (fun q => zX 144 112 [vR 87, vI a1, vI a2, vI a3] (zpush q.1 []) q.2) else zX 144 112 [vR 87, vI a1, vI a2, vI a3] [] (I, zRs b, 103, S) := (xAload_n d144_101 rfl).trans ((xGetI 15 (I 87 15) rfl d144_102 zo_144 zfl_11_72 (by decide) rfl rfl (Or.inl (Nat.le_of_ble_eq_true rfl))).trans ((xIfNe (t := 112) d144_105 rfl).trans (ziteC ((xAload_n d144_108 rfl).trans (xInvV [vR 87] [] d144_109 zo_144 zml_11_140 rfl rfl rfl (Or.inl ⟨rfl, (Nat.le_of_ble_eq_true rfl)⟩))) rfl)))
theorem e144_112 {I : Nat → Int → Int} {b : Bool} {S : Nat} {a1 a2 a3 : Int} : zX 144 112 [vR 87, vI a1, vI a2, vI a3] [] (I, zRs b, 103, S) = (zrun 135 [vR 87] (I, zRs b, 103, S)).bind (fun q => zX 144 116 [vR 87, vI a1, vI a2, vI a3] (zpush q.1 []) q.2) := (xAload_n d144_112 rfl).trans (xInvV [vR 87] [] d144_113 zo_144 zml_11_110 rfl rfl rfl (Or.inl ⟨rfl, (Nat.le_of_ble_eq_true rfl)⟩))
theorem e144_116 {I : Nat → Int → Int} {b : Bool} {S : Nat} {a1 a2 a3 : Int} : zX 144 116 [vR 87, vI a1, vI a2, vI a3] [] (I, zRs b, 103, S) = zX 144 131 [vR 87, vI a1, vI a2, vI a3] [] (I, zRs b, 103, S) := xGoto (t := 131) d144_116 rfl
theorem e144_131 {I : Nat → Int → Int} {b : Bool} {S : Nat} {a1 a2 a3 : Int} : zX 144 131 [vR 87, vI a1, vI a2, vI a3] [] (I, zRs b, 103, S) = if (I 87 15) = 0 then zX 144 13 [vR 87, vI 1, vI a2, vI a3] [] (I, zRs b, 103, S) else zX 144 13 [vR 87, vI 0, vI a2, vI a3] [] (I, zRs b, 103, S) := (xAload_n d144_131 rfl).trans ((xGetI 15 (I 87 15) rfl d144_132 zo_144 zfl_11_72 (by decide) rfl rfl (Or.inl (Nat.le_of_ble_eq_true rfl))).trans ((xIfNe (t := 142) d144_135 rfl).trans (ziteC ((xIconst d144_138).trans ((xGoto (t := 143) d144_139 rfl).trans ((xIstore_n d144_143 rfl rfl).trans (xGoto (t := 13) d144_144 rfl)))) ((xIconst d144_142).trans ((xIstore_n d144_143 rfl rfl).trans (xGoto (t := 13) d144_144 rfl))))))
theorem e144_171 {I : Nat → Int → Int} {b : Bool} {S : Nat} {a1 : Int} {w2 w3 : zV} : zX 144 171 [vR 87, vI a1, w2, w3] [] (I, zRs b, 103, S) = (zrun 138 [vR 87, vI 59] (I, zRs b, 103, S)).bind (fun q => zX 144 177 [vR 87, vI a1, w2, w3] (zpush q.1 []) q.2) := (xAload_n d144_171 rfl).trans ((xBipush d144_172).trans (xInvV [vR 87, vI 59] [] d144_174 zo_144 zml_11_121 rfl rfl rfl (Or.inl ⟨rfl, (Nat.le_of_ble_eq_true rfl)⟩)))
theorem e144_177 {I : Nat → Int → Int} {b : Bool} {S : Nat} {a1 : Int} {w2 w3 : zV} : zX 144 177 [vR 87, vI a1, w2, w3] [] (I, zRs b, 103, S) = some (none, (I, zRs b, 103, S)) := xVret d144_177 zret_144
theorem run145 {h : zH} : zrun 145 [vR 87] h = zX 145 0 [vR 87, none] [] h := rfl
theorem e145_0 {I : Nat → Int → Int} {b : Bool} {S : Nat} : zX 145 0 [vR 87, none] [] (I, zRs b, 103, S) = zX 145 17 [vR 87, vI 0] [] ((sI (sI (sI I 87 15 0) 87 11 0) 87 19 0), zRs b, 103, S) := (xAload_n d145_0 rfl).trans ((xIconst d145_1).trans ((xPutI 15 d145_2 zo_145 zfl_11_72 rfl rfl (Nat.le_of_ble_eq_true rfl) (Or.inl rfl)).trans ((xAload_n d145_5 rfl).trans ((xIconst d145_6).trans ((xPutI 11 d145_7 zo_145 zfl_11_84 rfl rfl (Nat.le_of_ble_eq_true rfl) (Or.inl rfl)).trans ((xAload_n d145_10 rfl).trans ((xIconst d145_11).trans ((xPutI 19 d145_12 zo_145 zfl_11_125 rfl rfl (Nat.le_of_ble_eq_true rfl) (Or.inl rfl)).trans ((xIconst d145_15).trans (xIstore_n d145_16 rfl rfl))))))))))
theorem e145_17 {I : Nat → Int → Int} {b : Bool} {S : Nat} {a1 : Int} : zX 145 17 [vR 87, vI a1] [] (I, zRs b, 103, S) = if 234 ≤ a1 then (zrun 135 [vR 87] (I, zRs b, 103, S)).bind (fun q => zX 145 41 [vR 87, vI a1] (zpush q.1 []) q.2) else if 0 ≤ a1 ∧ a1 < 234 then zX 145 17 [vR 87, vI (wr (a1 + 1))] [] ((sI I 89 a1 0), zRs b, 103, S) else none := (xIload_n d145_17 rfl).trans ((xSipush d145_18).trans ((xIcmpGe (t := 37) d145_21 rfl).trans (ziteC ((xAload_n d145_37 rfl).trans (xInvV [vR 87] [] d145_38 zo_145 zml_11_110 rfl rfl rfl (Or.inl ⟨rfl, (Nat.le_of_ble_eq_true rfl)⟩))) ((xAload_n d145_24 rfl).trans ((xGetR 1 89 d145_25 zo_145 zfl_11_13 rfl rfl rfl (Or.inl (Nat.le_of_ble_eq_true rfl))).trans ((xIload_n d145_28 rfl).trans ((xIconst d145_29).trans ((xIast (N := 234) d145_30 rfl (Nat.le_of_ble_eq_true rfl) rfl).trans (ziteC ((xIinc d145_31 rfl rfl rfl).trans (xGoto (t := 17) d145_34 rfl)) rfl)))))))))
theorem e145_41 {I : Nat → Int → Int} {b : Bool} {S : Nat} {a1 : Int} : zX 145 41 [vR 87, vI a1] [] (I, zRs b, 103, S) = if (I 87 15) = 0 then (zrun 132 [vR 87] (I, zRs b, 103, S)).bind (fun q => zX 145 52 [vR 87, vI a1] (zpush q.1 []) q.2) else if (I 87 15) = 0 then (zrun 133 [vR 87] (I, zRs b, 103, S)).bind (fun q => zX 145 74 [vR 87, vI a1] (zpush q.1 [vR 87]) q.2) else zX 145 78 [vR 87, vI a1] [] (I, zRs b, 103, S) := (xAload_n d145_41 rfl).trans ((xGetI 15 (I 87 15) rfl d145_42 zo_145 zfl_11_72 (by decide) rfl rfl (Or.inl (Nat.le_of_ble_eq_true rfl))).trans ((xIfNe (t := 62) d145_45 rfl).trans (ziteC ((xAload_n d145_48 rfl).trans (xInvV [vR 87] [] d145_49 zo_145 zml_11_146 rfl rfl rfl (Or.inl ⟨rfl, (Nat.le_of_ble_eq_true rfl)⟩))) ((xAload_n d145_62 rfl).trans ((xGetI 15 (I 87 15) rfl d145_63 zo_145 zfl_11_72 (by decide) rfl rfl (Or.inl (Nat.le_of_ble_eq_true rfl))).trans ((xIfNe (t := 78) d145_66 rfl).trans (ziteC ((xAload_n d145_69 rfl).trans ((xAload_n d145_70 rfl).trans (xInvV [vR 87] [vR 87] d145_71 zo_145 zml_11_153 rfl rfl rfl (Or.inl ⟨rfl, (Nat.le_of_ble_eq_true rfl)⟩)))) rfl)))))))
theorem e145_52 {I : Nat → Int → Int} {b : Bool} {S : Nat} {a1 t0 : Int} : zX 145 52 [vR 87, vI a1] [vI t0] (I, zRs b, 103, S) = if t0 = 0 then if (I 87 15) = 0 then (zrun 133 [vR 87] (I, zRs b, 103, S)).bind (fun q => zX 145 74 [vR 87, vI a1] (zpush q.1 [vR 87]) q.2) else zX 145 78 [vR 87, vI a1] [] (I, zRs b, 103, S) else (zrun 139 [vR 87] (I, zRs b, 103, S)).bind (fun q => zX 145 59 [vR 87, vI a1] (zpush q.1 []) q.2) := (xIfEq (t := 62) d145_52 rfl).trans (ziteC ((xAload_n d145_62 rfl).trans ((xGetI 15 (I 87 15) rfl d145_63 zo_145 zfl_11_72 (by decide) rfl rfl (Or.inl (Nat.le_of_ble_eq_true rfl))).trans ((xIfNe (t := 78) d145_66 rfl).trans (ziteC ((xAload_n d145_69 rfl).trans ((xAload_n d145_70 rfl).trans (xInvV [vR 87] [vR 87] d145_71 zo_145 zml_11_153 rfl rfl rfl (Or.inl ⟨rfl, (Nat.le_of_ble_eq_true rfl)⟩)))) rfl)))) ((xAload_n d145_55 rfl).trans (xInvV [vR 87] [] d145_56 zo_145 zml_11_150 rfl rfl rfl (Or.inl ⟨rfl, (Nat.le_of_ble_eq_true rfl)⟩))))
theorem e145_59 {I : Nat → Int → Int} {b : Bool} {S : Nat} {a1 : Int} : zX 145 59 [vR 87, vI a1] [] (I, zRs b, 103, S) = zX 145 41 [vR 87, vI a1] [] (I, zRs b, 103, S) := xGoto (t := 41) d145_59 rfl
theorem e145_74 {I : Nat → Int → Int} {b : Bool} {S : Nat} {a1 t1 : Int} : zX 145 74 [vR 87, vI a1] [vI t1, vR 87] (I, zRs b, 103, S) = (zrun 129 [vR 87, vI t1, vI 2] (I, zRs b, 103, S)).bind (fun q => zX 145 78 [vR 87, vI a1] (zpush q.1 []) q.2) := (xIconst d145_74).trans (xInvV [vR 87, vI t1, vI 2] [] d145_75 zo_145 zml_11_106 rfl rfl rfl (Or.inl ⟨rfl, (Nat.le_of_ble_eq_true rfl)⟩))
theorem e145_78 {I : Nat → Int → Int} {b : Bool} {S : Nat} {a1 : Int} : zX 145 78 [vR 87, vI a1] [] (I, zRs b, 103, S) = (zrun 135 [vR 87] (I, zRs b, 103, S)).bind (fun q => zX 145 82 [vR 87, vI a1] (zpush q.1 []) q.2) := (xAload_n d145_78 rfl).trans (xInvV [vR 87] [] d145_79 zo_145 zml_11_110 rfl rfl rfl (Or.inl ⟨rfl, (Nat.le_of_ble_eq_true rfl)⟩))
theorem e145_82 {I : Nat → Int → Int} {b : Bool} {S : Nat} {a1 : Int} : zX 145 82 [vR 87, vI a1] [] (I, zRs b, 103, S) = (zrun 144 [vR 87] (I, zRs b, 103, S)).bind (fun q => zX 145 86 [vR 87, vI a1] (zpush q.1 []) q.2) := (xAload_n d145_82 rfl).trans (xInvV [vR 87] [] d145_83 zo_145 zml_11_156 rfl rfl rfl (Or.inl ⟨rfl, (Nat.le_of_ble_eq_true rfl)⟩))
theorem e145_86 {I : Nat → Int → Int} {b : Bool} {S : Nat} {a1 : Int} : zX 145 86 [vR 87, vI a1] [] (I, zRs b, 103, S) = if (I 87 15) = 0 then if (I 87 13) = 0 then (zrun 129 [vR 87, vI 1, vI 2] (I, zRs b, 103, S)).bind (fun q => zX 145 110 [vR 87, vI a1] (zpush q.1 []) q.2) else (zrun 129 [vR 87, vI 0, vI 2] (I, zRs b, 103, S)).bind (fun q => zX 145 110 [vR 87, vI a1] (zpush q.1 []) q.2) else zX 145 110 [vR 87, vI a1] [] (I, zRs b, 103, S) := (xAload_n d145_86 rfl).trans ((xGetI 15 (I 87 15) rfl d145_87 zo_145 zfl_11_72 (by decide) rfl rfl (Or.inl (Nat.le_of_ble_eq_true rfl))).trans ((xIfNe (t := 110) d145_90 rfl).trans (ziteC ((xAload_n d145_93 rfl).trans ((xAload_n d145_94 rfl).trans ((xGetI 13 (I 87 13) rfl d145_95 zo_145 zfl_11_81 (by decide) rfl rfl (Or.inl (Nat.le_of_ble_eq_true rfl))).trans ((xIfNe (t := 105) d145_98 rfl).trans (ziteC ((xIconst d145_101).trans ((xGoto (t := 106) d145_102 rfl).trans ((xIconst d145_106).trans (xInvV [vR 87, vI 1, vI 2] [] d145_107 zo_145 zml_11_106 rfl rfl rfl (Or.inl ⟨rfl, (Nat.le_of_ble_eq_true rfl)⟩))))) ((xIconst d145_105).trans ((xIconst d145_106).trans (xInvV [vR 87, vI 0, vI 2] [] d145_107 zo_145 zml_11_106 rfl rfl rfl (Or.inl ⟨rfl, (Nat.le_of_ble_eq_true rfl)⟩))))))))) rfl)))
theorem e145_110 {I : Nat → Int → Int} {b : Bool} {S : Nat} {a1 : Int} : zX 145 110 [vR 87, vI a1] [] (I, zRs b, 103, S) = if (I 87 15) ≤ 0 then (zrun 146 [vR 87] ((sI I 87 10 0), zRs b, 103, S)).bind (fun q => zX 145 134 [vR 87, vI a1] (zpush q.1 []) q.2) else some (some (vI (wr ((-10) - (I 87 16)))), ((sI I 87 10 0), zRs b, 103, S)) := (xAload_n d145_110 rfl).trans ((xIconst d145_111).trans ((xPutI 10 d145_112 zo_145 zfl_11_68 rfl rfl (Nat.le_of_ble_eq_true rfl) (Or.inl rfl)).trans ((xAload_n d145_115 rfl).trans ((xGetI 15 (I 87 15) (sI_k (by decide)) d145_116 zo_145 zfl_11_72 (by decide) rfl rfl (Or.inl (Nat.le_of_ble_eq_true rfl))).trans ((xIfLe (t := 130) d145_119 rfl).trans (ziteC ((xAload_n d145_130 rfl).trans (xInvV [vR 87] [] d145_131 zo_145 zml_11_159 rfl rfl rfl (Or.inl ⟨rfl, (Nat.le_of_ble_eq_true rfl)⟩))) ((xBipush d145_122).trans ((xAload_n d145_124 rfl).trans ((xGetI 16 (I 87 16) (sI_k (by decide)) d145_125 zo_145 zfl_11_78 (by decide) rfl rfl (Or.inl (Nat.le_of_ble_eq_true rfl))).trans ((xIsub d145_128).trans (xIret d145_129 zret_145)))))))))))
theorem e145_134 {I : Nat → Int → Int} {b : Bool} {S : Nat} {a1 : Int} : zX 145 134 [vR 87, vI a1] [] (I, zRs b, 103, S) = some (some (vI (I 88 1)), (I, zRs b, 103, S)) := (xAload_n d145_134 rfl).trans ((xGetR 0 88 d145_135 zo_145 zfl_11_7 rfl rfl rfl (Or.inl (Nat.le_of_ble_eq_true rfl))).trans ((xIconst d145_138).trans ((xIald (N := 234) (I 88 1) rfl d145_139 rfl (Or.inl (Nat.le_of_ble_eq_true rfl)) rfl).trans ((if_pos (by decide)).trans (xIret d145_140 zret_145)))))
theorem run146 {h : zH} : zrun 146 [vR 87] h = zX 146 0 [vR 87, none] [] h := rfl
theorem e146_0 {I : Nat → Int → Int} {b : Bool} {S : Nat} : zX 146 0 [vR 87, none] [] (I, zRs b, 103, S) = zX 146 2 [vR 87, vI 0] [] (I, zRs b, 103, S) := (xIconst d146_0).trans (xIstore_n d146_1 rfl rfl)
theorem e146_2 {I : Nat → Int → Int} {b : Bool} {S : Nat} {a1 : Int} : zX 146 2 [vR 87, vI a1] [] (I, zRs b, 103, S) = if 234 ≤ a1 then zX 146 34 [vR 87, vI 0] [] ((sI I 87 3 0), zRs b, 103, S) else if 0 ≤ a1 ∧ a1 < 234 then if 0 ≤ a1 ∧ a1 < 234 then zX 146 2 [vR 87, vI (wr (a1 + 1))] [] ((sI I 88 a1 (I 89 a1)), zRs b, 103, S) else none else none := (xIload_n d146_2 rfl).trans ((xSipush d146_3).trans ((xIcmpGe (t := 27) d146_6 rfl).trans (ziteC ((xAload_n d146_27 rfl).trans ((xIconst d146_28).trans ((xPutI 3 d146_29 zo_146 zfl_11_162 rfl rfl (Nat.le_of_ble_eq_true rfl) (Or.inl rfl)).trans ((xIconst d146_32).trans (xIstore_n d146_33 rfl rfl))))) ((xAload_n d146_9 rfl).trans ((xGetR 0 88 d146_10 zo_146 zfl_11_7 rfl rfl rfl (Or.inl (Nat.le_of_ble_eq_true rfl))).trans ((xIload_n d146_13 rfl).trans ((xAload_n d146_14 rfl).trans ((xGetR 1 89 d146_15 zo_146 zfl_11_13 rfl rfl rfl (Or.inl (Nat.le_of_ble_eq_true rfl))).trans ((xIload_n d146_18 rfl).trans ((xIald (N := 234) (I 89 a1) rfl d146_19 rfl (Or.inl (Nat.le_of_ble_eq_true rfl)) rfl).trans (ziteC ((xIast (N := 234) d146_20 rfl (Nat.le_of_ble_eq_true rfl) rfl).trans (ziteC ((xIinc d146_21 rfl rfl rfl).trans (xGoto (t := 2) d146_24 rfl)) rfl)) rfl)))))))))))
theorem e146_34 {I : Nat → Int → Int} {b : Bool} {S : Nat} {a1 : Int} : zX 146 34 [vR 87, vI a1] [] (I, zRs b, 103, S) = if (I 88 0) ≤ a1 then (zrun 165 [vR 87] ((sI (sI I 95 0 0) 95 1 0), zRs b, 103, S)).bind (fun q => zX 146 73 [vR 87, vI a1] (zpush q.1 []) q.2) else (zrun 151 [vR 87, vI a1] (I, zRs b, 103, S)).bind (fun q => zX 146 49 [vR 87, vI a1] (zpush q.1 []) q.2) := (xIload_n d146_34 rfl).trans ((xAload_n d146_35 rfl).trans ((xGetR 0 88 d146_36 zo_146 zfl_11_7 rfl rfl rfl (Or.inl (Nat.le_of_ble_eq_true rfl))).trans ((xIconst d146_39).trans ((xIald (N := 234) (I 88 0) rfl d146_40 rfl (Or.inl (Nat.le_of_ble_eq_true rfl)) rfl).trans ((if_pos (by decide)).trans ((xIcmpGe (t := 55) d146_41 rfl).trans (ziteC ((xAload_n d146_55 rfl).trans ((xGetR 8 95 d146_56 zo_146 zfl_11_31 rfl rfl rfl (Or.inl (Nat.le_of_ble_eq_true rfl))).trans ((xIconst d146_59).trans ((xIconst d146_60).trans ((xZast (N := 2) d146_61 rfl (Nat.le_of_ble_eq_true rfl) (by decide) rfl).trans ((if_pos (by decide)).trans ((xAload_n d146_62 rfl).trans ((xGetR 8 95 d146_63 zo_146 zfl_11_31 rfl rfl rfl (Or.inl (Nat.le_of_ble_eq_true rfl))).trans ((xIconst d146_66).trans ((xIconst d146_67).trans ((xZast (N := 2) d146_68 rfl (Nat.le_of_ble_eq_true rfl) (by decide) rfl).trans ((if_pos (by decide)).trans ((xAload_n d146_69 rfl).trans (xInvV [vR 87] [] d146_70 zo_146 zml_11_59 rfl rfl rfl (Or.inl ⟨rfl, (Nat.le_of_ble_eq_true rfl)⟩))))))))))))))) ((xAload_n d146_44 rfl).trans ((xIload_n d146_45 rfl).trans (xInvV [vR 87, vI a1] [] d146_46 zo_146 zml_11_165 rfl rfl rfl (Or.inl ⟨rfl, (Nat.le_of_ble_eq_true rfl)⟩)))))))))))
theorem e146_49 {I : Nat → Int → Int} {b : Bool} {S : Nat} {a1 : Int} : zX 146 49 [vR 87, vI a1] [] (I, zRs b, 103, S) = zX 146 34 [vR 87, vI (wr (a1 + 1))] [] (I, zRs b, 103, S) := (xIinc d146_49 rfl rfl rfl).trans (xGoto (t := 34) d146_52 rfl)
theorem e146_73 {I : Nat → Int → Int} {b : Bool} {S : Nat} {a1 : Int} : zX 146 73 [vR 87, vI a1] [] (I, zRs b, 103, S) = some (none, (I, zRs b, 103, S)) := xVret d146_73 zret_146
theorem run147 {h : zH} : zrun 147 [vR 87] h = zX 147 0 [vR 87] [] h := rfl
theorem e147_0 {I : Nat → Int → Int} {b : Bool} {S : Nat} : zX 147 0 [vR 87] [] (I, zRs b, 103, S) = some (some (vI (I 87 15)), (I, zRs b, 103, S)) := (xAload_n d147_0 rfl).trans ((xGetI 15 (I 87 15) rfl d147_1 zo_147 zfl_11_72 (by decide) rfl rfl (Or.inl (Nat.le_of_ble_eq_true rfl))).trans (xIret d147_4 zret_147))
theorem run148 {h : zH} {x0 : Int} : zrun 148 [vR 87, vI x0] h = zX 148 0 [vR 87, vI x0] [] h := rfl
theorem e148_0 {I : Nat → Int → Int} {b : Bool} {S : Nat} {x0 : Int} : zX 148 0 [vR 87, vI x0] [] (I, zRs b, 103, S) = if 0 ≤ (wr (2 + (wr (17 * x0)))) ∧ (wr (2 + (wr (17 * x0)))) < 234 then some (some (vI (I 88 (wr (2 + (wr (17 * x0)))))), (I, zRs b, 103, S)) else none := (xAload_n d148_0 rfl).trans ((xGetR 0 88 d148_1 zo_148 zfl_11_7 rfl rfl rfl (Or.inl (Nat.le_of_ble_eq_true rfl))).trans ((xIconst d148_4).trans ((xBipush d148_5).trans ((xIload_n d148_7 rfl).trans ((xImul d148_8).trans ((xIadd d148_9).trans ((xIald (N := 234) (I 88 (wr (2 + (wr (17 * x0))))) rfl d148_10 rfl (Or.inl (Nat.le_of_ble_eq_true rfl)) rfl).trans (ziteC (xIret d148_11 zret_148) rfl))))))))
theorem run149 {h : zH} {x0 x1 : Int} : zrun 149 [vR 87, vI x0, vI x1] h = zX 149 0 [vR 87, vI x0, vI x1] [] h := rfl
theorem e149_0 {I : Nat → Int → Int} {b : Bool} {S : Nat} {x0 x1 : Int} : zX 149 0 [vR 87, vI x0, vI x1] [] (I, zRs b, 103, S) = if 0 ≤ (wr ((wr ((wr (2 + (wr (17 * x0)))) + 1)) + x1)) ∧ (wr ((wr ((wr (2 + (wr (17 * x0)))) + 1)) + x1)) < 234 then some (some (vI (I 88 (wr ((wr ((wr (2 + (wr (17 * x0)))) + 1)) + x1)))), (I, zRs b, 103, S)) else none := (xAload_n d149_0 rfl).trans ((xGetR 0 88 d149_1 zo_149 zfl_11_7 rfl rfl rfl (Or.inl (Nat.le_of_ble_eq_true rfl))).trans ((xIconst d149_4).trans ((xBipush d149_5).trans ((xIload_n d149_7 rfl).trans ((xImul d149_8).trans ((xIadd d149_9).trans ((xIconst d149_10).trans ((xIadd d149_11).trans ((xIload_n d149_12 rfl).trans ((xIadd d149_13).trans ((xIald (N := 234) (I 88 (wr ((wr ((wr (2 + (wr (17 * x0)))) + 1)) + x1))) rfl d149_14 rfl (Or.inl (Nat.le_of_ble_eq_true rfl)) rfl).trans (ziteC (xIret d149_15 zret_149) rfl))))))))))))
theorem run150 {h : zH} {x0 x1 : Int} : zrun 150 [vR 87, vI x0, vI x1] h = zX 150 0 [vR 87, vI x0, vI x1, none] [] h := rfl
theorem e150_0 {I : Nat → Int → Int} {b : Bool} {S : Nat} {x0 x1 : Int} : zX 150 0 [vR 87, vI x0, vI x1, none] [] (I, zRs b, 103, S) = zX 150 2 [vR 87, vI x0, vI x1, vI 0] [] (I, zRs b, 103, S) := (xIconst d150_0).trans (xIstore_n d150_1 rfl rfl)
theorem e150_2 {I : Nat → Int → Int} {b : Bool} {S : Nat} {a1 a2 a3 : Int} : zX 150 2 [vR 87, vI a1, vI a2, vI a3] [] (I, zRs b, 103, S) = (zrun 148 [vR 87, vI a1] (I, zRs b, 103, S)).bind (fun q => zX 150 8 [vR 87, vI a1, vI a2, vI a3] (zpush q.1 [vI a3]) q.2) := (xIload_n d150_2 rfl).trans ((xAload_n d150_3 rfl).trans ((xIload_n d150_4 rfl).trans (xInvV [vR 87, vI a1] [vI a3] d150_5 zo_150 zml_11_168 rfl rfl rfl (Or.inl ⟨rfl, (Nat.le_of_ble_eq_true rfl)⟩))))
theorem e150_8 {I : Nat → Int → Int} {b : Bool} {S : Nat} {a1 a2 a3 t0 t1 : Int} : zX 150 8 [vR 87, vI a1, vI a2, vI a3] [vI t1, vI t0] (I, zRs b, 103, S) = if t1 ≤ t0 then some (some (vI a3), (I, zRs b, 103, S)) else if (I 87 3) ≤ (wr (a2 + a3)) then some (some (vI a3), (I, zRs b, 103, S)) else if 0 ≤ (wr (a2 + a3)) ∧ (wr (a2 + a3)) < 128 then (zrun 149 [vR 87, vI a1, vI a3] (I, zRs b, 103, S)).bind (fun q => zX 150 35 [vR 87, vI a1, vI a2, vI a3] (zpush q.1 [vI (I 90 (wr (a2 + a3)))]) q.2) else none := (xIcmpGe (t := 47) d150_8 rfl).trans (ziteC ((xIload_n d150_47 rfl).trans (xIret d150_48 zret_150)) ((xIload_n d150_11 rfl).trans ((xIload_n d150_12 rfl).trans ((xIadd d150_13).trans ((xAload_n d150_14 rfl).trans ((xGetI 3 (I 87 3) rfl d150_15 zo_150 zfl_11_162 (by decide) rfl rfl (Or.inl (Nat.le_of_ble_eq_true rfl))).trans ((xIcmpGe (t := 47) d150_18 rfl).trans (ziteC ((xIload_n d150_47 rfl).trans (xIret d150_48 zret_150)) ((xAload_n d150_21 rfl).trans ((xGetR 2 90 d150_22 zo_150 zfl_11_16 rfl rfl rfl (Or.inl (Nat.le_of_ble_eq_true rfl))).trans ((xIload_n d150_25 rfl).trans ((xIload_n d150_26 rfl).trans ((xIadd d150_27).trans ((xIald (N := 128) (I 90 (wr (a2 + a3))) rfl d150_28 rfl (Or.inl (Nat.le_of_ble_eq_true rfl)) rfl).trans (ziteC ((xAload_n d150_29 rfl).trans ((xIload_n d150_30 rfl).trans ((xIload_n d150_31 rfl).trans (xInvV [vR 87, vI a1, vI a3] [vI (I 90 (wr (a2 + a3)))] d150_32 zo_150 zml_11_171 rfl rfl rfl (Or.inl ⟨rfl, (Nat.le_of_ble_eq_true rfl)⟩))))) rfl)))))))))))))))
theorem e150_35 {I : Nat → Int → Int} {b : Bool} {S : Nat} {a1 a2 a3 t0 t1 : Int} : zX 150 35 [vR 87, vI a1, vI a2, vI a3] [vI t1, vI t0] (I, zRs b, 103, S) = if t0 = t1 then zX 150 2 [vR 87, vI a1, vI a2, vI (wr (a3 + 1))] [] (I, zRs b, 103, S) else some (some (vI (-4)), (I, zRs b, 103, S)) := (xIcmpEq (t := 41) d150_35 rfl).trans (ziteC ((xIinc d150_41 rfl rfl rfl).trans (xGoto (t := 2) d150_44 rfl)) ((xBipush d150_38).trans (xIret d150_40 zret_150)))
theorem run151 {h : zH} {x0 : Int} : zrun 151 [vR 87, vI x0] h = zX 151 0 [vR 87, vI x0, none, none] [] h := rfl
theorem e151_0 {I : Nat → Int → Int} {b : Bool} {S : Nat} {x0 : Int} : zX 151 0 [vR 87, vI x0, none, none] [] (I, zRs b, 103, S) = zX 151 2 [vR 87, vI x0, vI 0, none] [] (I, zRs b, 103, S) := (xIconst d151_0).trans (xIstore_n d151_1 rfl rfl)
theorem e151_2 {I : Nat → Int → Int} {b : Bool} {S : Nat} {a1 a2 : Int} : zX 151 2 [vR 87, vI a1, vI a2, none] [] (I, zRs b, 103, S) = if (I 87 3) ≤ a2 then if a2 = (I 87 3) then zX 151 40 [vR 87, vI a1, vI 0, none] [] (I, zRs b, 103, S) else if 0 ≤ a1 ∧ a1 < 8 then if 0 ≤ a1 ∧ a1 < 8 then zX 151 86 [vR 87, vI a1, vI a2, vI (wr ((I 87 3) - a2))] [] ((sI (sI I 91 a1 a2) 92 a1 0), zRs b, 103, S) else none else none else (zrun 150 [vR 87, vI a1, vI a2] (I, zRs b, 103, S)).bind (fun q => zX 151 16 [vR 87, vI a1, vI a2, none] (zpush q.1 []) q.2) := (xIload_n d151_2 rfl).trans ((xAload_n d151_3 rfl).trans ((xGetI 3 (I 87 3) rfl d151_4 zo_151 zfl_11_162 (by decide) rfl rfl (Or.inl (Nat.le_of_ble_eq_true rfl))).trans ((xIcmpGe (t := 30) d151_7 rfl).trans (ziteC ((xIload_n d151_30 rfl).trans ((xAload_n d151_31 rfl).trans ((xGetI 3 (I 87 3) rfl d151_32 zo_151 zfl_11_162 (by decide) rfl rfl (Or.inl (Nat.le_of_ble_eq_true rfl))).trans ((xIcmpNe (t := 65) d151_35 rfl).trans (ziteC ((xIconst d151_38).trans (xIstore_n d151_39 rfl rfl)) ((xAload_n d151_65 rfl).trans ((xGetR 4 91 d151_66 zo_151 zfl_11_19 rfl rfl rfl (Or.inl (Nat.le_of_ble_eq_true rfl))).trans ((xIload_n d151_69 rfl).trans ((xIload_n d151_70 rfl).trans ((xIast (N := 8) d151_71 rfl (Nat.le_of_ble_eq_true rfl) rfl).trans (ziteC ((xAload_n d151_72 rfl).trans ((xGetR 5 92 d151_73 zo_151 zfl_11_22 rfl rfl rfl (Or.inl (Nat.le_of_ble_eq_true rfl))).trans ((xIload_n d151_76 rfl).trans ((xIconst d151_77).trans ((xIast (N := 8) d151_78 rfl (Nat.le_of_ble_eq_true rfl) rfl).trans (ziteC ((xAload_n d151_79 rfl).trans ((xGetI 3 (I 87 3) ((sI_p (by decide)).trans (sI_p (by decide))) d151_80 zo_151 zfl_11_162 (by decide) rfl rfl (Or.inl (Nat.le_of_ble_eq_true rfl))).trans ((xIload_n d151_83 rfl).trans ((xIsub d151_84).trans (xIstore_n d151_85 rfl rfl))))) rfl)))))) rfl))))))))))) ((xAload_n d151_10 rfl).trans ((xIload_n d151_11 rfl).trans ((xIload_n d151_12 rfl).trans (xInvV [vR 87, vI a1, vI a2] [] d151_13 zo_151 zml_11_174 rfl rfl rfl (Or.inl ⟨rfl, (Nat.le_of_ble_eq_true rfl)⟩)))))))))
theorem e151_16 {I : Nat → Int → Int} {b : Bool} {S : Nat} {a1 a2 t0 : Int} : zX 151 16 [vR 87, vI a1, vI a2, none] [vI t0] (I, zRs b, 103, S) = (zrun 148 [vR 87, vI a1] (I, zRs b, 103, S)).bind (fun q => zX 151 21 [vR 87, vI a1, vI a2, none] (zpush q.1 [vI t0]) q.2) := (xAload_n d151_16 rfl).trans ((xIload_n d151_17 rfl).trans (xInvV [vR 87, vI a1] [vI t0] d151_18 zo_151 zml_11_168 rfl rfl rfl (Or.inl ⟨rfl, (Nat.le_of_ble_eq_true rfl)⟩)))
theorem e151_21 {I : Nat → Int → Int} {b : Bool} {S : Nat} {a1 a2 t0 t1 : Int} : zX 151 21 [vR 87, vI a1, vI a2, none] [vI t1, vI t0] (I, zRs b, 103, S) = if t0 = t1 then if a2 = (I 87 3) then zX 151 40 [vR 87, vI a1, vI 0, none] [] (I, zRs b, 103, S) else if 0 ≤ a1 ∧ a1 < 8 then if 0 ≤ a1 ∧ a1 < 8 then zX 151 86 [vR 87, vI a1, vI a2, vI (wr ((I 87 3) - a2))] [] ((sI (sI I 91 a1 a2) 92 a1 0), zRs b, 103, S) else none else none else zX 151 2 [vR 87, vI a1, vI (wr (a2 + 1)), none] [] (I, zRs b, 103, S) := (xIcmpEq (t := 30) d151_21 rfl).trans (ziteC ((xIload_n d151_30 rfl).trans ((xAload_n d151_31 rfl).trans ((xGetI 3 (I 87 3) rfl d151_32 zo_151 zfl_11_162 (by decide) rfl rfl (Or.inl (Nat.le_of_ble_eq_true rfl))).trans ((xIcmpNe (t := 65) d151_35 rfl).trans (ziteC ((xIconst d151_38).trans (xIstore_n d151_39 rfl rfl)) ((xAload_n d151_65 rfl).trans ((xGetR 4 91 d151_66 zo_151 zfl_11_19 rfl rfl rfl (Or.inl (Nat.le_of_ble_eq_true rfl))).trans ((xIload_n d151_69 rfl).trans ((xIload_n d151_70 rfl).trans ((xIast (N := 8) d151_71 rfl (Nat.le_of_ble_eq_true rfl) rfl).trans (ziteC ((xAload_n d151_72 rfl).trans ((xGetR 5 92 d151_73 zo_151 zfl_11_22 rfl rfl rfl (Or.inl (Nat.le_of_ble_eq_true rfl))).trans ((xIload_n d151_76 rfl).trans ((xIconst d151_77).trans ((xIast (N := 8) d151_78 rfl (Nat.le_of_ble_eq_true rfl) rfl).trans (ziteC ((xAload_n d151_79 rfl).trans ((xGetI 3 (I 87 3) ((sI_p (by decide)).trans (sI_p (by decide))) d151_80 zo_151 zfl_11_162 (by decide) rfl rfl (Or.inl (Nat.le_of_ble_eq_true rfl))).trans ((xIload_n d151_83 rfl).trans ((xIsub d151_84).trans (xIstore_n d151_85 rfl rfl))))) rfl)))))) rfl))))))))))) ((xIinc d151_24 rfl rfl rfl).trans (xGoto (t := 2) d151_27 rfl)))
theorem e151_40 {I : Nat → Int → Int} {b : Bool} {S : Nat} {a1 a2 : Int} : zX 151 40 [vR 87, vI a1, vI a2, none] [] (I, zRs b, 103, S) = if (I 87 3) ≤ a2 then if 0 ≤ a1 ∧ a1 < 8 then if 0 ≤ a1 ∧ a1 < 8 then zX 151 86 [vR 87, vI a1, vI a2, vI (wr ((I 87 3) - a2))] [] ((sI (sI I 91 a1 a2) 92 a1 0), zRs b, 103, S) else none else none else (zrun 150 [vR 87, vI a1, vI a2] (I, zRs b, 103, S)).bind (fun q => zX 151 54 [vR 87, vI a1, vI a2, none] (zpush q.1 []) q.2) := (xIload_n d151_40 rfl).trans ((xAload_n d151_41 rfl).trans ((xGetI 3 (I 87 3) rfl d151_42 zo_151 zfl_11_162 (by decide) rfl rfl (Or.inl (Nat.le_of_ble_eq_true rfl))).trans ((xIcmpGe (t := 65) d151_45 rfl).trans (ziteC ((xAload_n d151_65 rfl).trans ((xGetR 4 91 d151_66 zo_151 zfl_11_19 rfl rfl rfl (Or.inl (Nat.le_of_ble_eq_true rfl))).trans ((xIload_n d151_69 rfl).trans ((xIload_n d151_70 rfl).trans ((xIast (N := 8) d151_71 rfl (Nat.le_of_ble_eq_true rfl) rfl).trans (ziteC ((xAload_n d151_72 rfl).trans ((xGetR 5 92 d151_73 zo_151 zfl_11_22 rfl rfl rfl (Or.inl (Nat.le_of_ble_eq_true rfl))).trans ((xIload_n d151_76 rfl).trans ((xIconst d151_77).trans ((xIast (N := 8) d151_78 rfl (Nat.le_of_ble_eq_true rfl) rfl).trans (ziteC ((xAload_n d151_79 rfl).trans ((xGetI 3 (I 87 3) ((sI_p (by decide)).trans (sI_p (by decide))) d151_80 zo_151 zfl_11_162 (by decide) rfl rfl (Or.inl (Nat.le_of_ble_eq_true rfl))).trans ((xIload_n d151_83 rfl).trans ((xIsub d151_84).trans (xIstore_n d151_85 rfl rfl))))) rfl)))))) rfl)))))) ((xAload_n d151_48 rfl).trans ((xIload_n d151_49 rfl).trans ((xIload_n d151_50 rfl).trans (xInvV [vR 87, vI a1, vI a2] [] d151_51 zo_151 zml_11_174 rfl rfl rfl (Or.inl ⟨rfl, (Nat.le_of_ble_eq_true rfl)⟩)))))))))
theorem e151_54 {I : Nat → Int → Int} {b : Bool} {S : Nat} {a1 a2 t0 : Int} : zX 151 54 [vR 87, vI a1, vI a2, none] [vI t0] (I, zRs b, 103, S) = if t0 = (-4) then zX 151 40 [vR 87, vI a1, vI (wr (a2 + 1)), none] [] (I, zRs b, 103, S) else if 0 ≤ a1 ∧ a1 < 8 then if 0 ≤ a1 ∧ a1 < 8 then zX 151 86 [vR 87, vI a1, vI a2, vI (wr ((I 87 3) - a2))] [] ((sI (sI I 91 a1 a2) 92 a1 0), zRs b, 103, S) else none else none := (xBipush d151_54).trans ((xIcmpNe (t := 65) d151_56 rfl).trans (ziteC ((xIinc d151_59 rfl rfl rfl).trans (xGoto (t := 40) d151_62 rfl)) ((xAload_n d151_65 rfl).trans ((xGetR 4 91 d151_66 zo_151 zfl_11_19 rfl rfl rfl (Or.inl (Nat.le_of_ble_eq_true rfl))).trans ((xIload_n d151_69 rfl).trans ((xIload_n d151_70 rfl).trans ((xIast (N := 8) d151_71 rfl (Nat.le_of_ble_eq_true rfl) rfl).trans (ziteC ((xAload_n d151_72 rfl).trans ((xGetR 5 92 d151_73 zo_151 zfl_11_22 rfl rfl rfl (Or.inl (Nat.le_of_ble_eq_true rfl))).trans ((xIload_n d151_76 rfl).trans ((xIconst d151_77).trans ((xIast (N := 8) d151_78 rfl (Nat.le_of_ble_eq_true rfl) rfl).trans (ziteC ((xAload_n d151_79 rfl).trans ((xGetI 3 (I 87 3) ((sI_p (by decide)).trans (sI_p (by decide))) d151_80 zo_151 zfl_11_162 (by decide) rfl rfl (Or.inl (Nat.le_of_ble_eq_true rfl))).trans ((xIload_n d151_83 rfl).trans ((xIsub d151_84).trans (xIstore_n d151_85 rfl rfl))))) rfl)))))) rfl))))))))
theorem e151_86 {I : Nat → Int → Int} {b : Bool} {S : Nat} {a1 a2 a3 : Int} : zX 151 86 [vR 87, vI a1, vI a2, vI a3] [] (I, zRs b, 103, S) = (zrun 148 [vR 87, vI a1] (I, zRs b, 103, S)).bind (fun q => zX 151 92 [vR 87, vI a1, vI a2, vI a3] (zpush q.1 [vI a3]) q.2) := (xIload_n d151_86 rfl).trans ((xAload_n d151_87 rfl).trans ((xIload_n d151_88 rfl).trans (xInvV [vR 87, vI a1] [vI a3] d151_89 zo_151 zml_11_168 rfl rfl rfl (Or.inl ⟨rfl, (Nat.le_of_ble_eq_true rfl)⟩))))
theorem e151_92 {I : Nat → Int → Int} {b : Bool} {S : Nat} {a1 a2 a3 t0 t1 : Int} : zX 151 92 [vR 87, vI a1, vI a2, vI a3] [vI t1, vI t0] (I, zRs b, 103, S) = if t1 ≤ t0 then some (none, (I, zRs b, 103, S)) else (zrun 149 [vR 87, vI a1, vI a3] (I, zRs b, 103, S)).bind (fun q => zX 151 109 [vR 87, vI a1, vI a2, vI a3] (zpush q.1 [vI (I 87 3), vR 90]) q.2) := (xIcmpGe (t := 136) d151_92 rfl).trans (ziteC (xVret d151_136 zret_151) ((xAload_n d151_95 rfl).trans ((xGetR 2 90 d151_96 zo_151 zfl_11_16 rfl rfl rfl (Or.inl (Nat.le_of_ble_eq_true rfl))).trans ((xAload_n d151_99 rfl).trans ((xGetI 3 (I 87 3) rfl d151_100 zo_151 zfl_11_162 (by decide) rfl rfl (Or.inl (Nat.le_of_ble_eq_true rfl))).trans ((xAload_n d151_103 rfl).trans ((xIload_n d151_104 rfl).trans ((xIload_n d151_105 rfl).trans (xInvV [vR 87, vI a1, vI a3] [vI (I 87 3), vR 90] d151_106 zo_151 zml_11_171 rfl rfl rfl (Or.inl ⟨rfl, (Nat.le_of_ble_eq_true rfl)⟩))))))))))
theorem e151_109 {I : Nat → Int → Int} {b : Bool} {S : Nat} {a1 a2 a3 t1 t2 : Int} : zX 151 109 [vR 87, vI a1, vI a2, vI a3] [vI t2, vI t1, vR 90] (I, zRs b, 103, S) = if 0 ≤ t1 ∧ t1 < 128 then if 0 ≤ a1 ∧ a1 < 8 then if 0 ≤ a1 ∧ a1 < 8 then zX 151 86 [vR 87, vI a1, vI a2, vI (wr (a3 + 1))] [] ((sI (sI (sI I 90 t1 t2) 87 3 (wr ((I 87 3) + 1))) 92 a1 (wr ((I 92 a1) + 1))), zRs b, 103, S) else none else none else none := (xIast (N := 128) d151_109 rfl (Nat.le_of_ble_eq_true rfl) rfl).trans (ziteC ((xAload_n d151_110 rfl).trans ((xDup d151_111 rfl).trans ((xGetI 3 (I 87 3) (sI_p (by decide)) d151_112 zo_151 zfl_11_162 (by decide) rfl rfl (Or.inl (Nat.le_of_ble_eq_true rfl))).trans ((xIconst d151_115).trans ((xIadd d151_116).trans ((xPutI 3 d151_117 zo_151 zfl_11_162 rfl rfl (Nat.le_of_ble_eq_true rfl) (Or.inl rfl)).trans ((xAload_n d151_120 rfl).trans ((xGetR 5 92 d151_121 zo_151 zfl_11_22 rfl rfl rfl (Or.inl (Nat.le_of_ble_eq_true rfl))).trans ((xIload_n d151_124 rfl).trans ((xDup2 d151_125 rfl rfl).trans ((xIald (N := 8) (I 92 a1) ((sI_p (by decide)).trans (sI_p (by decide))) d151_126 rfl (Or.inl (Nat.le_of_ble_eq_true rfl)) rfl).trans (ziteC ((xIconst d151_127).trans ((xIadd d151_128).trans ((xIast (N := 8) d151_129 rfl (Nat.le_of_ble_eq_true rfl) rfl).trans (ziteC ((xIinc d151_130 rfl rfl rfl).trans (xGoto (t := 86) d151_133 rfl)) rfl)))) rfl)))))))))))) rfl)
theorem run152 {h : zH} : zrun 152 [vR 87] h = zX 152 0 [vR 87, none, none] [] h := rfl
theorem e152_0 {I : Nat → Int → Int} {b : Bool} {S : Nat} : zX 152 0 [vR 87, none, none] [] (I, zRs b, 103, S) = zX 152 4 [vR 87, vI 0, vI 0] [] (I, zRs b, 103, S) := (xIconst d152_0).trans ((xIstore_n d152_1 rfl rfl).trans ((xIconst d152_2).trans (xIstore_n d152_3 rfl rfl)))
theorem e152_4 {I : Nat → Int → Int} {b : Bool} {S : Nat} {a1 a2 : Int} : zX 152 4 [vR 87, vI a1, vI a2] [] (I, zRs b, 103, S) = if (I 88 0) ≤ a2 then some (some (vI a1), (I, zRs b, 103, S)) else (zrun 148 [vR 87, vI a2] (I, zRs b, 103, S)).bind (fun q => zX 152 20 [vR 87, vI a1, vI a2] (zpush q.1 [vI a1]) q.2) := (xIload_n d152_4 rfl).trans ((xAload_n d152_5 rfl).trans ((xGetR 0 88 d152_6 zo_152 zfl_11_7 rfl rfl rfl (Or.inl (Nat.le_of_ble_eq_true rfl))).trans ((xIconst d152_9).trans ((xIald (N := 234) (I 88 0) rfl d152_10 rfl (Or.inl (Nat.le_of_ble_eq_true rfl)) rfl).trans ((if_pos (by decide)).trans ((xIcmpGe (t := 28) d152_11 rfl).trans (ziteC ((xIload_n d152_28 rfl).trans (xIret d152_29 zret_152)) ((xIload_n d152_14 rfl).trans ((xAload_n d152_15 rfl).trans ((xIload_n d152_16 rfl).trans (xInvV [vR 87, vI a2] [vI a1] d152_17 zo_152 zml_11_168 rfl rfl rfl (Or.inl ⟨rfl, (Nat.le_of_ble_eq_true rfl)⟩))))))))))))
theorem e152_20 {I : Nat → Int → Int} {b : Bool} {S : Nat} {a1 a2 t0 t1 : Int} : zX 152 20 [vR 87, vI a1, vI a2] [vI t1, vI t0] (I, zRs b, 103, S) = zX 152 4 [vR 87, vI (wr (t0 + t1)), vI (wr (a2 + 1))] [] (I, zRs b, 103, S) := (xIadd d152_20).trans ((xIstore_n d152_21 rfl rfl).trans ((xIinc d152_22 rfl rfl rfl).trans (xGoto (t := 4) d152_25 rfl)))
