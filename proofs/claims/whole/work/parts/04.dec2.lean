theorem dX12_every_37 : decode cX12_every 37 = .ok (.invokevirtual 78, 3) := by decide +kernel
theorem dX12_every_40 : decode cX12_every 40 = .ok (.goto (-36), 3) := by decide +kernel
theorem dX12_every_43 : decode cX12_every 43 = .ok (.return_, 1) := by decide +kernel
theorem dX12_some_0 : decode cX12_some 0 = .ok (.aload_n 0, 1) := by decide +kernel
theorem dX12_some_1 : decode cX12_some 1 = .ok (.invokevirtual 95, 3) := by decide +kernel
theorem dX12_some_4 : decode cX12_some 4 = .ok (.aload_n 0, 1) := by decide +kernel
theorem dX12_some_5 : decode cX12_some 5 = .ok (.getfield 48, 3) := by decide +kernel
theorem dX12_some_8 : decode cX12_some 8 = .ok (.ifCond .ne 35, 3) := by decide +kernel
theorem dX12_some_11 : decode cX12_some 11 = .ok (.aload_n 0, 1) := by decide +kernel
theorem dX12_some_12 : decode cX12_some 12 = .ok (.invokevirtual 52, 3) := by decide +kernel
theorem dX12_some_15 : decode cX12_some 15 = .ok (.bipush 124, 2) := by decide +kernel
theorem dX12_some_17 : decode cX12_some 17 = .ok (.if_icmp .ne 26, 3) := by decide +kernel
theorem dX12_some_20 : decode cX12_some 20 = .ok (.aload_n 0, 1) := by decide +kernel
theorem dX12_some_21 : decode cX12_some 21 = .ok (.dup, 1) := by decide +kernel
theorem dX12_some_22 : decode cX12_some 22 = .ok (.getfield 42, 3) := by decide +kernel
theorem dX12_some_25 : decode cX12_some 25 = .ok (.iconst 1, 1) := by decide +kernel
theorem dX12_some_26 : decode cX12_some 26 = .ok (.iadd, 1) := by decide +kernel
theorem dX12_some_27 : decode cX12_some 27 = .ok (.putfield 42, 3) := by decide +kernel
theorem dX12_some_30 : decode cX12_some 30 = .ok (.aload_n 0, 1) := by decide +kernel
theorem dX12_some_31 : decode cX12_some 31 = .ok (.invokevirtual 95, 3) := by decide +kernel
theorem dX12_some_34 : decode cX12_some 34 = .ok (.aload_n 0, 1) := by decide +kernel
theorem dX12_some_35 : decode cX12_some 35 = .ok (.bipush (-3), 2) := by decide +kernel
theorem dX12_some_37 : decode cX12_some 37 = .ok (.invokevirtual 78, 3) := by decide +kernel
theorem dX12_some_40 : decode cX12_some 40 = .ok (.goto (-36), 3) := by decide +kernel
theorem dX12_some_43 : decode cX12_some 43 = .ok (.return_, 1) := by decide +kernel
theorem dX12_tellsHere_0 : decode cX12_tellsHere 0 = .ok (.aload_n 0, 1) := by decide +kernel
theorem dX12_tellsHere_1 : decode cX12_tellsHere 1 = .ok (.aload_n 2, 1) := by decide +kernel
theorem dX12_tellsHere_2 : decode cX12_tellsHere 2 = .ok (.invokevirtual 98, 3) := by decide +kernel
theorem dX12_tellsHere_5 : decode cX12_tellsHere 5 = .ok (.aload_n 0, 1) := by decide +kernel
theorem dX12_tellsHere_6 : decode cX12_tellsHere 6 = .ok (.invokevirtual 92, 3) := by decide +kernel
theorem dX12_tellsHere_9 : decode cX12_tellsHere 9 = .ok (.istore_n 3, 1) := by decide +kernel
theorem dX12_tellsHere_10 : decode cX12_tellsHere 10 = .ok (.aload_n 0, 1) := by decide +kernel
theorem dX12_tellsHere_11 : decode cX12_tellsHere 11 = .ok (.getfield 48, 3) := by decide +kernel
theorem dX12_tellsHere_14 : decode cX12_tellsHere 14 = .ok (.ifCond .ne 15, 3) := by decide +kernel
theorem dX12_tellsHere_17 : decode cX12_tellsHere 17 = .ok (.aload_n 0, 1) := by decide +kernel
theorem dX12_tellsHere_18 : decode cX12_tellsHere 18 = .ok (.getfield 9, 3) := by decide +kernel
theorem dX12_tellsHere_21 : decode cX12_tellsHere 21 = .ok (.iload_n 1, 1) := by decide +kernel
theorem dX12_tellsHere_22 : decode cX12_tellsHere 22 = .ok (.aload_n 0, 1) := by decide +kernel
theorem dX12_tellsHere_23 : decode cX12_tellsHere 23 = .ok (.getfield 69, 3) := by decide +kernel
theorem dX12_tellsHere_26 : decode cX12_tellsHere 26 = .ok (.iadd, 1) := by decide +kernel
theorem dX12_tellsHere_27 : decode cX12_tellsHere 27 = .ok (.iload_n 3, 1) := by decide +kernel
theorem dX12_tellsHere_28 : decode cX12_tellsHere 28 = .ok (.iastore, 1) := by decide +kernel
theorem dX12_tellsHere_29 : decode cX12_tellsHere 29 = .ok (.return_, 1) := by decide +kernel
theorem dX12_clauseHere_0 : decode cX12_clauseHere 0 = .ok (.aload_n 0, 1) := by decide +kernel
theorem dX12_clauseHere_1 : decode cX12_clauseHere 1 = .ok (.invokevirtual 52, 3) := by decide +kernel
theorem dX12_clauseHere_4 : decode cX12_clauseHere 4 = .ok (.lookupswitch 112 #[(99, 68), (108, 56), (115, 80), (119, 44)], 44) := by decide +kernel
theorem dX12_clauseHere_48 : decode cX12_clauseHere 48 = .ok (.aload_n 0, 1) := by decide +kernel
theorem dX12_clauseHere_49 : decode cX12_clauseHere 49 = .ok (.sipush 228, 3) := by decide +kernel
theorem dX12_clauseHere_52 : decode cX12_clauseHere 52 = .ok (.ldc 102, 2) := by decide +kernel
theorem dX12_clauseHere_54 : decode cX12_clauseHere 54 = .ok (.invokevirtual 104, 3) := by decide +kernel
theorem dX12_clauseHere_57 : decode cX12_clauseHere 57 = .ok (.goto 64, 3) := by decide +kernel
theorem dX12_clauseHere_60 : decode cX12_clauseHere 60 = .ok (.aload_n 0, 1) := by decide +kernel
theorem dX12_clauseHere_61 : decode cX12_clauseHere 61 = .ok (.sipush 233, 3) := by decide +kernel
theorem dX12_clauseHere_64 : decode cX12_clauseHere 64 = .ok (.ldc 108, 2) := by decide +kernel
theorem dX12_clauseHere_66 : decode cX12_clauseHere 66 = .ok (.invokevirtual 104, 3) := by decide +kernel
theorem dX12_clauseHere_69 : decode cX12_clauseHere 69 = .ok (.goto 52, 3) := by decide +kernel
theorem dX12_clauseHere_72 : decode cX12_clauseHere 72 = .ok (.aload_n 0, 1) := by decide +kernel
theorem dX12_clauseHere_73 : decode cX12_clauseHere 73 = .ok (.sipush 238, 3) := by decide +kernel
theorem dX12_clauseHere_76 : decode cX12_clauseHere 76 = .ok (.ldc 110, 2) := by decide +kernel
theorem dX12_clauseHere_78 : decode cX12_clauseHere 78 = .ok (.invokevirtual 104, 3) := by decide +kernel
theorem dX12_clauseHere_81 : decode cX12_clauseHere 81 = .ok (.goto 40, 3) := by decide +kernel
theorem dX12_clauseHere_84 : decode cX12_clauseHere 84 = .ok (.aload_n 0, 1) := by decide +kernel
theorem dX12_clauseHere_85 : decode cX12_clauseHere 85 = .ok (.ldc 112, 2) := by decide +kernel
theorem dX12_clauseHere_87 : decode cX12_clauseHere 87 = .ok (.invokevirtual 98, 3) := by decide +kernel
theorem dX12_clauseHere_90 : decode cX12_clauseHere 90 = .ok (.aload_n 0, 1) := by decide +kernel
theorem dX12_clauseHere_91 : decode cX12_clauseHere 91 = .ok (.invokevirtual 92, 3) := by decide +kernel
theorem dX12_clauseHere_94 : decode cX12_clauseHere 94 = .ok (.istore_n 1, 1) := by decide +kernel
theorem dX12_clauseHere_95 : decode cX12_clauseHere 95 = .ok (.aload_n 0, 1) := by decide +kernel
theorem dX12_clauseHere_96 : decode cX12_clauseHere 96 = .ok (.bipush 32, 2) := by decide +kernel
theorem dX12_clauseHere_98 : decode cX12_clauseHere 98 = .ok (.invokevirtual 65, 3) := by decide +kernel
theorem dX12_clauseHere_101 : decode cX12_clauseHere 101 = .ok (.aload_n 0, 1) := by decide +kernel
theorem dX12_clauseHere_102 : decode cX12_clauseHere 102 = .ok (.invokevirtual 81, 3) := by decide +kernel
theorem dX12_clauseHere_105 : decode cX12_clauseHere 105 = .ok (.aload_n 0, 1) := by decide +kernel
theorem dX12_clauseHere_106 : decode cX12_clauseHere 106 = .ok (.bipush (-10), 2) := by decide +kernel
theorem dX12_clauseHere_108 : decode cX12_clauseHere 108 = .ok (.iload_n 1, 1) := by decide +kernel
theorem dX12_clauseHere_109 : decode cX12_clauseHere 109 = .ok (.isub, 1) := by decide +kernel
theorem dX12_clauseHere_110 : decode cX12_clauseHere 110 = .ok (.invokevirtual 78, 3) := by decide +kernel
theorem dX12_clauseHere_113 : decode cX12_clauseHere 113 = .ok (.goto 8, 3) := by decide +kernel
theorem dX12_clauseHere_116 : decode cX12_clauseHere 116 = .ok (.aload_n 0, 1) := by decide +kernel
theorem dX12_clauseHere_117 : decode cX12_clauseHere 117 = .ok (.iconst 1, 1) := by decide +kernel
theorem dX12_clauseHere_118 : decode cX12_clauseHere 118 = .ok (.putfield 48, 3) := by decide +kernel
theorem dX12_clauseHere_121 : decode cX12_clauseHere 121 = .ok (.return_, 1) := by decide +kernel
theorem dX12_school_0 : decode cX12_school 0 = .ok (.aload_n 0, 1) := by decide +kernel
theorem dX12_school_1 : decode cX12_school 1 = .ok (.getfield 9, 3) := by decide +kernel
theorem dX12_school_4 : decode cX12_school 4 = .ok (.iconst 1, 1) := by decide +kernel
theorem dX12_school_5 : decode cX12_school 5 = .ok (.iaload, 1) := by decide +kernel
theorem dX12_school_6 : decode cX12_school 6 = .ok (.iconst 5, 1) := by decide +kernel
theorem dX12_school_7 : decode cX12_school 7 = .ok (.if_icmp .ne 6, 3) := by decide +kernel
theorem dX12_school_10 : decode cX12_school 10 = .ok (.bipush (-4), 2) := by decide +kernel
theorem dX12_school_12 : decode cX12_school 12 = .ok (.ireturn, 1) := by decide +kernel
theorem dX12_school_13 : decode cX12_school 13 = .ok (.aload_n 0, 1) := by decide +kernel
theorem dX12_school_14 : decode cX12_school 14 = .ok (.aload_n 0, 1) := by decide +kernel
theorem dX12_school_15 : decode cX12_school 15 = .ok (.getfield 9, 3) := by decide +kernel
theorem dX12_school_18 : decode cX12_school 18 = .ok (.iconst 1, 1) := by decide +kernel
theorem dX12_school_19 : decode cX12_school 19 = .ok (.iaload, 1) := by decide +kernel
theorem dX12_school_20 : decode cX12_school 20 = .ok (.putfield 69, 3) := by decide +kernel
theorem dX12_school_23 : decode cX12_school 23 = .ok (.aload_n 0, 1) := by decide +kernel
theorem dX12_school_24 : decode cX12_school 24 = .ok (.aload_n 0, 1) := by decide +kernel
theorem dX12_school_25 : decode cX12_school 25 = .ok (.getfield 9, 3) := by decide +kernel
theorem dX12_school_28 : decode cX12_school 28 = .ok (.bipush 6, 2) := by decide +kernel
theorem dX12_school_30 : decode cX12_school 30 = .ok (.iaload, 1) := by decide +kernel
theorem dX12_school_31 : decode cX12_school 31 = .ok (.putfield 45, 3) := by decide +kernel
theorem dX12_school_34 : decode cX12_school 34 = .ok (.aload_n 0, 1) := by decide +kernel
theorem dX12_school_35 : decode cX12_school 35 = .ok (.getfield 9, 3) := by decide +kernel
theorem dX12_school_38 : decode cX12_school 38 = .ok (.bipush 6, 2) := by decide +kernel
theorem dX12_school_40 : decode cX12_school 40 = .ok (.iconst 0, 1) := by decide +kernel
theorem dX12_school_41 : decode cX12_school 41 = .ok (.iastore, 1) := by decide +kernel
theorem dX12_school_42 : decode cX12_school 42 = .ok (.aload_n 0, 1) := by decide +kernel
theorem dX12_school_43 : decode cX12_school 43 = .ok (.getfield 9, 3) := by decide +kernel
theorem dX12_school_46 : decode cX12_school 46 = .ok (.sipush 228, 3) := by decide +kernel
theorem dX12_school_49 : decode cX12_school 49 = .ok (.aload_n 0, 1) := by decide +kernel
theorem dX12_school_50 : decode cX12_school 50 = .ok (.getfield 69, 3) := by decide +kernel
theorem dX12_school_53 : decode cX12_school 53 = .ok (.iadd, 1) := by decide +kernel
theorem dX12_school_54 : decode cX12_school 54 = .ok (.bipush 20, 2) := by decide +kernel
theorem dX12_school_56 : decode cX12_school 56 = .ok (.iastore, 1) := by decide +kernel
theorem dX12_school_57 : decode cX12_school 57 = .ok (.aload_n 0, 1) := by decide +kernel
theorem dX12_school_58 : decode cX12_school 58 = .ok (.getfield 9, 3) := by decide +kernel
theorem dX12_school_61 : decode cX12_school 61 = .ok (.sipush 233, 3) := by decide +kernel
theorem dX12_school_64 : decode cX12_school 64 = .ok (.aload_n 0, 1) := by decide +kernel
theorem dX12_school_65 : decode cX12_school 65 = .ok (.getfield 69, 3) := by decide +kernel
theorem dX12_school_68 : decode cX12_school 68 = .ok (.iadd, 1) := by decide +kernel
theorem dX12_school_69 : decode cX12_school 69 = .ok (.iconst 3, 1) := by decide +kernel
theorem dX12_school_70 : decode cX12_school 70 = .ok (.iastore, 1) := by decide +kernel
theorem dX12_school_71 : decode cX12_school 71 = .ok (.aload_n 0, 1) := by decide +kernel
theorem dX12_school_72 : decode cX12_school 72 = .ok (.getfield 9, 3) := by decide +kernel
theorem dX12_school_75 : decode cX12_school 75 = .ok (.sipush 238, 3) := by decide +kernel
theorem dX12_school_78 : decode cX12_school 78 = .ok (.aload_n 0, 1) := by decide +kernel
theorem dX12_school_79 : decode cX12_school 79 = .ok (.getfield 69, 3) := by decide +kernel
theorem dX12_school_82 : decode cX12_school 82 = .ok (.iadd, 1) := by decide +kernel
theorem dX12_school_83 : decode cX12_school 83 = .ok (.iconst 0, 1) := by decide +kernel
theorem dX12_school_84 : decode cX12_school 84 = .ok (.iastore, 1) := by decide +kernel
theorem dX12_school_85 : decode cX12_school 85 = .ok (.aload_n 0, 1) := by decide +kernel
theorem dX12_school_86 : decode cX12_school 86 = .ok (.getfield 9, 3) := by decide +kernel
theorem dX12_school_89 : decode cX12_school 89 = .ok (.sipush 243, 3) := by decide +kernel
theorem dX12_school_92 : decode cX12_school 92 = .ok (.aload_n 0, 1) := by decide +kernel
theorem dX12_school_93 : decode cX12_school 93 = .ok (.getfield 69, 3) := by decide +kernel
theorem dX12_school_96 : decode cX12_school 96 = .ok (.iadd, 1) := by decide +kernel
theorem dX12_school_97 : decode cX12_school 97 = .ok (.iconst 0, 1) := by decide +kernel
theorem dX12_school_98 : decode cX12_school 98 = .ok (.iastore, 1) := by decide +kernel
theorem dX12_school_99 : decode cX12_school 99 = .ok (.aload_n 0, 1) := by decide +kernel
theorem dX12_school_100 : decode cX12_school 100 = .ok (.iconst 0, 1) := by decide +kernel
theorem dX12_school_101 : decode cX12_school 101 = .ok (.putfield 42, 3) := by decide +kernel
theorem dX12_school_104 : decode cX12_school 104 = .ok (.aload_n 0, 1) := by decide +kernel
theorem dX12_school_105 : decode cX12_school 105 = .ok (.iconst 0, 1) := by decide +kernel
theorem dX12_school_106 : decode cX12_school 106 = .ok (.putfield 48, 3) := by decide +kernel
theorem dX12_school_109 : decode cX12_school 109 = .ok (.aload_n 0, 1) := by decide +kernel
theorem dX12_school_110 : decode cX12_school 110 = .ok (.iconst 0, 1) := by decide +kernel
theorem dX12_school_111 : decode cX12_school 111 = .ok (.putfield 72, 3) := by decide +kernel
theorem dX12_school_114 : decode cX12_school 114 = .ok (.iconst 1, 1) := by decide +kernel
theorem dX12_school_115 : decode cX12_school 115 = .ok (.istore_n 1, 1) := by decide +kernel
theorem dX12_school_116 : decode cX12_school 116 = .ok (.aload_n 0, 1) := by decide +kernel
theorem dX12_school_117 : decode cX12_school 117 = .ok (.invokevirtual 114, 3) := by decide +kernel
theorem dX12_school_120 : decode cX12_school 120 = .ok (.aload_n 0, 1) := by decide +kernel
theorem dX12_school_121 : decode cX12_school 121 = .ok (.getfield 48, 3) := by decide +kernel
theorem dX12_school_124 : decode cX12_school 124 = .ok (.ifCond .ne 38, 3) := by decide +kernel
theorem dX12_school_127 : decode cX12_school 127 = .ok (.iload_n 1, 1) := by decide +kernel
theorem dX12_school_128 : decode cX12_school 128 = .ok (.bipush 10, 2) := by decide +kernel
theorem dX12_school_130 : decode cX12_school 130 = .ok (.if_icmp .ge 32, 3) := by decide +kernel
theorem dX12_school_133 : decode cX12_school 133 = .ok (.aload_n 0, 1) := by decide +kernel
theorem dX12_school_134 : decode cX12_school 134 = .ok (.invokevirtual 52, 3) := by decide +kernel
theorem dX12_school_137 : decode cX12_school 137 = .ok (.bipush 59, 2) := by decide +kernel
theorem dX12_school_139 : decode cX12_school 139 = .ok (.if_icmp .ne 23, 3) := by decide +kernel
theorem dX12_school_142 : decode cX12_school 142 = .ok (.aload_n 0, 1) := by decide +kernel
theorem dX12_school_143 : decode cX12_school 143 = .ok (.dup, 1) := by decide +kernel
theorem dX12_school_144 : decode cX12_school 144 = .ok (.getfield 42, 3) := by decide +kernel
theorem dX12_school_147 : decode cX12_school 147 = .ok (.iconst 1, 1) := by decide +kernel
theorem dX12_school_148 : decode cX12_school 148 = .ok (.iadd, 1) := by decide +kernel
theorem dX12_school_149 : decode cX12_school 149 = .ok (.putfield 42, 3) := by decide +kernel
theorem dX12_school_152 : decode cX12_school 152 = .ok (.aload_n 0, 1) := by decide +kernel
theorem dX12_school_153 : decode cX12_school 153 = .ok (.invokevirtual 114, 3) := by decide +kernel
theorem dX12_school_156 : decode cX12_school 156 = .ok (.iinc 1 1, 3) := by decide +kernel
theorem dX12_school_159 : decode cX12_school 159 = .ok (.goto (-39), 3) := by decide +kernel
theorem dX12_school_162 : decode cX12_school 162 = .ok (.aload_n 0, 1) := by decide +kernel
theorem dX12_school_163 : decode cX12_school 163 = .ok (.getfield 48, 3) := by decide +kernel
theorem dX12_school_166 : decode cX12_school 166 = .ok (.ifCond .ne 14, 3) := by decide +kernel
theorem dX12_school_169 : decode cX12_school 169 = .ok (.aload_n 0, 1) := by decide +kernel
theorem dX12_school_170 : decode cX12_school 170 = .ok (.getfield 42, 3) := by decide +kernel
theorem dX12_school_173 : decode cX12_school 173 = .ok (.aload_n 0, 1) := by decide +kernel
theorem dX12_school_174 : decode cX12_school 174 = .ok (.getfield 45, 3) := by decide +kernel
theorem dX12_school_177 : decode cX12_school 177 = .ok (.if_icmp .eq 11, 3) := by decide +kernel
theorem dX12_school_180 : decode cX12_school 180 = .ok (.bipush (-10), 2) := by decide +kernel
theorem dX12_school_182 : decode cX12_school 182 = .ok (.aload_n 0, 1) := by decide +kernel
theorem dX12_school_183 : decode cX12_school 183 = .ok (.getfield 42, 3) := by decide +kernel
theorem dX12_school_186 : decode cX12_school 186 = .ok (.isub, 1) := by decide +kernel
theorem dX12_school_187 : decode cX12_school 187 = .ok (.ireturn, 1) := by decide +kernel
theorem dX12_school_188 : decode cX12_school 188 = .ok (.aload_n 0, 1) := by decide +kernel
theorem dX12_school_189 : decode cX12_school 189 = .ok (.getfield 9, 3) := by decide +kernel
theorem dX12_school_192 : decode cX12_school 192 = .ok (.iconst 1, 1) := by decide +kernel
theorem dX12_school_193 : decode cX12_school 193 = .ok (.dup2, 1) := by decide +kernel
theorem dX12_school_194 : decode cX12_school 194 = .ok (.iaload, 1) := by decide +kernel
theorem dX12_school_195 : decode cX12_school 195 = .ok (.iconst 1, 1) := by decide +kernel
theorem dX12_school_196 : decode cX12_school 196 = .ok (.iadd, 1) := by decide +kernel
theorem dX12_school_197 : decode cX12_school 197 = .ok (.iastore, 1) := by decide +kernel
theorem dX12_school_198 : decode cX12_school 198 = .ok (.aload_n 0, 1) := by decide +kernel
theorem dX12_school_199 : decode cX12_school 199 = .ok (.getfield 9, 3) := by decide +kernel
theorem dX12_school_202 : decode cX12_school 202 = .ok (.bipush 7, 2) := by decide +kernel
theorem dX12_school_204 : decode cX12_school 204 = .ok (.aload_n 0, 1) := by decide +kernel
theorem dX12_school_205 : decode cX12_school 205 = .ok (.getfield 69, 3) := by decide +kernel
theorem dX12_school_208 : decode cX12_school 208 = .ok (.iastore, 1) := by decide +kernel
theorem dX12_school_209 : decode cX12_school 209 = .ok (.aload_n 0, 1) := by decide +kernel
theorem dX12_school_210 : decode cX12_school 210 = .ok (.getfield 69, 3) := by decide +kernel
theorem dX12_school_213 : decode cX12_school 213 = .ok (.ireturn, 1) := by decide +kernel
theorem dX12_tellsOf_0 : decode cX12_tellsOf 0 = .ok (.aload_n 0, 1) := by decide +kernel
theorem dX12_tellsOf_1 : decode cX12_tellsOf 1 = .ok (.getfield 9, 3) := by decide +kernel
theorem dX12_tellsOf_4 : decode cX12_tellsOf 4 = .ok (.bipush 7, 2) := by decide +kernel
theorem dX12_tellsOf_6 : decode cX12_tellsOf 6 = .ok (.iaload, 1) := by decide +kernel
theorem dX12_tellsOf_7 : decode cX12_tellsOf 7 = .ok (.iconst (-1), 1) := by decide +kernel
theorem dX12_tellsOf_8 : decode cX12_tellsOf 8 = .ok (.if_icmp .ne 7, 3) := by decide +kernel
theorem dX12_tellsOf_11 : decode cX12_tellsOf 11 = .ok (.iload_n 2, 1) := by decide +kernel
theorem dX12_tellsOf_12 : decode cX12_tellsOf 12 = .ok (.goto 17, 3) := by decide +kernel
theorem dX12_tellsOf_15 : decode cX12_tellsOf 15 = .ok (.aload_n 0, 1) := by decide +kernel
theorem dX12_tellsOf_16 : decode cX12_tellsOf 16 = .ok (.getfield 9, 3) := by decide +kernel
theorem dX12_tellsOf_19 : decode cX12_tellsOf 19 = .ok (.iload_n 1, 1) := by decide +kernel
theorem dX12_tellsOf_20 : decode cX12_tellsOf 20 = .ok (.aload_n 0, 1) := by decide +kernel
theorem dX12_tellsOf_21 : decode cX12_tellsOf 21 = .ok (.getfield 9, 3) := by decide +kernel
theorem dX12_tellsOf_24 : decode cX12_tellsOf 24 = .ok (.bipush 7, 2) := by decide +kernel
theorem dX12_tellsOf_26 : decode cX12_tellsOf 26 = .ok (.iaload, 1) := by decide +kernel
theorem dX12_tellsOf_27 : decode cX12_tellsOf 27 = .ok (.iadd, 1) := by decide +kernel
theorem dX12_tellsOf_28 : decode cX12_tellsOf 28 = .ok (.iaload, 1) := by decide +kernel
theorem dX12_tellsOf_29 : decode cX12_tellsOf 29 = .ok (.ireturn, 1) := by decide +kernel
theorem dX12_wantNow_0 : decode cX12_wantNow 0 = .ok (.aload_n 0, 1) := by decide +kernel
theorem dX12_wantNow_1 : decode cX12_wantNow 1 = .ok (.sipush 228, 3) := by decide +kernel
theorem dX12_wantNow_4 : decode cX12_wantNow 4 = .ok (.bipush 20, 2) := by decide +kernel
theorem dX12_wantNow_6 : decode cX12_wantNow 6 = .ok (.invokevirtual 117, 3) := by decide +kernel
theorem dX12_wantNow_9 : decode cX12_wantNow 9 = .ok (.iconst 1, 1) := by decide +kernel
theorem dX12_wantNow_10 : decode cX12_wantNow 10 = .ok (.bipush 40, 2) := by decide +kernel
theorem dX12_wantNow_12 : decode cX12_wantNow 12 = .ok (.invokestatic 121, 3) := by decide +kernel
theorem dX12_wantNow_15 : decode cX12_wantNow 15 = .ok (.ireturn, 1) := by decide +kernel
theorem dX12_lookNow_0 : decode cX12_lookNow 0 = .ok (.aload_n 0, 1) := by decide +kernel
theorem dX12_lookNow_1 : decode cX12_lookNow 1 = .ok (.sipush 233, 3) := by decide +kernel
theorem dX12_lookNow_4 : decode cX12_lookNow 4 = .ok (.iconst 3, 1) := by decide +kernel
theorem dX12_lookNow_5 : decode cX12_lookNow 5 = .ok (.invokevirtual 117, 3) := by decide +kernel
theorem dX12_lookNow_8 : decode cX12_lookNow 8 = .ok (.iconst 1, 1) := by decide +kernel
theorem dX12_lookNow_9 : decode cX12_lookNow 9 = .ok (.iconst 5, 1) := by decide +kernel
theorem dX12_lookNow_10 : decode cX12_lookNow 10 = .ok (.invokestatic 121, 3) := by decide +kernel
theorem dX12_lookNow_13 : decode cX12_lookNow 13 = .ok (.ireturn, 1) := by decide +kernel
theorem dX12_doesCount_0 : decode cX12_doesCount 0 = .ok (.aload_n 0, 1) := by decide +kernel
theorem dX12_doesCount_1 : decode cX12_doesCount 1 = .ok (.sipush 238, 3) := by decide +kernel
theorem dX12_doesCount_4 : decode cX12_doesCount 4 = .ok (.iconst 0, 1) := by decide +kernel
theorem dX12_doesCount_5 : decode cX12_doesCount 5 = .ok (.invokevirtual 117, 3) := by decide +kernel
theorem dX12_doesCount_8 : decode cX12_doesCount 8 = .ok (.ifCond .le 7, 3) := by decide +kernel
theorem dX12_doesCount_11 : decode cX12_doesCount 11 = .ok (.iconst 1, 1) := by decide +kernel
theorem dX12_doesCount_12 : decode cX12_doesCount 12 = .ok (.goto 4, 3) := by decide +kernel
theorem dX12_doesCount_15 : decode cX12_doesCount 15 = .ok (.iconst 0, 1) := by decide +kernel
theorem dX12_doesCount_16 : decode cX12_doesCount 16 = .ok (.ireturn, 1) := by decide +kernel
theorem dX12_wayAt_0 : decode cX12_wayAt 0 = .ok (.iload_n 1, 1) := by decide +kernel
theorem dX12_wayAt_1 : decode cX12_wayAt 1 = .ok (.aload_n 0, 1) := by decide +kernel
theorem dX12_wayAt_2 : decode cX12_wayAt 2 = .ok (.getfield 9, 3) := by decide +kernel
theorem dX12_wayAt_5 : decode cX12_wayAt 5 = .ok (.bipush 8, 2) := by decide +kernel
theorem dX12_wayAt_7 : decode cX12_wayAt 7 = .ok (.iaload, 1) := by decide +kernel
theorem dX12_wayAt_8 : decode cX12_wayAt 8 = .ok (.if_icmp .ge 15, 3) := by decide +kernel
theorem dX12_wayAt_11 : decode cX12_wayAt 11 = .ok (.aload_n 0, 1) := by decide +kernel
theorem dX12_wayAt_12 : decode cX12_wayAt 12 = .ok (.getfield 9, 3) := by decide +kernel
theorem dX12_wayAt_15 : decode cX12_wayAt 15 = .ok (.bipush 53, 2) := by decide +kernel
theorem dX12_wayAt_17 : decode cX12_wayAt 17 = .ok (.iload_n 1, 1) := by decide +kernel
theorem dX12_wayAt_18 : decode cX12_wayAt 18 = .ok (.iadd, 1) := by decide +kernel
theorem dX12_wayAt_19 : decode cX12_wayAt 19 = .ok (.iaload, 1) := by decide +kernel
theorem dX12_wayAt_20 : decode cX12_wayAt 20 = .ok (.goto 4, 3) := by decide +kernel
theorem dX12_wayAt_23 : decode cX12_wayAt 23 = .ok (.iconst (-1), 1) := by decide +kernel
theorem dX12_wayAt_24 : decode cX12_wayAt 24 = .ok (.ireturn, 1) := by decide +kernel
theorem dX12_signAt_0 : decode cX12_signAt 0 = .ok (.aload_n 0, 1) := by decide +kernel
theorem dX12_signAt_1 : decode cX12_signAt 1 = .ok (.iload_n 1, 1) := by decide +kernel
theorem dX12_signAt_2 : decode cX12_signAt 2 = .ok (.invokevirtual 125, 3) := by decide +kernel
theorem dX12_signAt_5 : decode cX12_signAt 5 = .ok (.istore_n 2, 1) := by decide +kernel
theorem dX12_signAt_6 : decode cX12_signAt 6 = .ok (.iload_n 2, 1) := by decide +kernel
theorem dX12_signAt_7 : decode cX12_signAt 7 = .ok (.iconst (-1), 1) := by decide +kernel
theorem dX12_signAt_8 : decode cX12_signAt 8 = .ok (.if_icmp .ne 6, 3) := by decide +kernel
theorem dX12_signAt_11 : decode cX12_signAt 11 = .ok (.bipush 100, 2) := by decide +kernel
theorem dX12_signAt_13 : decode cX12_signAt 13 = .ok (.ireturn, 1) := by decide +kernel
theorem dX12_signAt_14 : decode cX12_signAt 14 = .ok (.aload_n 0, 1) := by decide +kernel
theorem dX12_signAt_15 : decode cX12_signAt 15 = .ok (.getfield 18, 3) := by decide +kernel
theorem dX12_signAt_18 : decode cX12_signAt 18 = .ok (.iconst 0, 1) := by decide +kernel
theorem dX12_signAt_19 : decode cX12_signAt 19 = .ok (.iload_n 2, 1) := by decide +kernel
theorem dX12_signAt_20 : decode cX12_signAt 20 = .ok (.iastore, 1) := by decide +kernel
theorem dX12_signAt_21 : decode cX12_signAt 21 = .ok (.aload_n 0, 1) := by decide +kernel
theorem dX12_signAt_22 : decode cX12_signAt 22 = .ok (.getfield 18, 3) := by decide +kernel
theorem dX12_signAt_25 : decode cX12_signAt 25 = .ok (.iconst 1, 1) := by decide +kernel
theorem dX12_signAt_26 : decode cX12_signAt 26 = .ok (.aload_n 0, 1) := by decide +kernel
theorem dX12_signAt_27 : decode cX12_signAt 27 = .ok (.getfield 9, 3) := by decide +kernel
theorem dX12_signAt_30 : decode cX12_signAt 30 = .ok (.bipush 11, 2) := by decide +kernel
theorem dX12_signAt_32 : decode cX12_signAt 32 = .ok (.iload_n 2, 1) := by decide +kernel
theorem dX12_signAt_33 : decode cX12_signAt 33 = .ok (.iadd, 1) := by decide +kernel
theorem dX12_signAt_34 : decode cX12_signAt 34 = .ok (.iaload, 1) := by decide +kernel
theorem dX12_signAt_35 : decode cX12_signAt 35 = .ok (.iastore, 1) := by decide +kernel
theorem dX12_signAt_36 : decode cX12_signAt 36 = .ok (.aload_n 0, 1) := by decide +kernel
theorem dX12_signAt_37 : decode cX12_signAt 37 = .ok (.getfield 18, 3) := by decide +kernel
theorem dX12_signAt_40 : decode cX12_signAt 40 = .ok (.iconst 2, 1) := by decide +kernel
theorem dX12_signAt_41 : decode cX12_signAt 41 = .ok (.aload_n 0, 1) := by decide +kernel
theorem dX12_signAt_42 : decode cX12_signAt 42 = .ok (.getfield 9, 3) := by decide +kernel
theorem dX12_signAt_45 : decode cX12_signAt 45 = .ok (.bipush 17, 2) := by decide +kernel
theorem dX12_signAt_47 : decode cX12_signAt 47 = .ok (.iload_n 2, 1) := by decide +kernel
theorem dX12_signAt_48 : decode cX12_signAt 48 = .ok (.iadd, 1) := by decide +kernel
theorem dX12_signAt_49 : decode cX12_signAt 49 = .ok (.iaload, 1) := by decide +kernel
theorem dX12_signAt_50 : decode cX12_signAt 50 = .ok (.iastore, 1) := by decide +kernel
theorem dX12_signAt_51 : decode cX12_signAt 51 = .ok (.aload_n 0, 1) := by decide +kernel
theorem dX12_signAt_52 : decode cX12_signAt 52 = .ok (.getfield 18, 3) := by decide +kernel
theorem dX12_signAt_55 : decode cX12_signAt 55 = .ok (.iconst 3, 1) := by decide +kernel
theorem dX12_signAt_56 : decode cX12_signAt 56 = .ok (.iload_n 1, 1) := by decide +kernel
theorem dX12_signAt_57 : decode cX12_signAt 57 = .ok (.bipush 10, 2) := by decide +kernel
theorem dX12_signAt_59 : decode cX12_signAt 59 = .ok (.idiv, 1) := by decide +kernel
theorem dX12_signAt_60 : decode cX12_signAt 60 = .ok (.iastore, 1) := by decide +kernel
theorem dX12_signAt_61 : decode cX12_signAt 61 = .ok (.aload_n 0, 1) := by decide +kernel
theorem dX12_signAt_62 : decode cX12_signAt 62 = .ok (.getfield 18, 3) := by decide +kernel
theorem dX12_signAt_65 : decode cX12_signAt 65 = .ok (.iconst 4, 1) := by decide +kernel
theorem dX12_signAt_66 : decode cX12_signAt 66 = .ok (.iload_n 1, 1) := by decide +kernel
theorem dX12_signAt_67 : decode cX12_signAt 67 = .ok (.bipush 10, 2) := by decide +kernel
theorem dX12_signAt_69 : decode cX12_signAt 69 = .ok (.irem, 1) := by decide +kernel
theorem dX12_signAt_70 : decode cX12_signAt 70 = .ok (.iastore, 1) := by decide +kernel
theorem dX12_signAt_71 : decode cX12_signAt 71 = .ok (.aload_n 0, 1) := by decide +kernel
theorem dX12_signAt_72 : decode cX12_signAt 72 = .ok (.getfield 18, 3) := by decide +kernel
theorem dX12_signAt_75 : decode cX12_signAt 75 = .ok (.iconst 5, 1) := by decide +kernel
theorem dX12_signAt_76 : decode cX12_signAt 76 = .ok (.iload_n 1, 1) := by decide +kernel
theorem dX12_signAt_77 : decode cX12_signAt 77 = .ok (.ifCond .le 22, 3) := by decide +kernel
theorem dX12_signAt_80 : decode cX12_signAt 80 = .ok (.aload_n 0, 1) := by decide +kernel
theorem dX12_signAt_81 : decode cX12_signAt 81 = .ok (.getfield 9, 3) := by decide +kernel
theorem dX12_signAt_84 : decode cX12_signAt 84 = .ok (.bipush 53, 2) := by decide +kernel
theorem dX12_signAt_86 : decode cX12_signAt 86 = .ok (.iload_n 1, 1) := by decide +kernel
theorem dX12_signAt_87 : decode cX12_signAt 87 = .ok (.iadd, 1) := by decide +kernel
theorem dX12_signAt_88 : decode cX12_signAt 88 = .ok (.iconst 1, 1) := by decide +kernel
theorem dX12_signAt_89 : decode cX12_signAt 89 = .ok (.isub, 1) := by decide +kernel
theorem dX12_signAt_90 : decode cX12_signAt 90 = .ok (.iaload, 1) := by decide +kernel
theorem dX12_signAt_91 : decode cX12_signAt 91 = .ok (.iload_n 2, 1) := by decide +kernel
theorem dX12_signAt_92 : decode cX12_signAt 92 = .ok (.if_icmp .ne 7, 3) := by decide +kernel
theorem dX12_signAt_95 : decode cX12_signAt 95 = .ok (.iconst 1, 1) := by decide +kernel
theorem dX12_signAt_96 : decode cX12_signAt 96 = .ok (.goto 4, 3) := by decide +kernel
theorem dX12_signAt_99 : decode cX12_signAt 99 = .ok (.iconst 0, 1) := by decide +kernel
theorem dX12_signAt_100 : decode cX12_signAt 100 = .ok (.iastore, 1) := by decide +kernel
theorem dX12_signAt_101 : decode cX12_signAt 101 = .ok (.iconst 0, 1) := by decide +kernel
theorem dX12_signAt_102 : decode cX12_signAt 102 = .ok (.istore_n 3, 1) := by decide +kernel
theorem dX12_signAt_103 : decode cX12_signAt 103 = .ok (.aload_n 0, 1) := by decide +kernel
theorem dX12_signAt_104 : decode cX12_signAt 104 = .ok (.sipush 243, 3) := by decide +kernel
theorem dX12_signAt_107 : decode cX12_signAt 107 = .ok (.iconst 0, 1) := by decide +kernel
theorem dX12_signAt_108 : decode cX12_signAt 108 = .ok (.invokevirtual 117, 3) := by decide +kernel
theorem dX12_signAt_111 : decode cX12_signAt 111 = .ok (.istore 4, 2) := by decide +kernel
theorem dX12_signAt_113 : decode cX12_signAt 113 = .ok (.sipush 248, 3) := by decide +kernel
theorem dX12_signAt_116 : decode cX12_signAt 116 = .ok (.sipush 140, 3) := by decide +kernel
theorem dX12_signAt_119 : decode cX12_signAt 119 = .ok (.aload_n 0, 1) := by decide +kernel
theorem dX12_signAt_120 : decode cX12_signAt 120 = .ok (.getfield 9, 3) := by decide +kernel
theorem dX12_signAt_123 : decode cX12_signAt 123 = .ok (.bipush 7, 2) := by decide +kernel
theorem dX12_signAt_125 : decode cX12_signAt 125 = .ok (.iaload, 1) := by decide +kernel
theorem dX12_signAt_126 : decode cX12_signAt 126 = .ok (.imul, 1) := by decide +kernel
theorem dX12_signAt_127 : decode cX12_signAt 127 = .ok (.iadd, 1) := by decide +kernel
theorem dX12_signAt_128 : decode cX12_signAt 128 = .ok (.istore 5, 2) := by decide +kernel
theorem dX12_signAt_130 : decode cX12_signAt 130 = .ok (.iconst 0, 1) := by decide +kernel
theorem dX12_signAt_131 : decode cX12_signAt 131 = .ok (.istore 6, 2) := by decide +kernel
theorem dX12_signAt_133 : decode cX12_signAt 133 = .ok (.iload 5, 2) := by decide +kernel
theorem dX12_signAt_135 : decode cX12_signAt 135 = .ok (.istore 7, 2) := by decide +kernel
theorem dX12_signAt_137 : decode cX12_signAt 137 = .ok (.iload 7, 2) := by decide +kernel
theorem dX12_signAt_139 : decode cX12_signAt 139 = .ok (.iload 5, 2) := by decide +kernel
theorem dX12_signAt_141 : decode cX12_signAt 141 = .ok (.iload 4, 2) := by decide +kernel
theorem dX12_signAt_143 : decode cX12_signAt 143 = .ok (.iadd, 1) := by decide +kernel
theorem dX12_signAt_144 : decode cX12_signAt 144 = .ok (.if_icmp .ge 262, 3) := by decide +kernel
theorem dX12_signAt_147 : decode cX12_signAt 147 = .ok (.aload_n 0, 1) := by decide +kernel
theorem dX12_signAt_148 : decode cX12_signAt 148 = .ok (.getfield 9, 3) := by decide +kernel
theorem dX12_signAt_151 : decode cX12_signAt 151 = .ok (.iload 7, 2) := by decide +kernel
theorem dX12_signAt_153 : decode cX12_signAt 153 = .ok (.iaload, 1) := by decide +kernel
theorem dX12_signAt_154 : decode cX12_signAt 154 = .ok (.istore 8, 2) := by decide +kernel
theorem dX12_signAt_156 : decode cX12_signAt 156 = .ok (.iload 8, 2) := by decide +kernel
theorem dX12_signAt_158 : decode cX12_signAt 158 = .ok (.ifCond .lt 97, 3) := by decide +kernel
theorem dX12_signAt_161 : decode cX12_signAt 161 = .ok (.aload_n 0, 1) := by decide +kernel
theorem dX12_signAt_162 : decode cX12_signAt 162 = .ok (.getfield 18, 3) := by decide +kernel
theorem dX12_signAt_165 : decode cX12_signAt 165 = .ok (.iload 8, 2) := by decide +kernel
theorem dX12_signAt_167 : decode cX12_signAt 167 = .ok (.bipush 8, 2) := by decide +kernel
theorem dX12_signAt_169 : decode cX12_signAt 169 = .ok (.irem, 1) := by decide +kernel
theorem dX12_signAt_170 : decode cX12_signAt 170 = .ok (.iaload, 1) := by decide +kernel
theorem dX12_signAt_171 : decode cX12_signAt 171 = .ok (.istore 9, 2) := by decide +kernel
theorem dX12_signAt_173 : decode cX12_signAt 173 = .ok (.iload 8, 2) := by decide +kernel
theorem dX12_signAt_175 : decode cX12_signAt 175 = .ok (.bipush 8, 2) := by decide +kernel
theorem dX12_signAt_177 : decode cX12_signAt 177 = .ok (.idiv, 1) := by decide +kernel
theorem dX12_signAt_178 : decode cX12_signAt 178 = .ok (.iconst 4, 1) := by decide +kernel
theorem dX12_signAt_179 : decode cX12_signAt 179 = .ok (.irem, 1) := by decide +kernel
theorem dX12_signAt_180 : decode cX12_signAt 180 = .ok (.istore 10, 2) := by decide +kernel
theorem dX12_signAt_182 : decode cX12_signAt 182 = .ok (.iload 8, 2) := by decide +kernel
theorem dX12_signAt_184 : decode cX12_signAt 184 = .ok (.bipush 32, 2) := by decide +kernel
theorem dX12_signAt_186 : decode cX12_signAt 186 = .ok (.idiv, 1) := by decide +kernel
theorem dX12_signAt_187 : decode cX12_signAt 187 = .ok (.istore 11, 2) := by decide +kernel
theorem dX12_signAt_189 : decode cX12_signAt 189 = .ok (.aload_n 0, 1) := by decide +kernel
theorem dX12_signAt_190 : decode cX12_signAt 190 = .ok (.getfield 21, 3) := by decide +kernel
theorem dX12_signAt_193 : decode cX12_signAt 193 = .ok (.iload 6, 2) := by decide +kernel
theorem dX12_signAt_195 : decode cX12_signAt 195 = .ok (.iload 10, 2) := by decide +kernel
theorem dX12_signAt_197 : decode cX12_signAt 197 = .ok (.ifCond .ne 18, 3) := by decide +kernel
theorem dX12_signAt_200 : decode cX12_signAt 200 = .ok (.iload 9, 2) := by decide +kernel
theorem dX12_signAt_202 : decode cX12_signAt 202 = .ok (.iload 11, 2) := by decide +kernel
theorem dX12_signAt_204 : decode cX12_signAt 204 = .ok (.if_icmp .ge 7, 3) := by decide +kernel
theorem dX12_signAt_207 : decode cX12_signAt 207 = .ok (.iconst 1, 1) := by decide +kernel
theorem dX12_signAt_208 : decode cX12_signAt 208 = .ok (.goto 40, 3) := by decide +kernel
theorem dX12_signAt_211 : decode cX12_signAt 211 = .ok (.iconst 0, 1) := by decide +kernel
theorem dX12_signAt_212 : decode cX12_signAt 212 = .ok (.goto 36, 3) := by decide +kernel
theorem dX12_signAt_215 : decode cX12_signAt 215 = .ok (.iload 10, 2) := by decide +kernel
theorem dX12_signAt_217 : decode cX12_signAt 217 = .ok (.iconst 1, 1) := by decide +kernel
theorem dX12_signAt_218 : decode cX12_signAt 218 = .ok (.if_icmp .ne 18, 3) := by decide +kernel
theorem dX12_signAt_221 : decode cX12_signAt 221 = .ok (.iload 9, 2) := by decide +kernel
theorem dX12_signAt_223 : decode cX12_signAt 223 = .ok (.iload 11, 2) := by decide +kernel
theorem dX12_signAt_225 : decode cX12_signAt 225 = .ok (.if_icmp .ne 7, 3) := by decide +kernel
theorem dX12_signAt_228 : decode cX12_signAt 228 = .ok (.iconst 1, 1) := by decide +kernel
theorem dX12_signAt_229 : decode cX12_signAt 229 = .ok (.goto 19, 3) := by decide +kernel
theorem dX12_signAt_232 : decode cX12_signAt 232 = .ok (.iconst 0, 1) := by decide +kernel
theorem dX12_signAt_233 : decode cX12_signAt 233 = .ok (.goto 15, 3) := by decide +kernel
theorem dX12_signAt_236 : decode cX12_signAt 236 = .ok (.iload 9, 2) := by decide +kernel
theorem dX12_signAt_238 : decode cX12_signAt 238 = .ok (.iload 11, 2) := by decide +kernel
theorem dX12_signAt_240 : decode cX12_signAt 240 = .ok (.if_icmp .le 7, 3) := by decide +kernel
theorem dX12_signAt_243 : decode cX12_signAt 243 = .ok (.iconst 1, 1) := by decide +kernel
theorem dX12_signAt_244 : decode cX12_signAt 244 = .ok (.goto 4, 3) := by decide +kernel
theorem dX12_signAt_247 : decode cX12_signAt 247 = .ok (.iconst 0, 1) := by decide +kernel
theorem dX12_signAt_248 : decode cX12_signAt 248 = .ok (.bastore, 1) := by decide +kernel
theorem dX12_signAt_249 : decode cX12_signAt 249 = .ok (.iinc 6 1, 3) := by decide +kernel
theorem dX12_signAt_252 : decode cX12_signAt 252 = .ok (.goto 148, 3) := by decide +kernel
theorem dX12_signAt_255 : decode cX12_signAt 255 = .ok (.iload 8, 2) := by decide +kernel
theorem dX12_signAt_257 : decode cX12_signAt 257 = .ok (.iconst (-1), 1) := by decide +kernel
theorem dX12_signAt_258 : decode cX12_signAt 258 = .ok (.if_icmp .ne 32, 3) := by decide +kernel
theorem dX12_signAt_261 : decode cX12_signAt 261 = .ok (.aload_n 0, 1) := by decide +kernel
theorem dX12_signAt_262 : decode cX12_signAt 262 = .ok (.getfield 21, 3) := by decide +kernel
theorem dX12_signAt_265 : decode cX12_signAt 265 = .ok (.iload 6, 2) := by decide +kernel
theorem dX12_signAt_267 : decode cX12_signAt 267 = .ok (.iconst 1, 1) := by decide +kernel
theorem dX12_signAt_268 : decode cX12_signAt 268 = .ok (.isub, 1) := by decide +kernel
theorem dX12_signAt_269 : decode cX12_signAt 269 = .ok (.aload_n 0, 1) := by decide +kernel
theorem dX12_signAt_270 : decode cX12_signAt 270 = .ok (.getfield 21, 3) := by decide +kernel
theorem dX12_signAt_273 : decode cX12_signAt 273 = .ok (.iload 6, 2) := by decide +kernel
theorem dX12_signAt_275 : decode cX12_signAt 275 = .ok (.iconst 1, 1) := by decide +kernel
theorem dX12_signAt_276 : decode cX12_signAt 276 = .ok (.isub, 1) := by decide +kernel
theorem dX12_signAt_277 : decode cX12_signAt 277 = .ok (.baload, 1) := by decide +kernel
theorem dX12_signAt_278 : decode cX12_signAt 278 = .ok (.ifCond .ne 7, 3) := by decide +kernel
theorem dX12_signAt_281 : decode cX12_signAt 281 = .ok (.iconst 1, 1) := by decide +kernel
theorem dX12_signAt_282 : decode cX12_signAt 282 = .ok (.goto 4, 3) := by decide +kernel
theorem dX12_signAt_285 : decode cX12_signAt 285 = .ok (.iconst 0, 1) := by decide +kernel
theorem dX12_signAt_286 : decode cX12_signAt 286 = .ok (.bastore, 1) := by decide +kernel
theorem dX12_signAt_287 : decode cX12_signAt 287 = .ok (.goto 113, 3) := by decide +kernel
theorem dX12_signAt_290 : decode cX12_signAt 290 = .ok (.iload 8, 2) := by decide +kernel
theorem dX12_signAt_292 : decode cX12_signAt 292 = .ok (.bipush (-10), 2) := by decide +kernel
theorem dX12_signAt_294 : decode cX12_signAt 294 = .ok (.if_icmp .le 82, 3) := by decide +kernel
theorem dX12_signAt_297 : decode cX12_signAt 297 = .ok (.iinc 6 (-1), 3) := by decide +kernel
theorem dX12_signAt_300 : decode cX12_signAt 300 = .ok (.aload_n 0, 1) := by decide +kernel
theorem dX12_signAt_301 : decode cX12_signAt 301 = .ok (.getfield 21, 3) := by decide +kernel
theorem dX12_signAt_304 : decode cX12_signAt 304 = .ok (.iload 6, 2) := by decide +kernel
theorem dX12_signAt_306 : decode cX12_signAt 306 = .ok (.iconst 1, 1) := by decide +kernel
theorem dX12_signAt_307 : decode cX12_signAt 307 = .ok (.isub, 1) := by decide +kernel
theorem dX12_signAt_308 : decode cX12_signAt 308 = .ok (.iload 8, 2) := by decide +kernel
theorem dX12_signAt_310 : decode cX12_signAt 310 = .ok (.bipush (-2), 2) := by decide +kernel
theorem dX12_signAt_312 : decode cX12_signAt 312 = .ok (.if_icmp .ne 33, 3) := by decide +kernel
theorem dX12_signAt_315 : decode cX12_signAt 315 = .ok (.aload_n 0, 1) := by decide +kernel
theorem dX12_signAt_316 : decode cX12_signAt 316 = .ok (.getfield 21, 3) := by decide +kernel
theorem dX12_signAt_319 : decode cX12_signAt 319 = .ok (.iload 6, 2) := by decide +kernel
theorem dX12_signAt_321 : decode cX12_signAt 321 = .ok (.iconst 1, 1) := by decide +kernel
theorem dX12_signAt_322 : decode cX12_signAt 322 = .ok (.isub, 1) := by decide +kernel
theorem dX12_signAt_323 : decode cX12_signAt 323 = .ok (.baload, 1) := by decide +kernel
theorem dX12_signAt_324 : decode cX12_signAt 324 = .ok (.ifCond .eq 17, 3) := by decide +kernel
theorem dX12_signAt_327 : decode cX12_signAt 327 = .ok (.aload_n 0, 1) := by decide +kernel
theorem dX12_signAt_328 : decode cX12_signAt 328 = .ok (.getfield 21, 3) := by decide +kernel
theorem dX12_signAt_331 : decode cX12_signAt 331 = .ok (.iload 6, 2) := by decide +kernel
theorem dX12_signAt_333 : decode cX12_signAt 333 = .ok (.baload, 1) := by decide +kernel
theorem dX12_signAt_334 : decode cX12_signAt 334 = .ok (.ifCond .eq 7, 3) := by decide +kernel
theorem dX12_signAt_337 : decode cX12_signAt 337 = .ok (.iconst 1, 1) := by decide +kernel
theorem dX12_signAt_338 : decode cX12_signAt 338 = .ok (.goto 34, 3) := by decide +kernel
theorem dX12_signAt_341 : decode cX12_signAt 341 = .ok (.iconst 0, 1) := by decide +kernel
theorem dX12_signAt_342 : decode cX12_signAt 342 = .ok (.goto 30, 3) := by decide +kernel
theorem dX12_signAt_345 : decode cX12_signAt 345 = .ok (.aload_n 0, 1) := by decide +kernel
theorem dX12_signAt_346 : decode cX12_signAt 346 = .ok (.getfield 21, 3) := by decide +kernel
theorem dX12_signAt_349 : decode cX12_signAt 349 = .ok (.iload 6, 2) := by decide +kernel
theorem dX12_signAt_351 : decode cX12_signAt 351 = .ok (.iconst 1, 1) := by decide +kernel
theorem dX12_signAt_352 : decode cX12_signAt 352 = .ok (.isub, 1) := by decide +kernel
theorem dX12_signAt_353 : decode cX12_signAt 353 = .ok (.baload, 1) := by decide +kernel
theorem dX12_signAt_354 : decode cX12_signAt 354 = .ok (.ifCond .ne 13, 3) := by decide +kernel
theorem dX12_signAt_357 : decode cX12_signAt 357 = .ok (.aload_n 0, 1) := by decide +kernel
theorem dX12_signAt_358 : decode cX12_signAt 358 = .ok (.getfield 21, 3) := by decide +kernel
theorem dX12_signAt_361 : decode cX12_signAt 361 = .ok (.iload 6, 2) := by decide +kernel
theorem dX12_signAt_363 : decode cX12_signAt 363 = .ok (.baload, 1) := by decide +kernel
theorem dX12_signAt_364 : decode cX12_signAt 364 = .ok (.ifCond .eq 7, 3) := by decide +kernel
theorem dX12_signAt_367 : decode cX12_signAt 367 = .ok (.iconst 1, 1) := by decide +kernel
theorem dX12_signAt_368 : decode cX12_signAt 368 = .ok (.goto 4, 3) := by decide +kernel
theorem dX12_signAt_371 : decode cX12_signAt 371 = .ok (.iconst 0, 1) := by decide +kernel
theorem dX12_signAt_372 : decode cX12_signAt 372 = .ok (.bastore, 1) := by decide +kernel
theorem dX12_signAt_373 : decode cX12_signAt 373 = .ok (.goto 27, 3) := by decide +kernel
theorem dX12_signAt_376 : decode cX12_signAt 376 = .ok (.iconst 0, 1) := by decide +kernel
theorem dX12_signAt_377 : decode cX12_signAt 377 = .ok (.istore 6, 2) := by decide +kernel
theorem dX12_signAt_379 : decode cX12_signAt 379 = .ok (.iload_n 3, 1) := by decide +kernel
theorem dX12_signAt_380 : decode cX12_signAt 380 = .ok (.aload_n 0, 1) := by decide +kernel
theorem dX12_signAt_381 : decode cX12_signAt 381 = .ok (.getfield 21, 3) := by decide +kernel
theorem dX12_signAt_384 : decode cX12_signAt 384 = .ok (.iconst 0, 1) := by decide +kernel
theorem dX12_signAt_385 : decode cX12_signAt 385 = .ok (.baload, 1) := by decide +kernel
theorem dX12_signAt_386 : decode cX12_signAt 386 = .ok (.ifCond .eq 11, 3) := by decide +kernel
theorem dX12_signAt_389 : decode cX12_signAt 389 = .ok (.bipush (-10), 2) := by decide +kernel
theorem dX12_signAt_391 : decode cX12_signAt 391 = .ok (.iload 8, 2) := by decide +kernel
theorem dX12_signAt_393 : decode cX12_signAt 393 = .ok (.isub, 1) := by decide +kernel
theorem dX12_signAt_394 : decode cX12_signAt 394 = .ok (.goto 4, 3) := by decide +kernel
theorem dX12_signAt_397 : decode cX12_signAt 397 = .ok (.iconst 0, 1) := by decide +kernel
theorem dX12_signAt_398 : decode cX12_signAt 398 = .ok (.iadd, 1) := by decide +kernel
theorem dX12_signAt_399 : decode cX12_signAt 399 = .ok (.istore_n 3, 1) := by decide +kernel
theorem dX12_signAt_400 : decode cX12_signAt 400 = .ok (.iinc 7 1, 3) := by decide +kernel
theorem dX12_signAt_403 : decode cX12_signAt 403 = .ok (.goto (-266), 3) := by decide +kernel
theorem dX12_signAt_406 : decode cX12_signAt 406 = .ok (.iload_n 3, 1) := by decide +kernel
theorem dX12_signAt_407 : decode cX12_signAt 407 = .ok (.bipush 100, 2) := by decide +kernel
theorem dX12_signAt_409 : decode cX12_signAt 409 = .ok (.if_icmp .le 8, 3) := by decide +kernel
theorem dX12_signAt_412 : decode cX12_signAt 412 = .ok (.bipush 100, 2) := by decide +kernel
theorem dX12_signAt_414 : decode cX12_signAt 414 = .ok (.goto 4, 3) := by decide +kernel
theorem dX12_signAt_417 : decode cX12_signAt 417 = .ok (.iload_n 3, 1) := by decide +kernel
theorem dX12_signAt_418 : decode cX12_signAt 418 = .ok (.ireturn, 1) := by decide +kernel
theorem dX12_way_0 : decode cX12_way 0 = .ok (.iload_n 1, 1) := by decide +kernel
theorem dX12_way_1 : decode cX12_way 1 = .ok (.iconst 0, 1) := by decide +kernel
theorem dX12_way_2 : decode cX12_way 2 = .ok (.bipush 6, 2) := by decide +kernel
theorem dX12_way_4 : decode cX12_way 4 = .ok (.invokestatic 38, 3) := by decide +kernel
theorem dX12_way_7 : decode cX12_way 7 = .ok (.ifCond .ne 5, 3) := by decide +kernel
theorem dX12_way_10 : decode cX12_way 10 = .ok (.iconst (-1), 1) := by decide +kernel
theorem dX12_way_11 : decode cX12_way 11 = .ok (.ireturn, 1) := by decide +kernel
theorem dX12_way_12 : decode cX12_way 12 = .ok (.iload_n 2, 1) := by decide +kernel
theorem dX12_way_13 : decode cX12_way 13 = .ok (.iconst 0, 1) := by decide +kernel
theorem dX12_way_14 : decode cX12_way 14 = .ok (.bipush 9, 2) := by decide +kernel
theorem dX12_way_16 : decode cX12_way 16 = .ok (.invokestatic 38, 3) := by decide +kernel
theorem dX12_way_19 : decode cX12_way 19 = .ok (.ifCond .eq 13, 3) := by decide +kernel
theorem dX12_way_22 : decode cX12_way 22 = .ok (.iload_n 3, 1) := by decide +kernel
theorem dX12_way_23 : decode cX12_way 23 = .ok (.iconst 1, 1) := by decide +kernel
theorem dX12_way_24 : decode cX12_way 24 = .ok (.bipush 60, 2) := by decide +kernel
theorem dX12_way_26 : decode cX12_way 26 = .ok (.invokestatic 38, 3) := by decide +kernel
theorem dX12_way_29 : decode cX12_way 29 = .ok (.ifCond .ne 6, 3) := by decide +kernel
theorem dX12_way_32 : decode cX12_way 32 = .ok (.bipush (-2), 2) := by decide +kernel
theorem dX12_way_34 : decode cX12_way 34 = .ok (.ireturn, 1) := by decide +kernel
theorem dX12_way_35 : decode cX12_way 35 = .ok (.aload_n 0, 1) := by decide +kernel
theorem dX12_way_36 : decode cX12_way 36 = .ok (.getfield 9, 3) := by decide +kernel
theorem dX12_way_39 : decode cX12_way 39 = .ok (.iconst 0, 1) := by decide +kernel
theorem dX12_way_40 : decode cX12_way 40 = .ok (.iaload, 1) := by decide +kernel
theorem dX12_way_41 : decode cX12_way 41 = .ok (.bipush 6, 2) := by decide +kernel
theorem dX12_way_43 : decode cX12_way 43 = .ok (.if_icmp .ne 6, 3) := by decide +kernel
theorem dX12_way_46 : decode cX12_way 46 = .ok (.bipush (-4), 2) := by decide +kernel
theorem dX12_way_48 : decode cX12_way 48 = .ok (.ireturn, 1) := by decide +kernel
theorem dX12_way_49 : decode cX12_way 49 = .ok (.aload_n 0, 1) := by decide +kernel
theorem dX12_way_50 : decode cX12_way 50 = .ok (.getfield 9, 3) := by decide +kernel
theorem dX12_way_53 : decode cX12_way 53 = .ok (.iconst 0, 1) := by decide +kernel
theorem dX12_way_54 : decode cX12_way 54 = .ok (.iaload, 1) := by decide +kernel
theorem dX12_way_55 : decode cX12_way 55 = .ok (.istore 4, 2) := by decide +kernel
theorem dX12_way_57 : decode cX12_way 57 = .ok (.aload_n 0, 1) := by decide +kernel
theorem dX12_way_58 : decode cX12_way 58 = .ok (.getfield 9, 3) := by decide +kernel
theorem dX12_way_61 : decode cX12_way 61 = .ok (.bipush 11, 2) := by decide +kernel
theorem dX12_way_63 : decode cX12_way 63 = .ok (.iload 4, 2) := by decide +kernel
theorem dX12_way_65 : decode cX12_way 65 = .ok (.iadd, 1) := by decide +kernel
theorem dX12_way_66 : decode cX12_way 66 = .ok (.iload_n 1, 1) := by decide +kernel
theorem dX12_way_67 : decode cX12_way 67 = .ok (.iastore, 1) := by decide +kernel
theorem dX12_way_68 : decode cX12_way 68 = .ok (.aload_n 0, 1) := by decide +kernel
theorem dX12_way_69 : decode cX12_way 69 = .ok (.getfield 9, 3) := by decide +kernel
theorem dX12_way_72 : decode cX12_way 72 = .ok (.bipush 17, 2) := by decide +kernel
theorem dX12_way_74 : decode cX12_way 74 = .ok (.iload 4, 2) := by decide +kernel
theorem dX12_way_76 : decode cX12_way 76 = .ok (.iadd, 1) := by decide +kernel
theorem dX12_way_77 : decode cX12_way 77 = .ok (.iload_n 2, 1) := by decide +kernel
theorem dX12_way_78 : decode cX12_way 78 = .ok (.iastore, 1) := by decide +kernel
theorem dX12_way_79 : decode cX12_way 79 = .ok (.aload_n 0, 1) := by decide +kernel
theorem dX12_way_80 : decode cX12_way 80 = .ok (.getfield 9, 3) := by decide +kernel
theorem dX12_way_83 : decode cX12_way 83 = .ok (.bipush 23, 2) := by decide +kernel
theorem dX12_way_85 : decode cX12_way 85 = .ok (.iload 4, 2) := by decide +kernel
theorem dX12_way_87 : decode cX12_way 87 = .ok (.iadd, 1) := by decide +kernel
theorem dX12_way_88 : decode cX12_way 88 = .ok (.iload_n 3, 1) := by decide +kernel
theorem dX12_way_89 : decode cX12_way 89 = .ok (.iastore, 1) := by decide +kernel
theorem dX12_way_90 : decode cX12_way 90 = .ok (.iconst 0, 1) := by decide +kernel
theorem dX12_way_91 : decode cX12_way 91 = .ok (.istore 5, 2) := by decide +kernel
theorem dX12_way_93 : decode cX12_way 93 = .ok (.iload 5, 2) := by decide +kernel
theorem dX12_way_95 : decode cX12_way 95 = .ok (.iconst 4, 1) := by decide +kernel
theorem dX12_way_96 : decode cX12_way 96 = .ok (.if_icmp .ge 25, 3) := by decide +kernel
theorem dX12_way_99 : decode cX12_way 99 = .ok (.aload_n 0, 1) := by decide +kernel
theorem dX12_way_100 : decode cX12_way 100 = .ok (.getfield 9, 3) := by decide +kernel
theorem dX12_way_103 : decode cX12_way 103 = .ok (.bipush 29, 2) := by decide +kernel
theorem dX12_way_105 : decode cX12_way 105 = .ok (.iconst 4, 1) := by decide +kernel
theorem dX12_way_106 : decode cX12_way 106 = .ok (.iload 4, 2) := by decide +kernel
theorem dX12_way_108 : decode cX12_way 108 = .ok (.imul, 1) := by decide +kernel
theorem dX12_way_109 : decode cX12_way 109 = .ok (.iadd, 1) := by decide +kernel
theorem dX12_way_110 : decode cX12_way 110 = .ok (.iload 5, 2) := by decide +kernel
theorem dX12_way_112 : decode cX12_way 112 = .ok (.iadd, 1) := by decide +kernel
theorem dX12_way_113 : decode cX12_way 113 = .ok (.iconst 0, 1) := by decide +kernel
theorem dX12_way_114 : decode cX12_way 114 = .ok (.iastore, 1) := by decide +kernel
theorem dX12_way_115 : decode cX12_way 115 = .ok (.iinc 5 1, 3) := by decide +kernel
theorem dX12_way_118 : decode cX12_way 118 = .ok (.goto (-25), 3) := by decide +kernel
theorem dX12_way_121 : decode cX12_way 121 = .ok (.aload_n 0, 1) := by decide +kernel
theorem dX12_way_122 : decode cX12_way 122 = .ok (.getfield 9, 3) := by decide +kernel
theorem dX12_way_125 : decode cX12_way 125 = .ok (.iconst 0, 1) := by decide +kernel
theorem dX12_way_126 : decode cX12_way 126 = .ok (.dup2, 1) := by decide +kernel
theorem dX12_way_127 : decode cX12_way 127 = .ok (.iaload, 1) := by decide +kernel
theorem dX12_way_128 : decode cX12_way 128 = .ok (.iconst 1, 1) := by decide +kernel
theorem dX12_way_129 : decode cX12_way 129 = .ok (.iadd, 1) := by decide +kernel
theorem dX12_way_130 : decode cX12_way 130 = .ok (.iastore, 1) := by decide +kernel
theorem dX12_way_131 : decode cX12_way 131 = .ok (.iload 4, 2) := by decide +kernel
theorem dX12_way_133 : decode cX12_way 133 = .ok (.ireturn, 1) := by decide +kernel
theorem dX12_twins_0 : decode cX12_twins 0 = .ok (.iload_n 2, 1) := by decide +kernel
theorem dX12_twins_1 : decode cX12_twins 1 = .ok (.iconst 2, 1) := by decide +kernel
theorem dX12_twins_2 : decode cX12_twins 2 = .ok (.idiv, 1) := by decide +kernel
theorem dX12_twins_3 : decode cX12_twins 3 = .ok (.aload_n 0, 1) := by decide +kernel
theorem dX12_twins_4 : decode cX12_twins 4 = .ok (.getfield 9, 3) := by decide +kernel
theorem dX12_twins_7 : decode cX12_twins 7 = .ok (.bipush 23, 2) := by decide +kernel
theorem dX12_twins_9 : decode cX12_twins 9 = .ok (.iload_n 1, 1) := by decide +kernel
theorem dX12_twins_10 : decode cX12_twins 10 = .ok (.iadd, 1) := by decide +kernel
theorem dX12_twins_11 : decode cX12_twins 11 = .ok (.iaload, 1) := by decide +kernel
theorem dX12_twins_12 : decode cX12_twins 12 = .ok (.aload_n 0, 1) := by decide +kernel
theorem dX12_twins_13 : decode cX12_twins 13 = .ok (.getfield 9, 3) := by decide +kernel
theorem dX12_twins_16 : decode cX12_twins 16 = .ok (.bipush 17, 2) := by decide +kernel
theorem dX12_twins_18 : decode cX12_twins 18 = .ok (.iload_n 1, 1) := by decide +kernel
theorem dX12_twins_19 : decode cX12_twins 19 = .ok (.iadd, 1) := by decide +kernel
theorem dX12_twins_20 : decode cX12_twins 20 = .ok (.iaload, 1) := by decide +kernel
theorem dX12_twins_21 : decode cX12_twins 21 = .ok (.iadd, 1) := by decide +kernel
theorem dX12_twins_22 : decode cX12_twins 22 = .ok (.imul, 1) := by decide +kernel
theorem dX12_twins_23 : decode cX12_twins 23 = .ok (.iload_n 2, 1) := by decide +kernel
theorem dX12_twins_24 : decode cX12_twins 24 = .ok (.iconst 2, 1) := by decide +kernel
theorem dX12_twins_25 : decode cX12_twins 25 = .ok (.irem, 1) := by decide +kernel
theorem dX12_twins_26 : decode cX12_twins 26 = .ok (.aload_n 0, 1) := by decide +kernel
theorem dX12_twins_27 : decode cX12_twins 27 = .ok (.getfield 9, 3) := by decide +kernel
theorem dX12_twins_30 : decode cX12_twins 30 = .ok (.bipush 23, 2) := by decide +kernel
theorem dX12_twins_32 : decode cX12_twins 32 = .ok (.iload_n 1, 1) := by decide +kernel
theorem dX12_twins_33 : decode cX12_twins 33 = .ok (.iadd, 1) := by decide +kernel
theorem dX12_twins_34 : decode cX12_twins 34 = .ok (.iaload, 1) := by decide +kernel
theorem dX12_twins_35 : decode cX12_twins 35 = .ok (.imul, 1) := by decide +kernel
theorem dX12_twins_36 : decode cX12_twins 36 = .ok (.iadd, 1) := by decide +kernel
theorem dX12_twins_37 : decode cX12_twins 37 = .ok (.ireturn, 1) := by decide +kernel
theorem dX12_columns_0 : decode cX12_columns 0 = .ok (.iload_n 2, 1) := by decide +kernel
theorem dX12_columns_1 : decode cX12_columns 1 = .ok (.aload_n 0, 1) := by decide +kernel
theorem dX12_columns_2 : decode cX12_columns 2 = .ok (.getfield 9, 3) := by decide +kernel
theorem dX12_columns_5 : decode cX12_columns 5 = .ok (.bipush 23, 2) := by decide +kernel
theorem dX12_columns_7 : decode cX12_columns 7 = .ok (.iload_n 1, 1) := by decide +kernel
theorem dX12_columns_8 : decode cX12_columns 8 = .ok (.iadd, 1) := by decide +kernel
theorem dX12_columns_9 : decode cX12_columns 9 = .ok (.iaload, 1) := by decide +kernel
theorem dX12_columns_10 : decode cX12_columns 10 = .ok (.iconst 2, 1) := by decide +kernel
theorem dX12_columns_11 : decode cX12_columns 11 = .ok (.idiv, 1) := by decide +kernel
theorem dX12_columns_12 : decode cX12_columns 12 = .ok (.imul, 1) := by decide +kernel
theorem dX12_columns_13 : decode cX12_columns 13 = .ok (.aload_n 0, 1) := by decide +kernel
theorem dX12_columns_14 : decode cX12_columns 14 = .ok (.getfield 9, 3) := by decide +kernel
theorem dX12_columns_17 : decode cX12_columns 17 = .ok (.bipush 17, 2) := by decide +kernel
theorem dX12_columns_19 : decode cX12_columns 19 = .ok (.iload_n 1, 1) := by decide +kernel
theorem dX12_columns_20 : decode cX12_columns 20 = .ok (.iadd, 1) := by decide +kernel
theorem dX12_columns_21 : decode cX12_columns 21 = .ok (.iaload, 1) := by decide +kernel
theorem dX12_columns_22 : decode cX12_columns 22 = .ok (.iadd, 1) := by decide +kernel
theorem dX12_columns_23 : decode cX12_columns 23 = .ok (.ireturn, 1) := by decide +kernel
theorem dX12_byHand_0 : decode cX12_byHand 0 = .ok (.iconst 0, 1) := by decide +kernel
theorem dX12_byHand_1 : decode cX12_byHand 1 = .ok (.istore_n 3, 1) := by decide +kernel
theorem dX12_byHand_2 : decode cX12_byHand 2 = .ok (.iconst 0, 1) := by decide +kernel
theorem dX12_byHand_3 : decode cX12_byHand 3 = .ok (.istore 4, 2) := by decide +kernel
theorem dX12_byHand_5 : decode cX12_byHand 5 = .ok (.iload 4, 2) := by decide +kernel
theorem dX12_byHand_7 : decode cX12_byHand 7 = .ok (.iload_n 2, 1) := by decide +kernel
theorem dX12_byHand_8 : decode cX12_byHand 8 = .ok (.if_icmp .ge 37, 3) := by decide +kernel
theorem dX12_byHand_11 : decode cX12_byHand 11 = .ok (.iload_n 3, 1) := by decide +kernel
theorem dX12_byHand_12 : decode cX12_byHand 12 = .ok (.aload_n 0, 1) := by decide +kernel
theorem dX12_byHand_13 : decode cX12_byHand 13 = .ok (.getfield 9, 3) := by decide +kernel
theorem dX12_byHand_16 : decode cX12_byHand 16 = .ok (.bipush 23, 2) := by decide +kernel
theorem dX12_byHand_18 : decode cX12_byHand 18 = .ok (.iload_n 1, 1) := by decide +kernel
theorem dX12_byHand_19 : decode cX12_byHand 19 = .ok (.iadd, 1) := by decide +kernel
theorem dX12_byHand_20 : decode cX12_byHand 20 = .ok (.iaload, 1) := by decide +kernel
theorem dX12_byHand_21 : decode cX12_byHand 21 = .ok (.iload 4, 2) := by decide +kernel
theorem dX12_byHand_23 : decode cX12_byHand 23 = .ok (.bipush 10, 2) := by decide +kernel
theorem dX12_byHand_25 : decode cX12_byHand 25 = .ok (.idiv, 1) := by decide +kernel
theorem dX12_byHand_26 : decode cX12_byHand 26 = .ok (.aload_n 0, 1) := by decide +kernel
theorem dX12_byHand_27 : decode cX12_byHand 27 = .ok (.getfield 9, 3) := by decide +kernel
theorem dX12_byHand_30 : decode cX12_byHand 30 = .ok (.bipush 17, 2) := by decide +kernel
theorem dX12_byHand_32 : decode cX12_byHand 32 = .ok (.iload_n 1, 1) := by decide +kernel
theorem dX12_byHand_33 : decode cX12_byHand 33 = .ok (.iadd, 1) := by decide +kernel
theorem dX12_byHand_34 : decode cX12_byHand 34 = .ok (.iaload, 1) := by decide +kernel
theorem dX12_byHand_35 : decode cX12_byHand 35 = .ok (.imul, 1) := by decide +kernel
theorem dX12_byHand_36 : decode cX12_byHand 36 = .ok (.iadd, 1) := by decide +kernel
theorem dX12_byHand_37 : decode cX12_byHand 37 = .ok (.iadd, 1) := by decide +kernel
theorem dX12_byHand_38 : decode cX12_byHand 38 = .ok (.istore_n 3, 1) := by decide +kernel
theorem dX12_byHand_39 : decode cX12_byHand 39 = .ok (.iinc 4 1, 3) := by decide +kernel
theorem dX12_byHand_42 : decode cX12_byHand 42 = .ok (.goto (-37), 3) := by decide +kernel
theorem dX12_byHand_45 : decode cX12_byHand 45 = .ok (.iload_n 3, 1) := by decide +kernel
theorem dX12_byHand_46 : decode cX12_byHand 46 = .ok (.ireturn, 1) := by decide +kernel
theorem dX12_secondsOf_0 : decode cX12_secondsOf 0 = .ok (.iload_n 2, 1) := by decide +kernel
theorem dX12_secondsOf_1 : decode cX12_secondsOf 1 = .ok (.ifCond .ne 5, 3) := by decide +kernel
theorem dX12_secondsOf_4 : decode cX12_secondsOf 4 = .ok (.iconst 0, 1) := by decide +kernel
theorem dX12_secondsOf_5 : decode cX12_secondsOf 5 = .ok (.ireturn, 1) := by decide +kernel
theorem dX12_secondsOf_6 : decode cX12_secondsOf 6 = .ok (.iload_n 2, 1) := by decide +kernel
theorem dX12_secondsOf_7 : decode cX12_secondsOf 7 = .ok (.iconst 1, 1) := by decide +kernel
theorem dX12_secondsOf_8 : decode cX12_secondsOf 8 = .ok (.iadd, 1) := by decide +kernel
theorem dX12_secondsOf_9 : decode cX12_secondsOf 9 = .ok (.iconst 2, 1) := by decide +kernel
theorem dX12_secondsOf_10 : decode cX12_secondsOf 10 = .ok (.idiv, 1) := by decide +kernel
theorem dX12_secondsOf_11 : decode cX12_secondsOf 11 = .ok (.istore_n 3, 1) := by decide +kernel
theorem dX12_secondsOf_12 : decode cX12_secondsOf 12 = .ok (.aload_n 0, 1) := by decide +kernel
theorem dX12_secondsOf_13 : decode cX12_secondsOf 13 = .ok (.getfield 9, 3) := by decide +kernel
theorem dX12_secondsOf_16 : decode cX12_secondsOf 16 = .ok (.bipush 11, 2) := by decide +kernel
theorem dX12_secondsOf_18 : decode cX12_secondsOf 18 = .ok (.iload_n 1, 1) := by decide +kernel
theorem dX12_secondsOf_19 : decode cX12_secondsOf 19 = .ok (.iadd, 1) := by decide +kernel
theorem dX12_secondsOf_20 : decode cX12_secondsOf 20 = .ok (.iaload, 1) := by decide +kernel
theorem dX12_secondsOf_21 : decode cX12_secondsOf 21 = .ok (.tableswitch 117 1 6 #[39, 46, 53, 55, 90, 101], 39) := by decide +kernel
theorem dX12_secondsOf_60 : decode cX12_secondsOf 60 = .ok (.aload_n 0, 1) := by decide +kernel
theorem dX12_secondsOf_61 : decode cX12_secondsOf 61 = .ok (.iload_n 1, 1) := by decide +kernel
theorem dX12_secondsOf_62 : decode cX12_secondsOf 62 = .ok (.iload_n 2, 1) := by decide +kernel
theorem dX12_secondsOf_63 : decode cX12_secondsOf 63 = .ok (.invokevirtual 129, 3) := by decide +kernel
theorem dX12_secondsOf_66 : decode cX12_secondsOf 66 = .ok (.ireturn, 1) := by decide +kernel
theorem dX12_secondsOf_67 : decode cX12_secondsOf 67 = .ok (.aload_n 0, 1) := by decide +kernel
theorem dX12_secondsOf_68 : decode cX12_secondsOf 68 = .ok (.iload_n 1, 1) := by decide +kernel
theorem dX12_secondsOf_69 : decode cX12_secondsOf 69 = .ok (.iload_n 2, 1) := by decide +kernel
theorem dX12_secondsOf_70 : decode cX12_secondsOf 70 = .ok (.invokevirtual 132, 3) := by decide +kernel
theorem dX12_secondsOf_73 : decode cX12_secondsOf 73 = .ok (.ireturn, 1) := by decide +kernel
theorem dX12_secondsOf_74 : decode cX12_secondsOf 74 = .ok (.iconst 0, 1) := by decide +kernel
theorem dX12_secondsOf_75 : decode cX12_secondsOf 75 = .ok (.ireturn, 1) := by decide +kernel
theorem dX12_secondsOf_76 : decode cX12_secondsOf 76 = .ok (.iload_n 2, 1) := by decide +kernel
theorem dX12_secondsOf_77 : decode cX12_secondsOf 77 = .ok (.iconst 3, 1) := by decide +kernel
theorem dX12_secondsOf_78 : decode cX12_secondsOf 78 = .ok (.idiv, 1) := by decide +kernel
theorem dX12_secondsOf_79 : decode cX12_secondsOf 79 = .ok (.aload_n 0, 1) := by decide +kernel
theorem dX12_secondsOf_80 : decode cX12_secondsOf 80 = .ok (.getfield 9, 3) := by decide +kernel
theorem dX12_secondsOf_83 : decode cX12_secondsOf 83 = .ok (.bipush 23, 2) := by decide +kernel
theorem dX12_secondsOf_85 : decode cX12_secondsOf 85 = .ok (.iload_n 1, 1) := by decide +kernel
theorem dX12_secondsOf_86 : decode cX12_secondsOf 86 = .ok (.iadd, 1) := by decide +kernel
theorem dX12_secondsOf_87 : decode cX12_secondsOf 87 = .ok (.iaload, 1) := by decide +kernel
theorem dX12_secondsOf_88 : decode cX12_secondsOf 88 = .ok (.iconst 2, 1) := by decide +kernel
theorem dX12_secondsOf_89 : decode cX12_secondsOf 89 = .ok (.aload_n 0, 1) := by decide +kernel
theorem dX12_secondsOf_90 : decode cX12_secondsOf 90 = .ok (.getfield 9, 3) := by decide +kernel
theorem dX12_secondsOf_93 : decode cX12_secondsOf 93 = .ok (.bipush 17, 2) := by decide +kernel
theorem dX12_secondsOf_95 : decode cX12_secondsOf 95 = .ok (.iload_n 1, 1) := by decide +kernel
theorem dX12_secondsOf_96 : decode cX12_secondsOf 96 = .ok (.iadd, 1) := by decide +kernel
theorem dX12_secondsOf_97 : decode cX12_secondsOf 97 = .ok (.iaload, 1) := by decide +kernel
theorem dX12_secondsOf_98 : decode cX12_secondsOf 98 = .ok (.imul, 1) := by decide +kernel
theorem dX12_secondsOf_99 : decode cX12_secondsOf 99 = .ok (.iadd, 1) := by decide +kernel
theorem dX12_secondsOf_100 : decode cX12_secondsOf 100 = .ok (.imul, 1) := by decide +kernel
theorem dX12_secondsOf_101 : decode cX12_secondsOf 101 = .ok (.aload_n 0, 1) := by decide +kernel
theorem dX12_secondsOf_102 : decode cX12_secondsOf 102 = .ok (.iload_n 1, 1) := by decide +kernel
theorem dX12_secondsOf_103 : decode cX12_secondsOf 103 = .ok (.iload_n 2, 1) := by decide +kernel
theorem dX12_secondsOf_104 : decode cX12_secondsOf 104 = .ok (.iconst 3, 1) := by decide +kernel
theorem dX12_secondsOf_105 : decode cX12_secondsOf 105 = .ok (.irem, 1) := by decide +kernel
theorem dX12_secondsOf_106 : decode cX12_secondsOf 106 = .ok (.invokevirtual 129, 3) := by decide +kernel
theorem dX12_secondsOf_109 : decode cX12_secondsOf 109 = .ok (.iadd, 1) := by decide +kernel
theorem dX12_secondsOf_110 : decode cX12_secondsOf 110 = .ok (.ireturn, 1) := by decide +kernel
theorem dX12_secondsOf_111 : decode cX12_secondsOf 111 = .ok (.aload_n 0, 1) := by decide +kernel
theorem dX12_secondsOf_112 : decode cX12_secondsOf 112 = .ok (.iload_n 1, 1) := by decide +kernel
theorem dX12_secondsOf_113 : decode cX12_secondsOf 113 = .ok (.iload_n 3, 1) := by decide +kernel
theorem dX12_secondsOf_114 : decode cX12_secondsOf 114 = .ok (.invokevirtual 132, 3) := by decide +kernel
theorem dX12_secondsOf_117 : decode cX12_secondsOf 117 = .ok (.iload_n 2, 1) := by decide +kernel
theorem dX12_secondsOf_118 : decode cX12_secondsOf 118 = .ok (.iadd, 1) := by decide +kernel
theorem dX12_secondsOf_119 : decode cX12_secondsOf 119 = .ok (.iload_n 3, 1) := by decide +kernel
theorem dX12_secondsOf_120 : decode cX12_secondsOf 120 = .ok (.isub, 1) := by decide +kernel
theorem dX12_secondsOf_121 : decode cX12_secondsOf 121 = .ok (.ireturn, 1) := by decide +kernel
theorem dX12_secondsOf_122 : decode cX12_secondsOf 122 = .ok (.aload_n 0, 1) := by decide +kernel
theorem dX12_secondsOf_123 : decode cX12_secondsOf 123 = .ok (.getfield 9, 3) := by decide +kernel
theorem dX12_secondsOf_126 : decode cX12_secondsOf 126 = .ok (.bipush 29, 2) := by decide +kernel
theorem dX12_secondsOf_128 : decode cX12_secondsOf 128 = .ok (.iconst 4, 1) := by decide +kernel
theorem dX12_secondsOf_129 : decode cX12_secondsOf 129 = .ok (.iload_n 1, 1) := by decide +kernel
theorem dX12_secondsOf_130 : decode cX12_secondsOf 130 = .ok (.imul, 1) := by decide +kernel
theorem dX12_secondsOf_131 : decode cX12_secondsOf 131 = .ok (.iadd, 1) := by decide +kernel
theorem dX12_secondsOf_132 : decode cX12_secondsOf 132 = .ok (.iload_n 2, 1) := by decide +kernel
theorem dX12_secondsOf_133 : decode cX12_secondsOf 133 = .ok (.iconst 4, 1) := by decide +kernel
theorem dX12_secondsOf_134 : decode cX12_secondsOf 134 = .ok (.irem, 1) := by decide +kernel
theorem dX12_secondsOf_135 : decode cX12_secondsOf 135 = .ok (.iadd, 1) := by decide +kernel
theorem dX12_secondsOf_136 : decode cX12_secondsOf 136 = .ok (.iaload, 1) := by decide +kernel
theorem dX12_secondsOf_137 : decode cX12_secondsOf 137 = .ok (.ireturn, 1) := by decide +kernel
theorem dX12_secondsOf_138 : decode cX12_secondsOf 138 = .ok (.aload_n 0, 1) := by decide +kernel
theorem dX12_secondsOf_139 : decode cX12_secondsOf 139 = .ok (.iload_n 1, 1) := by decide +kernel
theorem dX12_secondsOf_140 : decode cX12_secondsOf 140 = .ok (.iload_n 2, 1) := by decide +kernel
theorem dX12_secondsOf_141 : decode cX12_secondsOf 141 = .ok (.invokevirtual 135, 3) := by decide +kernel
theorem dX12_secondsOf_144 : decode cX12_secondsOf 144 = .ok (.ireturn, 1) := by decide +kernel
theorem dX12_penceOf_0 : decode cX12_penceOf 0 = .ok (.aload_n 0, 1) := by decide +kernel
theorem dX12_penceOf_1 : decode cX12_penceOf 1 = .ok (.getfield 9, 3) := by decide +kernel
theorem dX12_penceOf_4 : decode cX12_penceOf 4 = .ok (.bipush 11, 2) := by decide +kernel
theorem dX12_penceOf_6 : decode cX12_penceOf 6 = .ok (.iload_n 1, 1) := by decide +kernel
theorem dX12_penceOf_7 : decode cX12_penceOf 7 = .ok (.iadd, 1) := by decide +kernel
theorem dX12_penceOf_8 : decode cX12_penceOf 8 = .ok (.iaload, 1) := by decide +kernel
theorem dX12_penceOf_9 : decode cX12_penceOf 9 = .ok (.iconst 3, 1) := by decide +kernel
theorem dX12_penceOf_10 : decode cX12_penceOf 10 = .ok (.if_icmp .eq 17, 3) := by decide +kernel
theorem dX12_penceOf_13 : decode cX12_penceOf 13 = .ok (.aload_n 0, 1) := by decide +kernel
theorem dX12_penceOf_14 : decode cX12_penceOf 14 = .ok (.getfield 9, 3) := by decide +kernel
theorem dX12_penceOf_17 : decode cX12_penceOf 17 = .ok (.bipush 11, 2) := by decide +kernel
theorem dX12_penceOf_19 : decode cX12_penceOf 19 = .ok (.iload_n 1, 1) := by decide +kernel
theorem dX12_penceOf_20 : decode cX12_penceOf 20 = .ok (.iadd, 1) := by decide +kernel
theorem dX12_penceOf_21 : decode cX12_penceOf 21 = .ok (.iaload, 1) := by decide +kernel
theorem dX12_penceOf_22 : decode cX12_penceOf 22 = .ok (.bipush 6, 2) := by decide +kernel
theorem dX12_penceOf_24 : decode cX12_penceOf 24 = .ok (.if_icmp .ne 17, 3) := by decide +kernel
theorem dX12_penceOf_27 : decode cX12_penceOf 27 = .ok (.iload_n 2, 1) := by decide +kernel
theorem dX12_penceOf_28 : decode cX12_penceOf 28 = .ok (.aload_n 0, 1) := by decide +kernel
theorem dX12_penceOf_29 : decode cX12_penceOf 29 = .ok (.getfield 9, 3) := by decide +kernel
theorem dX12_penceOf_32 : decode cX12_penceOf 32 = .ok (.bipush 17, 2) := by decide +kernel
theorem dX12_penceOf_34 : decode cX12_penceOf 34 = .ok (.iload_n 1, 1) := by decide +kernel
theorem dX12_penceOf_35 : decode cX12_penceOf 35 = .ok (.iadd, 1) := by decide +kernel
theorem dX12_penceOf_36 : decode cX12_penceOf 36 = .ok (.iaload, 1) := by decide +kernel
theorem dX12_penceOf_37 : decode cX12_penceOf 37 = .ok (.imul, 1) := by decide +kernel
theorem dX12_penceOf_38 : decode cX12_penceOf 38 = .ok (.goto 4, 3) := by decide +kernel
theorem dX12_penceOf_41 : decode cX12_penceOf 41 = .ok (.iconst 0, 1) := by decide +kernel
theorem dX12_penceOf_42 : decode cX12_penceOf 42 = .ok (.ireturn, 1) := by decide +kernel
theorem dX12_of_0 : decode cX12_of 0 = .ok (.aload_n 0, 1) := by decide +kernel
theorem dX12_of_1 : decode cX12_of 1 = .ok (.iload_n 1, 1) := by decide +kernel
theorem dX12_of_2 : decode cX12_of 2 = .ok (.invokevirtual 138, 3) := by decide +kernel
theorem dX12_of_5 : decode cX12_of 5 = .ok (.ifCond .eq 12, 3) := by decide +kernel
theorem dX12_of_8 : decode cX12_of 8 = .ok (.iload_n 2, 1) := by decide +kernel
theorem dX12_of_9 : decode cX12_of 9 = .ok (.iconst 0, 1) := by decide +kernel
theorem dX12_of_10 : decode cX12_of 10 = .ok (.iconst 3, 1) := by decide +kernel
theorem dX12_of_11 : decode cX12_of 11 = .ok (.invokestatic 38, 3) := by decide +kernel
theorem dX12_of_14 : decode cX12_of 14 = .ok (.ifCond .ne 5, 3) := by decide +kernel
theorem dX12_of_17 : decode cX12_of 17 = .ok (.iconst (-1), 1) := by decide +kernel
theorem dX12_of_18 : decode cX12_of 18 = .ok (.ireturn, 1) := by decide +kernel
theorem dX12_of_19 : decode cX12_of 19 = .ok (.iconst 0, 1) := by decide +kernel
theorem dX12_of_20 : decode cX12_of 20 = .ok (.istore_n 3, 1) := by decide +kernel
theorem dX12_of_21 : decode cX12_of 21 = .ok (.iconst 0, 1) := by decide +kernel
theorem dX12_of_22 : decode cX12_of 22 = .ok (.istore 4, 2) := by decide +kernel
theorem dX12_of_24 : decode cX12_of 24 = .ok (.iload 4, 2) := by decide +kernel
theorem dX12_of_26 : decode cX12_of 26 = .ok (.aload_n 0, 1) := by decide +kernel
theorem dX12_of_27 : decode cX12_of 27 = .ok (.getfield 9, 3) := by decide +kernel
theorem dX12_of_30 : decode cX12_of 30 = .ok (.bipush 8, 2) := by decide +kernel
theorem dX12_of_32 : decode cX12_of 32 = .ok (.iaload, 1) := by decide +kernel
theorem dX12_of_33 : decode cX12_of 33 = .ok (.if_icmp .ge 31, 3) := by decide +kernel
theorem dX12_of_36 : decode cX12_of 36 = .ok (.iload_n 3, 1) := by decide +kernel
theorem dX12_of_37 : decode cX12_of 37 = .ok (.aload_n 0, 1) := by decide +kernel
theorem dX12_of_38 : decode cX12_of 38 = .ok (.getfield 9, 3) := by decide +kernel
theorem dX12_of_41 : decode cX12_of 41 = .ok (.bipush 53, 2) := by decide +kernel
theorem dX12_of_43 : decode cX12_of 43 = .ok (.iload 4, 2) := by decide +kernel
theorem dX12_of_45 : decode cX12_of 45 = .ok (.iadd, 1) := by decide +kernel
theorem dX12_of_46 : decode cX12_of 46 = .ok (.iaload, 1) := by decide +kernel
theorem dX12_of_47 : decode cX12_of 47 = .ok (.iload_n 1, 1) := by decide +kernel
theorem dX12_of_48 : decode cX12_of 48 = .ok (.if_icmp .ne 7, 3) := by decide +kernel
theorem dX12_of_51 : decode cX12_of 51 = .ok (.iconst 1, 1) := by decide +kernel
theorem dX12_of_52 : decode cX12_of 52 = .ok (.goto 4, 3) := by decide +kernel
theorem dX12_of_55 : decode cX12_of 55 = .ok (.iconst 0, 1) := by decide +kernel
theorem dX12_of_56 : decode cX12_of 56 = .ok (.iadd, 1) := by decide +kernel
theorem dX12_of_57 : decode cX12_of 57 = .ok (.istore_n 3, 1) := by decide +kernel
theorem dX12_of_58 : decode cX12_of 58 = .ok (.iinc 4 1, 3) := by decide +kernel
theorem dX12_of_61 : decode cX12_of 61 = .ok (.goto (-37), 3) := by decide +kernel
theorem dX12_of_64 : decode cX12_of 64 = .ok (.iload_n 2, 1) := by decide +kernel
theorem dX12_of_65 : decode cX12_of 65 = .ok (.iconst 3, 1) := by decide +kernel
theorem dX12_of_66 : decode cX12_of 66 = .ok (.if_icmp .ne 7, 3) := by decide +kernel
theorem dX12_of_69 : decode cX12_of 69 = .ok (.iload_n 3, 1) := by decide +kernel
theorem dX12_of_70 : decode cX12_of 70 = .ok (.goto 17, 3) := by decide +kernel
theorem dX12_of_73 : decode cX12_of 73 = .ok (.aload_n 0, 1) := by decide +kernel
theorem dX12_of_74 : decode cX12_of 74 = .ok (.getfield 9, 3) := by decide +kernel
theorem dX12_of_77 : decode cX12_of 77 = .ok (.bipush 11, 2) := by decide +kernel
theorem dX12_of_79 : decode cX12_of 79 = .ok (.bipush 6, 2) := by decide +kernel
theorem dX12_of_81 : decode cX12_of 81 = .ok (.iload_n 2, 1) := by decide +kernel
theorem dX12_of_82 : decode cX12_of 82 = .ok (.imul, 1) := by decide +kernel
theorem dX12_of_83 : decode cX12_of 83 = .ok (.iadd, 1) := by decide +kernel
theorem dX12_of_84 : decode cX12_of 84 = .ok (.iload_n 1, 1) := by decide +kernel
theorem dX12_of_85 : decode cX12_of 85 = .ok (.iadd, 1) := by decide +kernel
theorem dX12_of_86 : decode cX12_of 86 = .ok (.iaload, 1) := by decide +kernel
theorem dX12_of_87 : decode cX12_of 87 = .ok (.ireturn, 1) := by decide +kernel
theorem dX12_row_0 : decode cX12_row 0 = .ok (.aload_n 0, 1) := by decide +kernel
theorem dX12_row_1 : decode cX12_row 1 = .ok (.iload_n 1, 1) := by decide +kernel
theorem dX12_row_2 : decode cX12_row 2 = .ok (.invokevirtual 138, 3) := by decide +kernel
theorem dX12_row_5 : decode cX12_row 5 = .ok (.ifCond .eq 12, 3) := by decide +kernel
theorem dX12_row_8 : decode cX12_row 8 = .ok (.iload_n 2, 1) := by decide +kernel
theorem dX12_row_9 : decode cX12_row 9 = .ok (.iconst 0, 1) := by decide +kernel
theorem dX12_row_10 : decode cX12_row 10 = .ok (.iconst 3, 1) := by decide +kernel
theorem dX12_row_11 : decode cX12_row 11 = .ok (.invokestatic 38, 3) := by decide +kernel
theorem dX12_row_14 : decode cX12_row 14 = .ok (.ifCond .ne 5, 3) := by decide +kernel
theorem dX12_row_17 : decode cX12_row 17 = .ok (.iconst (-1), 1) := by decide +kernel
theorem dX12_row_18 : decode cX12_row 18 = .ok (.ireturn, 1) := by decide +kernel
theorem dX12_row_19 : decode cX12_row 19 = .ok (.iload_n 3, 1) := by decide +kernel
theorem dX12_row_20 : decode cX12_row 20 = .ok (.iconst 0, 1) := by decide +kernel
theorem dX12_row_21 : decode cX12_row 21 = .ok (.bipush 9, 2) := by decide +kernel
theorem dX12_row_23 : decode cX12_row 23 = .ok (.invokestatic 38, 3) := by decide +kernel
theorem dX12_row_26 : decode cX12_row 26 = .ok (.ifCond .ne 6, 3) := by decide +kernel
theorem dX12_row_29 : decode cX12_row 29 = .ok (.bipush (-2), 2) := by decide +kernel
theorem dX12_row_31 : decode cX12_row 31 = .ok (.ireturn, 1) := by decide +kernel
theorem dX12_row_32 : decode cX12_row 32 = .ok (.aload_n 0, 1) := by decide +kernel
theorem dX12_row_33 : decode cX12_row 33 = .ok (.getfield 9, 3) := by decide +kernel
theorem dX12_row_36 : decode cX12_row 36 = .ok (.bipush 11, 2) := by decide +kernel
theorem dX12_row_38 : decode cX12_row 38 = .ok (.iload_n 1, 1) := by decide +kernel
theorem dX12_row_39 : decode cX12_row 39 = .ok (.iadd, 1) := by decide +kernel
theorem dX12_row_40 : decode cX12_row 40 = .ok (.iaload, 1) := by decide +kernel
theorem dX12_row_41 : decode cX12_row 41 = .ok (.bipush 6, 2) := by decide +kernel
theorem dX12_row_43 : decode cX12_row 43 = .ok (.if_icmp .eq 6, 3) := by decide +kernel
theorem dX12_row_46 : decode cX12_row 46 = .ok (.bipush (-3), 2) := by decide +kernel
theorem dX12_row_48 : decode cX12_row 48 = .ok (.ireturn, 1) := by decide +kernel
theorem dX12_row_49 : decode cX12_row 49 = .ok (.aload_n 0, 1) := by decide +kernel
theorem dX12_row_50 : decode cX12_row 50 = .ok (.getfield 9, 3) := by decide +kernel
theorem dX12_row_53 : decode cX12_row 53 = .ok (.bipush 29, 2) := by decide +kernel
theorem dX12_row_55 : decode cX12_row 55 = .ok (.iconst 4, 1) := by decide +kernel
theorem dX12_row_56 : decode cX12_row 56 = .ok (.iload_n 1, 1) := by decide +kernel
theorem dX12_row_57 : decode cX12_row 57 = .ok (.imul, 1) := by decide +kernel
theorem dX12_row_58 : decode cX12_row 58 = .ok (.iadd, 1) := by decide +kernel
theorem dX12_row_59 : decode cX12_row 59 = .ok (.iload_n 2, 1) := by decide +kernel
theorem dX12_row_60 : decode cX12_row 60 = .ok (.iadd, 1) := by decide +kernel
theorem dX12_row_61 : decode cX12_row 61 = .ok (.iaload, 1) := by decide +kernel
theorem dX12_row_62 : decode cX12_row 62 = .ok (.istore 4, 2) := by decide +kernel
theorem dX12_row_64 : decode cX12_row 64 = .ok (.aload_n 0, 1) := by decide +kernel
theorem dX12_row_65 : decode cX12_row 65 = .ok (.getfield 9, 3) := by decide +kernel
theorem dX12_row_68 : decode cX12_row 68 = .ok (.bipush 29, 2) := by decide +kernel
theorem dX12_row_70 : decode cX12_row 70 = .ok (.iconst 4, 1) := by decide +kernel
theorem dX12_row_71 : decode cX12_row 71 = .ok (.iload_n 1, 1) := by decide +kernel
theorem dX12_row_72 : decode cX12_row 72 = .ok (.imul, 1) := by decide +kernel
theorem dX12_row_73 : decode cX12_row 73 = .ok (.iadd, 1) := by decide +kernel
theorem dX12_row_74 : decode cX12_row 74 = .ok (.iload_n 2, 1) := by decide +kernel
theorem dX12_row_75 : decode cX12_row 75 = .ok (.iadd, 1) := by decide +kernel
theorem dX12_row_76 : decode cX12_row 76 = .ok (.iload_n 3, 1) := by decide +kernel
theorem dX12_row_77 : decode cX12_row 77 = .ok (.iastore, 1) := by decide +kernel
theorem dX12_row_78 : decode cX12_row 78 = .ok (.iload 4, 2) := by decide +kernel
theorem dX12_row_80 : decode cX12_row 80 = .ok (.ireturn, 1) := by decide +kernel
theorem dX12_write_0 : decode cX12_write 0 = .ok (.iload_n 1, 1) := by decide +kernel
theorem dX12_write_1 : decode cX12_write 1 = .ok (.iconst (-1), 1) := by decide +kernel
theorem dX12_write_2 : decode cX12_write 2 = .ok (.if_icmp .eq 13, 3) := by decide +kernel
theorem dX12_write_5 : decode cX12_write 5 = .ok (.aload_n 0, 1) := by decide +kernel
theorem dX12_write_6 : decode cX12_write 6 = .ok (.iload_n 1, 1) := by decide +kernel
theorem dX12_write_7 : decode cX12_write 7 = .ok (.invokevirtual 138, 3) := by decide +kernel
theorem dX12_write_10 : decode cX12_write 10 = .ok (.ifCond .ne 5, 3) := by decide +kernel
theorem dX12_write_13 : decode cX12_write 13 = .ok (.iconst (-1), 1) := by decide +kernel
theorem dX12_write_14 : decode cX12_write 14 = .ok (.ireturn, 1) := by decide +kernel
theorem dX12_write_15 : decode cX12_write 15 = .ok (.iload_n 2, 1) := by decide +kernel
theorem dX12_write_16 : decode cX12_write 16 = .ok (.iconst 1, 1) := by decide +kernel
theorem dX12_write_17 : decode cX12_write 17 = .ok (.bipush 40, 2) := by decide +kernel
theorem dX12_write_19 : decode cX12_write 19 = .ok (.invokestatic 38, 3) := by decide +kernel
theorem dX12_write_22 : decode cX12_write 22 = .ok (.ifCond .ne 6, 3) := by decide +kernel
theorem dX12_write_25 : decode cX12_write 25 = .ok (.bipush (-2), 2) := by decide +kernel
theorem dX12_write_27 : decode cX12_write 27 = .ok (.ireturn, 1) := by decide +kernel
theorem dX12_write_28 : decode cX12_write 28 = .ok (.aload_n 0, 1) := by decide +kernel
theorem dX12_write_29 : decode cX12_write 29 = .ok (.getfield 9, 3) := by decide +kernel
theorem dX12_write_32 : decode cX12_write 32 = .ok (.bipush 8, 2) := by decide +kernel
theorem dX12_write_34 : decode cX12_write 34 = .ok (.iaload, 1) := by decide +kernel
theorem dX12_write_35 : decode cX12_write 35 = .ok (.iload_n 2, 1) := by decide +kernel
theorem dX12_write_36 : decode cX12_write 36 = .ok (.iadd, 1) := by decide +kernel
theorem dX12_write_37 : decode cX12_write 37 = .ok (.bipush 40, 2) := by decide +kernel
theorem dX12_write_39 : decode cX12_write 39 = .ok (.if_icmp .le 6, 3) := by decide +kernel
theorem dX12_write_42 : decode cX12_write 42 = .ok (.bipush (-4), 2) := by decide +kernel
theorem dX12_write_44 : decode cX12_write 44 = .ok (.ireturn, 1) := by decide +kernel
theorem dX12_write_45 : decode cX12_write 45 = .ok (.iconst 0, 1) := by decide +kernel
theorem dX12_write_46 : decode cX12_write 46 = .ok (.istore_n 3, 1) := by decide +kernel
theorem dX12_write_47 : decode cX12_write 47 = .ok (.iload_n 3, 1) := by decide +kernel
theorem dX12_write_48 : decode cX12_write 48 = .ok (.iload_n 2, 1) := by decide +kernel
theorem dX12_write_49 : decode cX12_write 49 = .ok (.if_icmp .ge 27, 3) := by decide +kernel
theorem dX12_write_52 : decode cX12_write 52 = .ok (.aload_n 0, 1) := by decide +kernel
theorem dX12_write_53 : decode cX12_write 53 = .ok (.getfield 9, 3) := by decide +kernel
theorem dX12_write_56 : decode cX12_write 56 = .ok (.bipush 53, 2) := by decide +kernel
theorem dX12_write_58 : decode cX12_write 58 = .ok (.aload_n 0, 1) := by decide +kernel
theorem dX12_write_59 : decode cX12_write 59 = .ok (.getfield 9, 3) := by decide +kernel
theorem dX12_write_62 : decode cX12_write 62 = .ok (.bipush 8, 2) := by decide +kernel
theorem dX12_write_64 : decode cX12_write 64 = .ok (.iaload, 1) := by decide +kernel
theorem dX12_write_65 : decode cX12_write 65 = .ok (.iadd, 1) := by decide +kernel
theorem dX12_write_66 : decode cX12_write 66 = .ok (.iload_n 3, 1) := by decide +kernel
theorem dX12_write_67 : decode cX12_write 67 = .ok (.iadd, 1) := by decide +kernel
theorem dX12_write_68 : decode cX12_write 68 = .ok (.iload_n 1, 1) := by decide +kernel
theorem dX12_write_69 : decode cX12_write 69 = .ok (.iastore, 1) := by decide +kernel
theorem dX12_write_70 : decode cX12_write 70 = .ok (.iinc 3 1, 3) := by decide +kernel
theorem dX12_write_73 : decode cX12_write 73 = .ok (.goto (-26), 3) := by decide +kernel
theorem dX12_write_76 : decode cX12_write 76 = .ok (.aload_n 0, 1) := by decide +kernel
theorem dX12_write_77 : decode cX12_write 77 = .ok (.getfield 9, 3) := by decide +kernel
theorem dX12_write_80 : decode cX12_write 80 = .ok (.bipush 8, 2) := by decide +kernel
theorem dX12_write_82 : decode cX12_write 82 = .ok (.dup2, 1) := by decide +kernel
theorem dX12_write_83 : decode cX12_write 83 = .ok (.iaload, 1) := by decide +kernel
theorem dX12_write_84 : decode cX12_write 84 = .ok (.iload_n 2, 1) := by decide +kernel
theorem dX12_write_85 : decode cX12_write 85 = .ok (.iadd, 1) := by decide +kernel
theorem dX12_write_86 : decode cX12_write 86 = .ok (.iastore, 1) := by decide +kernel
theorem dX12_write_87 : decode cX12_write 87 = .ok (.aload_n 0, 1) := by decide +kernel
theorem dX12_write_88 : decode cX12_write 88 = .ok (.getfield 9, 3) := by decide +kernel
theorem dX12_write_91 : decode cX12_write 91 = .ok (.bipush 9, 2) := by decide +kernel
theorem dX12_write_93 : decode cX12_write 93 = .ok (.dup2, 1) := by decide +kernel
theorem dX12_write_94 : decode cX12_write 94 = .ok (.iaload, 1) := by decide +kernel
theorem dX12_write_95 : decode cX12_write 95 = .ok (.iload_n 1, 1) := by decide +kernel
theorem dX12_write_96 : decode cX12_write 96 = .ok (.iconst (-1), 1) := by decide +kernel
theorem dX12_write_97 : decode cX12_write 97 = .ok (.if_icmp .ne 7, 3) := by decide +kernel
theorem dX12_write_100 : decode cX12_write 100 = .ok (.iconst 0, 1) := by decide +kernel
theorem dX12_write_101 : decode cX12_write 101 = .ok (.goto 9, 3) := by decide +kernel
theorem dX12_write_104 : decode cX12_write 104 = .ok (.aload_n 0, 1) := by decide +kernel
theorem dX12_write_105 : decode cX12_write 105 = .ok (.iload_n 1, 1) := by decide +kernel
theorem dX12_write_106 : decode cX12_write 106 = .ok (.iload_n 2, 1) := by decide +kernel
theorem dX12_write_107 : decode cX12_write 107 = .ok (.invokevirtual 142, 3) := by decide +kernel
theorem dX12_write_110 : decode cX12_write 110 = .ok (.iadd, 1) := by decide +kernel
theorem dX12_write_111 : decode cX12_write 111 = .ok (.iastore, 1) := by decide +kernel
theorem dX12_write_112 : decode cX12_write 112 = .ok (.aload_n 0, 1) := by decide +kernel
theorem dX12_write_113 : decode cX12_write 113 = .ok (.getfield 9, 3) := by decide +kernel
theorem dX12_write_116 : decode cX12_write 116 = .ok (.bipush 10, 2) := by decide +kernel
theorem dX12_write_118 : decode cX12_write 118 = .ok (.dup2, 1) := by decide +kernel
theorem dX12_write_119 : decode cX12_write 119 = .ok (.iaload, 1) := by decide +kernel
theorem dX12_write_120 : decode cX12_write 120 = .ok (.iload_n 1, 1) := by decide +kernel
theorem dX12_write_121 : decode cX12_write 121 = .ok (.iconst (-1), 1) := by decide +kernel
theorem dX12_write_122 : decode cX12_write 122 = .ok (.if_icmp .ne 7, 3) := by decide +kernel
theorem dX12_write_125 : decode cX12_write 125 = .ok (.iconst 0, 1) := by decide +kernel
theorem dX12_write_126 : decode cX12_write 126 = .ok (.goto 9, 3) := by decide +kernel
theorem dX12_write_129 : decode cX12_write 129 = .ok (.aload_n 0, 1) := by decide +kernel
theorem dX12_write_130 : decode cX12_write 130 = .ok (.iload_n 1, 1) := by decide +kernel
theorem dX12_write_131 : decode cX12_write 131 = .ok (.iload_n 2, 1) := by decide +kernel
theorem dX12_write_132 : decode cX12_write 132 = .ok (.invokevirtual 145, 3) := by decide +kernel
theorem dX12_write_135 : decode cX12_write 135 = .ok (.iadd, 1) := by decide +kernel
theorem dX12_write_136 : decode cX12_write 136 = .ok (.iastore, 1) := by decide +kernel
theorem dX12_write_137 : decode cX12_write 137 = .ok (.aload_n 0, 1) := by decide +kernel
theorem dX12_write_138 : decode cX12_write 138 = .ok (.getfield 9, 3) := by decide +kernel
theorem dX12_write_141 : decode cX12_write 141 = .ok (.bipush 8, 2) := by decide +kernel
theorem dX12_write_143 : decode cX12_write 143 = .ok (.iaload, 1) := by decide +kernel
theorem dX12_write_144 : decode cX12_write 144 = .ok (.ireturn, 1) := by decide +kernel
theorem dX12_tear_0 : decode cX12_tear 0 = .ok (.aload_n 0, 1) := by decide +kernel
theorem dX12_tear_1 : decode cX12_tear 1 = .ok (.getfield 9, 3) := by decide +kernel
theorem dX12_tear_4 : decode cX12_tear 4 = .ok (.bipush 8, 2) := by decide +kernel
theorem dX12_tear_6 : decode cX12_tear 6 = .ok (.iaload, 1) := by decide +kernel
theorem dX12_tear_7 : decode cX12_tear 7 = .ok (.istore_n 1, 1) := by decide +kernel
theorem dX12_tear_8 : decode cX12_tear 8 = .ok (.aload_n 0, 1) := by decide +kernel
theorem dX12_tear_9 : decode cX12_tear 9 = .ok (.getfield 9, 3) := by decide +kernel
theorem dX12_tear_12 : decode cX12_tear 12 = .ok (.bipush 8, 2) := by decide +kernel
theorem dX12_tear_14 : decode cX12_tear 14 = .ok (.iconst 0, 1) := by decide +kernel
theorem dX12_tear_15 : decode cX12_tear 15 = .ok (.iastore, 1) := by decide +kernel
theorem dX12_tear_16 : decode cX12_tear 16 = .ok (.aload_n 0, 1) := by decide +kernel
theorem dX12_tear_17 : decode cX12_tear 17 = .ok (.getfield 9, 3) := by decide +kernel
theorem dX12_tear_20 : decode cX12_tear 20 = .ok (.bipush 9, 2) := by decide +kernel
theorem dX12_tear_22 : decode cX12_tear 22 = .ok (.iconst 0, 1) := by decide +kernel
theorem dX12_tear_23 : decode cX12_tear 23 = .ok (.iastore, 1) := by decide +kernel
theorem dX12_tear_24 : decode cX12_tear 24 = .ok (.aload_n 0, 1) := by decide +kernel
theorem dX12_tear_25 : decode cX12_tear 25 = .ok (.getfield 9, 3) := by decide +kernel
theorem dX12_tear_28 : decode cX12_tear 28 = .ok (.bipush 10, 2) := by decide +kernel
theorem dX12_tear_30 : decode cX12_tear 30 = .ok (.iconst 0, 1) := by decide +kernel
theorem dX12_tear_31 : decode cX12_tear 31 = .ok (.iastore, 1) := by decide +kernel
theorem dX12_tear_32 : decode cX12_tear 32 = .ok (.aload_n 0, 1) := by decide +kernel
theorem dX12_tear_33 : decode cX12_tear 33 = .ok (.getfield 9, 3) := by decide +kernel
theorem dX12_tear_36 : decode cX12_tear 36 = .ok (.iconst 3, 1) := by decide +kernel
theorem dX12_tear_37 : decode cX12_tear 37 = .ok (.iconst 0, 1) := by decide +kernel
theorem dX12_tear_38 : decode cX12_tear 38 = .ok (.iastore, 1) := by decide +kernel
theorem dX12_tear_39 : decode cX12_tear 39 = .ok (.iload_n 1, 1) := by decide +kernel
theorem dX12_tear_40 : decode cX12_tear 40 = .ok (.ireturn, 1) := by decide +kernel
theorem dX12_line_0 : decode cX12_line 0 = .ok (.iload_n 1, 1) := by decide +kernel
theorem dX12_line_1 : decode cX12_line 1 = .ok (.iconst 0, 1) := by decide +kernel
theorem dX12_line_2 : decode cX12_line 2 = .ok (.aload_n 0, 1) := by decide +kernel
theorem dX12_line_3 : decode cX12_line 3 = .ok (.getfield 9, 3) := by decide +kernel
theorem dX12_line_6 : decode cX12_line 6 = .ok (.bipush 8, 2) := by decide +kernel
theorem dX12_line_8 : decode cX12_line 8 = .ok (.iaload, 1) := by decide +kernel
theorem dX12_line_9 : decode cX12_line 9 = .ok (.iconst 1, 1) := by decide +kernel
theorem dX12_line_10 : decode cX12_line 10 = .ok (.isub, 1) := by decide +kernel
theorem dX12_line_11 : decode cX12_line 11 = .ok (.invokestatic 38, 3) := by decide +kernel
theorem dX12_line_14 : decode cX12_line 14 = .ok (.ifCond .eq 12, 3) := by decide +kernel
theorem dX12_line_17 : decode cX12_line 17 = .ok (.iload_n 2, 1) := by decide +kernel
theorem dX12_line_18 : decode cX12_line 18 = .ok (.iconst 0, 1) := by decide +kernel
theorem dX12_line_19 : decode cX12_line 19 = .ok (.iconst 1, 1) := by decide +kernel
theorem dX12_line_20 : decode cX12_line 20 = .ok (.invokestatic 38, 3) := by decide +kernel
theorem dX12_line_23 : decode cX12_line 23 = .ok (.ifCond .ne 5, 3) := by decide +kernel
theorem dX12_line_26 : decode cX12_line 26 = .ok (.iconst (-1), 1) := by decide +kernel
theorem dX12_line_27 : decode cX12_line 27 = .ok (.ireturn, 1) := by decide +kernel
theorem dX12_line_28 : decode cX12_line 28 = .ok (.iload_n 2, 1) := by decide +kernel
theorem dX12_line_29 : decode cX12_line 29 = .ok (.iconst 1, 1) := by decide +kernel
theorem dX12_line_30 : decode cX12_line 30 = .ok (.if_icmp .ne 11, 3) := by decide +kernel
theorem dX12_line_33 : decode cX12_line 33 = .ok (.aload_n 0, 1) := by decide +kernel
theorem dX12_line_34 : decode cX12_line 34 = .ok (.iload_n 1, 1) := by decide +kernel
theorem dX12_line_35 : decode cX12_line 35 = .ok (.invokevirtual 148, 3) := by decide +kernel
theorem dX12_line_38 : decode cX12_line 38 = .ok (.goto 30, 3) := by decide +kernel
theorem dX12_line_41 : decode cX12_line 41 = .ok (.aload_n 0, 1) := by decide +kernel
theorem dX12_line_42 : decode cX12_line 42 = .ok (.getfield 9, 3) := by decide +kernel
theorem dX12_line_45 : decode cX12_line 45 = .ok (.bipush 53, 2) := by decide +kernel
theorem dX12_line_47 : decode cX12_line 47 = .ok (.iload_n 1, 1) := by decide +kernel
theorem dX12_line_48 : decode cX12_line 48 = .ok (.iadd, 1) := by decide +kernel
theorem dX12_line_49 : decode cX12_line 49 = .ok (.iaload, 1) := by decide +kernel
theorem dX12_line_50 : decode cX12_line 50 = .ok (.iconst (-1), 1) := by decide +kernel
theorem dX12_line_51 : decode cX12_line 51 = .ok (.if_icmp .ne 8, 3) := by decide +kernel
theorem dX12_line_54 : decode cX12_line 54 = .ok (.bipush (-5), 2) := by decide +kernel
theorem dX12_line_56 : decode cX12_line 56 = .ok (.goto 12, 3) := by decide +kernel
theorem dX12_line_59 : decode cX12_line 59 = .ok (.aload_n 0, 1) := by decide +kernel
theorem dX12_line_60 : decode cX12_line 60 = .ok (.getfield 9, 3) := by decide +kernel
theorem dX12_line_63 : decode cX12_line 63 = .ok (.bipush 53, 2) := by decide +kernel
theorem dX12_line_65 : decode cX12_line 65 = .ok (.iload_n 1, 1) := by decide +kernel
theorem dX12_line_66 : decode cX12_line 66 = .ok (.iadd, 1) := by decide +kernel
theorem dX12_line_67 : decode cX12_line 67 = .ok (.iaload, 1) := by decide +kernel
theorem dX12_line_68 : decode cX12_line 68 = .ok (.ireturn, 1) := by decide +kernel
theorem dX12_missing_0 : decode cX12_missing 0 = .ok (.iconst 0, 1) := by decide +kernel
theorem dX12_missing_1 : decode cX12_missing 1 = .ok (.istore_n 1, 1) := by decide +kernel
theorem dX12_missing_2 : decode cX12_missing 2 = .ok (.iconst 0, 1) := by decide +kernel
theorem dX12_missing_3 : decode cX12_missing 3 = .ok (.istore_n 2, 1) := by decide +kernel
theorem dX12_missing_4 : decode cX12_missing 4 = .ok (.iload_n 2, 1) := by decide +kernel
theorem dX12_missing_5 : decode cX12_missing 5 = .ok (.aload_n 0, 1) := by decide +kernel
theorem dX12_missing_6 : decode cX12_missing 6 = .ok (.getfield 9, 3) := by decide +kernel
theorem dX12_missing_9 : decode cX12_missing 9 = .ok (.bipush 8, 2) := by decide +kernel
theorem dX12_missing_11 : decode cX12_missing 11 = .ok (.iaload, 1) := by decide +kernel
theorem dX12_missing_12 : decode cX12_missing 12 = .ok (.if_icmp .ge 30, 3) := by decide +kernel
theorem dX12_missing_15 : decode cX12_missing 15 = .ok (.iload_n 1, 1) := by decide +kernel
theorem dX12_missing_16 : decode cX12_missing 16 = .ok (.aload_n 0, 1) := by decide +kernel
theorem dX12_missing_17 : decode cX12_missing 17 = .ok (.getfield 9, 3) := by decide +kernel
theorem dX12_missing_20 : decode cX12_missing 20 = .ok (.bipush 53, 2) := by decide +kernel
theorem dX12_missing_22 : decode cX12_missing 22 = .ok (.iload_n 2, 1) := by decide +kernel
theorem dX12_missing_23 : decode cX12_missing 23 = .ok (.iadd, 1) := by decide +kernel
theorem dX12_missing_24 : decode cX12_missing 24 = .ok (.iaload, 1) := by decide +kernel
theorem dX12_missing_25 : decode cX12_missing 25 = .ok (.iconst (-1), 1) := by decide +kernel
theorem dX12_missing_26 : decode cX12_missing 26 = .ok (.if_icmp .ne 7, 3) := by decide +kernel
theorem dX12_missing_29 : decode cX12_missing 29 = .ok (.iconst 1, 1) := by decide +kernel
theorem dX12_missing_30 : decode cX12_missing 30 = .ok (.goto 4, 3) := by decide +kernel
theorem dX12_missing_33 : decode cX12_missing 33 = .ok (.iconst 0, 1) := by decide +kernel
theorem dX12_missing_34 : decode cX12_missing 34 = .ok (.iadd, 1) := by decide +kernel
theorem dX12_missing_35 : decode cX12_missing 35 = .ok (.istore_n 1, 1) := by decide +kernel
theorem dX12_missing_36 : decode cX12_missing 36 = .ok (.iinc 2 1, 3) := by decide +kernel
theorem dX12_missing_39 : decode cX12_missing 39 = .ok (.goto (-35), 3) := by decide +kernel
theorem dX12_missing_42 : decode cX12_missing 42 = .ok (.iload_n 1, 1) := by decide +kernel
theorem dX12_missing_43 : decode cX12_missing 43 = .ok (.ireturn, 1) := by decide +kernel
theorem dX12_isPlace_0 : decode cX12_isPlace 0 = .ok (.iconst 0, 1) := by decide +kernel
theorem dX12_isPlace_1 : decode cX12_isPlace 1 = .ok (.istore_n 2, 1) := by decide +kernel
theorem dX12_isPlace_2 : decode cX12_isPlace 2 = .ok (.iconst 0, 1) := by decide +kernel
theorem dX12_isPlace_3 : decode cX12_isPlace 3 = .ok (.istore_n 3, 1) := by decide +kernel
theorem dX12_isPlace_4 : decode cX12_isPlace 4 = .ok (.iload_n 3, 1) := by decide +kernel
theorem dX12_isPlace_5 : decode cX12_isPlace 5 = .ok (.aload_n 0, 1) := by decide +kernel
theorem dX12_isPlace_6 : decode cX12_isPlace 6 = .ok (.getfield 151, 3) := by decide +kernel
theorem dX12_isPlace_9 : decode cX12_isPlace 9 = .ok (.if_icmp .ge 29, 3) := by decide +kernel
theorem dX12_isPlace_12 : decode cX12_isPlace 12 = .ok (.iload_n 2, 1) := by decide +kernel
theorem dX12_isPlace_13 : decode cX12_isPlace 13 = .ok (.ifCond .ne 13, 3) := by decide +kernel
theorem dX12_isPlace_16 : decode cX12_isPlace 16 = .ok (.aload_n 0, 1) := by decide +kernel
theorem dX12_isPlace_17 : decode cX12_isPlace 17 = .ok (.getfield 25, 3) := by decide +kernel
theorem dX12_isPlace_20 : decode cX12_isPlace 20 = .ok (.iload_n 3, 1) := by decide +kernel
theorem dX12_isPlace_21 : decode cX12_isPlace 21 = .ok (.iaload, 1) := by decide +kernel
theorem dX12_isPlace_22 : decode cX12_isPlace 22 = .ok (.iload_n 1, 1) := by decide +kernel
theorem dX12_isPlace_23 : decode cX12_isPlace 23 = .ok (.if_icmp .ne 7, 3) := by decide +kernel
theorem dX12_isPlace_26 : decode cX12_isPlace 26 = .ok (.iconst 1, 1) := by decide +kernel
theorem dX12_isPlace_27 : decode cX12_isPlace 27 = .ok (.goto 4, 3) := by decide +kernel
theorem dX12_isPlace_30 : decode cX12_isPlace 30 = .ok (.iconst 0, 1) := by decide +kernel
theorem dX12_isPlace_31 : decode cX12_isPlace 31 = .ok (.istore_n 2, 1) := by decide +kernel
theorem dX12_isPlace_32 : decode cX12_isPlace 32 = .ok (.iinc 3 1, 3) := by decide +kernel
theorem dX12_isPlace_35 : decode cX12_isPlace 35 = .ok (.goto (-31), 3) := by decide +kernel
theorem dX12_isPlace_38 : decode cX12_isPlace 38 = .ok (.iload_n 2, 1) := by decide +kernel
theorem dX12_isPlace_39 : decode cX12_isPlace 39 = .ok (.ireturn, 1) := by decide +kernel
theorem dX12_looksForPlaces_0 : decode cX12_looksForPlaces 0 = .ok (.aload_n 0, 1) := by decide +kernel
theorem dX12_looksForPlaces_1 : decode cX12_looksForPlaces 1 = .ok (.iconst 0, 1) := by decide +kernel
theorem dX12_looksForPlaces_2 : decode cX12_looksForPlaces 2 = .ok (.putfield 151, 3) := by decide +kernel
theorem dX12_looksForPlaces_5 : decode cX12_looksForPlaces 5 = .ok (.aload_n 0, 1) := by decide +kernel
theorem dX12_looksForPlaces_6 : decode cX12_looksForPlaces 6 = .ok (.invokevirtual 154, 3) := by decide +kernel
theorem dX12_looksForPlaces_9 : decode cX12_looksForPlaces 9 = .ok (.istore_n 1, 1) := by decide +kernel
theorem dX12_looksForPlaces_10 : decode cX12_looksForPlaces 10 = .ok (.aload_n 0, 1) := by decide +kernel
theorem dX12_looksForPlaces_11 : decode cX12_looksForPlaces 11 = .ok (.getfield 9, 3) := by decide +kernel
theorem dX12_looksForPlaces_14 : decode cX12_looksForPlaces 14 = .ok (.iconst 2, 1) := by decide +kernel
theorem dX12_looksForPlaces_15 : decode cX12_looksForPlaces 15 = .ok (.iaload, 1) := by decide +kernel
theorem dX12_looksForPlaces_16 : decode cX12_looksForPlaces 16 = .ok (.istore_n 2, 1) := by decide +kernel
theorem dX12_looksForPlaces_17 : decode cX12_looksForPlaces 17 = .ok (.iconst 0, 1) := by decide +kernel
theorem dX12_looksForPlaces_18 : decode cX12_looksForPlaces 18 = .ok (.istore_n 3, 1) := by decide +kernel
theorem dX12_looksForPlaces_19 : decode cX12_looksForPlaces 19 = .ok (.iload_n 3, 1) := by decide +kernel
theorem dX12_looksForPlaces_20 : decode cX12_looksForPlaces 20 = .ok (.iload_n 2, 1) := by decide +kernel
theorem dX12_looksForPlaces_21 : decode cX12_looksForPlaces 21 = .ok (.ifCond .le 7, 3) := by decide +kernel
theorem dX12_looksForPlaces_24 : decode cX12_looksForPlaces 24 = .ok (.iload_n 2, 1) := by decide +kernel
theorem dX12_looksForPlaces_25 : decode cX12_looksForPlaces 25 = .ok (.goto 19, 3) := by decide +kernel
theorem dX12_looksForPlaces_28 : decode cX12_looksForPlaces 28 = .ok (.aload_n 0, 1) := by decide +kernel
theorem dX12_looksForPlaces_29 : decode cX12_looksForPlaces 29 = .ok (.invokevirtual 157, 3) := by decide +kernel
theorem dX12_looksForPlaces_32 : decode cX12_looksForPlaces 32 = .ok (.iconst 3, 1) := by decide +kernel
theorem dX12_looksForPlaces_33 : decode cX12_looksForPlaces 33 = .ok (.if_icmp .ge 10, 3) := by decide +kernel
theorem dX12_looksForPlaces_36 : decode cX12_looksForPlaces 36 = .ok (.aload_n 0, 1) := by decide +kernel
theorem dX12_looksForPlaces_37 : decode cX12_looksForPlaces 37 = .ok (.invokevirtual 157, 3) := by decide +kernel
theorem dX12_looksForPlaces_40 : decode cX12_looksForPlaces 40 = .ok (.goto 4, 3) := by decide +kernel
theorem dX12_looksForPlaces_43 : decode cX12_looksForPlaces 43 = .ok (.iconst 3, 1) := by decide +kernel
theorem dX12_looksForPlaces_44 : decode cX12_looksForPlaces 44 = .ok (.if_icmp .ge 79, 3) := by decide +kernel
theorem dX12_looksForPlaces_47 : decode cX12_looksForPlaces 47 = .ok (.iload_n 2, 1) := by decide +kernel
theorem dX12_looksForPlaces_48 : decode cX12_looksForPlaces 48 = .ok (.ifCond .le 15, 3) := by decide +kernel
theorem dX12_looksForPlaces_51 : decode cX12_looksForPlaces 51 = .ok (.aload_n 0, 1) := by decide +kernel
theorem dX12_looksForPlaces_52 : decode cX12_looksForPlaces 52 = .ok (.getfield 9, 3) := by decide +kernel
theorem dX12_looksForPlaces_55 : decode cX12_looksForPlaces 55 = .ok (.bipush 93, 2) := by decide +kernel
theorem dX12_looksForPlaces_57 : decode cX12_looksForPlaces 57 = .ok (.iload_n 3, 1) := by decide +kernel
theorem dX12_looksForPlaces_58 : decode cX12_looksForPlaces 58 = .ok (.iadd, 1) := by decide +kernel
theorem dX12_looksForPlaces_59 : decode cX12_looksForPlaces 59 = .ok (.iaload, 1) := by decide +kernel
theorem dX12_looksForPlaces_60 : decode cX12_looksForPlaces 60 = .ok (.goto 25, 3) := by decide +kernel
theorem dX12_looksForPlaces_63 : decode cX12_looksForPlaces 63 = .ok (.iload_n 3, 1) := by decide +kernel
theorem dX12_looksForPlaces_64 : decode cX12_looksForPlaces 64 = .ok (.ifCond .ne 7, 3) := by decide +kernel
theorem dX12_looksForPlaces_67 : decode cX12_looksForPlaces 67 = .ok (.iconst 0, 1) := by decide +kernel
theorem dX12_looksForPlaces_68 : decode cX12_looksForPlaces 68 = .ok (.goto 17, 3) := by decide +kernel
theorem dX12_looksForPlaces_71 : decode cX12_looksForPlaces 71 = .ok (.iload_n 3, 1) := by decide +kernel
theorem dX12_looksForPlaces_72 : decode cX12_looksForPlaces 72 = .ok (.iconst 1, 1) := by decide +kernel
theorem dX12_looksForPlaces_73 : decode cX12_looksForPlaces 73 = .ok (.if_icmp .ne 9, 3) := by decide +kernel
theorem dX12_looksForPlaces_76 : decode cX12_looksForPlaces 76 = .ok (.iload_n 1, 1) := by decide +kernel
theorem dX12_looksForPlaces_77 : decode cX12_looksForPlaces 77 = .ok (.iconst 1, 1) := by decide +kernel
theorem dX12_looksForPlaces_78 : decode cX12_looksForPlaces 78 = .ok (.isub, 1) := by decide +kernel
theorem dX12_looksForPlaces_79 : decode cX12_looksForPlaces 79 = .ok (.goto 6, 3) := by decide +kernel
theorem dX12_looksForPlaces_82 : decode cX12_looksForPlaces 82 = .ok (.iload_n 1, 1) := by decide +kernel
theorem dX12_looksForPlaces_83 : decode cX12_looksForPlaces 83 = .ok (.iconst 2, 1) := by decide +kernel
theorem dX12_looksForPlaces_84 : decode cX12_looksForPlaces 84 = .ok (.idiv, 1) := by decide +kernel
theorem dX12_looksForPlaces_85 : decode cX12_looksForPlaces 85 = .ok (.istore 4, 2) := by decide +kernel
theorem dX12_looksForPlaces_87 : decode cX12_looksForPlaces 87 = .ok (.aload_n 0, 1) := by decide +kernel
theorem dX12_looksForPlaces_88 : decode cX12_looksForPlaces 88 = .ok (.iload 4, 2) := by decide +kernel
theorem dX12_looksForPlaces_90 : decode cX12_looksForPlaces 90 = .ok (.invokevirtual 160, 3) := by decide +kernel
theorem dX12_looksForPlaces_93 : decode cX12_looksForPlaces 93 = .ok (.ifCond .ne 24, 3) := by decide +kernel
theorem dX12_looksForPlaces_96 : decode cX12_looksForPlaces 96 = .ok (.aload_n 0, 1) := by decide +kernel
theorem dX12_looksForPlaces_97 : decode cX12_looksForPlaces 97 = .ok (.getfield 25, 3) := by decide +kernel
theorem dX12_looksForPlaces_100 : decode cX12_looksForPlaces 100 = .ok (.aload_n 0, 1) := by decide +kernel
theorem dX12_looksForPlaces_101 : decode cX12_looksForPlaces 101 = .ok (.getfield 151, 3) := by decide +kernel
theorem dX12_looksForPlaces_104 : decode cX12_looksForPlaces 104 = .ok (.iload 4, 2) := by decide +kernel
theorem dX12_looksForPlaces_106 : decode cX12_looksForPlaces 106 = .ok (.iastore, 1) := by decide +kernel
theorem dX12_looksForPlaces_107 : decode cX12_looksForPlaces 107 = .ok (.aload_n 0, 1) := by decide +kernel
theorem dX12_looksForPlaces_108 : decode cX12_looksForPlaces 108 = .ok (.dup, 1) := by decide +kernel
theorem dX12_looksForPlaces_109 : decode cX12_looksForPlaces 109 = .ok (.getfield 151, 3) := by decide +kernel
theorem dX12_looksForPlaces_112 : decode cX12_looksForPlaces 112 = .ok (.iconst 1, 1) := by decide +kernel
theorem dX12_looksForPlaces_113 : decode cX12_looksForPlaces 113 = .ok (.iadd, 1) := by decide +kernel
theorem dX12_looksForPlaces_114 : decode cX12_looksForPlaces 114 = .ok (.putfield 151, 3) := by decide +kernel
theorem dX12_looksForPlaces_117 : decode cX12_looksForPlaces 117 = .ok (.iinc 3 1, 3) := by decide +kernel
theorem dX12_looksForPlaces_120 : decode cX12_looksForPlaces 120 = .ok (.goto (-101), 3) := by decide +kernel
theorem dX12_looksForPlaces_123 : decode cX12_looksForPlaces 123 = .ok (.return_, 1) := by decide +kernel
theorem dX12_told_0 : decode cX12_told 0 = .ok (.aload_n 0, 1) := by decide +kernel
theorem dX12_told_1 : decode cX12_told 1 = .ok (.invokevirtual 163, 3) := by decide +kernel
theorem dX12_told_4 : decode cX12_told 4 = .ok (.iload_n 1, 1) := by decide +kernel
theorem dX12_told_5 : decode cX12_told 5 = .ok (.bipush 10, 2) := by decide +kernel
theorem dX12_told_7 : decode cX12_told 7 = .ok (.isub, 1) := by decide +kernel
theorem dX12_told_8 : decode cX12_told 8 = .ok (.iconst 0, 1) := by decide +kernel
theorem dX12_told_9 : decode cX12_told 9 = .ok (.aload_n 0, 1) := by decide +kernel
theorem dX12_told_10 : decode cX12_told 10 = .ok (.getfield 151, 3) := by decide +kernel
theorem dX12_told_13 : decode cX12_told 13 = .ok (.iconst 1, 1) := by decide +kernel
theorem dX12_told_14 : decode cX12_told 14 = .ok (.isub, 1) := by decide +kernel
theorem dX12_told_15 : decode cX12_told 15 = .ok (.invokestatic 38, 3) := by decide +kernel
theorem dX12_told_18 : decode cX12_told 18 = .ok (.ifCond .eq 13, 3) := by decide +kernel
theorem dX12_told_21 : decode cX12_told 21 = .ok (.aload_n 0, 1) := by decide +kernel
theorem dX12_told_22 : decode cX12_told 22 = .ok (.getfield 25, 3) := by decide +kernel
theorem dX12_told_25 : decode cX12_told 25 = .ok (.iload_n 1, 1) := by decide +kernel
theorem dX12_told_26 : decode cX12_told 26 = .ok (.bipush 10, 2) := by decide +kernel
theorem dX12_told_28 : decode cX12_told 28 = .ok (.isub, 1) := by decide +kernel
theorem dX12_told_29 : decode cX12_told 29 = .ok (.iaload, 1) := by decide +kernel
theorem dX12_told_30 : decode cX12_told 30 = .ok (.ireturn, 1) := by decide +kernel
theorem dX12_told_31 : decode cX12_told 31 = .ok (.iload_n 1, 1) := by decide +kernel
theorem dX12_told_32 : decode cX12_told 32 = .ok (.tableswitch 92 0 6 #[44, 52, 60, 68, 73, 78, 87], 44) := by decide +kernel
theorem dX12_told_76 : decode cX12_told 76 = .ok (.aload_n 0, 1) := by decide +kernel
theorem dX12_told_77 : decode cX12_told 77 = .ok (.getfield 9, 3) := by decide +kernel
theorem dX12_told_80 : decode cX12_told 80 = .ok (.bipush 8, 2) := by decide +kernel
theorem dX12_told_82 : decode cX12_told 82 = .ok (.iaload, 1) := by decide +kernel
theorem dX12_told_83 : decode cX12_told 83 = .ok (.ireturn, 1) := by decide +kernel
theorem dX12_told_84 : decode cX12_told 84 = .ok (.aload_n 0, 1) := by decide +kernel
theorem dX12_told_85 : decode cX12_told 85 = .ok (.getfield 9, 3) := by decide +kernel
theorem dX12_told_88 : decode cX12_told 88 = .ok (.bipush 9, 2) := by decide +kernel
theorem dX12_told_90 : decode cX12_told 90 = .ok (.iaload, 1) := by decide +kernel
theorem dX12_told_91 : decode cX12_told 91 = .ok (.ireturn, 1) := by decide +kernel
theorem dX12_told_92 : decode cX12_told 92 = .ok (.aload_n 0, 1) := by decide +kernel
theorem dX12_told_93 : decode cX12_told 93 = .ok (.getfield 9, 3) := by decide +kernel
theorem dX12_told_96 : decode cX12_told 96 = .ok (.bipush 10, 2) := by decide +kernel
theorem dX12_told_98 : decode cX12_told 98 = .ok (.iaload, 1) := by decide +kernel
theorem dX12_told_99 : decode cX12_told 99 = .ok (.ireturn, 1) := by decide +kernel
theorem dX12_told_100 : decode cX12_told 100 = .ok (.aload_n 0, 1) := by decide +kernel
theorem dX12_told_101 : decode cX12_told 101 = .ok (.invokevirtual 154, 3) := by decide +kernel
theorem dX12_told_104 : decode cX12_told 104 = .ok (.ireturn, 1) := by decide +kernel
theorem dX12_told_105 : decode cX12_told 105 = .ok (.aload_n 0, 1) := by decide +kernel
theorem dX12_told_106 : decode cX12_told 106 = .ok (.invokevirtual 157, 3) := by decide +kernel
theorem dX12_told_109 : decode cX12_told 109 = .ok (.ireturn, 1) := by decide +kernel
theorem dX12_told_110 : decode cX12_told 110 = .ok (.aload_n 0, 1) := by decide +kernel
theorem dX12_told_111 : decode cX12_told 111 = .ok (.sipush 238, 3) := by decide +kernel
theorem dX12_told_114 : decode cX12_told 114 = .ok (.iconst 0, 1) := by decide +kernel
theorem dX12_told_115 : decode cX12_told 115 = .ok (.invokevirtual 117, 3) := by decide +kernel
theorem dX12_told_118 : decode cX12_told 118 = .ok (.ireturn, 1) := by decide +kernel
theorem dX12_told_119 : decode cX12_told 119 = .ok (.aload_n 0, 1) := by decide +kernel
theorem dX12_told_120 : decode cX12_told 120 = .ok (.invokevirtual 166, 3) := by decide +kernel
theorem dX12_told_123 : decode cX12_told 123 = .ok (.ireturn, 1) := by decide +kernel
theorem dX12_told_124 : decode cX12_told 124 = .ok (.iconst (-1), 1) := by decide +kernel
theorem dX12_told_125 : decode cX12_told 125 = .ok (.ireturn, 1) := by decide +kernel
theorem dX12_cost_0 : decode cX12_cost 0 = .ok (.aload_n 0, 1) := by decide +kernel
theorem dX12_cost_1 : decode cX12_cost 1 = .ok (.iload_n 1, 1) := by decide +kernel
theorem dX12_cost_2 : decode cX12_cost 2 = .ok (.invokevirtual 138, 3) := by decide +kernel
theorem dX12_cost_5 : decode cX12_cost 5 = .ok (.ifCond .eq 12, 3) := by decide +kernel
theorem dX12_cost_8 : decode cX12_cost 8 = .ok (.iload_n 3, 1) := by decide +kernel
theorem dX12_cost_9 : decode cX12_cost 9 = .ok (.iconst 0, 1) := by decide +kernel
theorem dX12_cost_10 : decode cX12_cost 10 = .ok (.iconst 1, 1) := by decide +kernel
theorem dX12_cost_11 : decode cX12_cost 11 = .ok (.invokestatic 38, 3) := by decide +kernel
theorem dX12_cost_14 : decode cX12_cost 14 = .ok (.ifCond .ne 5, 3) := by decide +kernel
theorem dX12_cost_17 : decode cX12_cost 17 = .ok (.iconst (-1), 1) := by decide +kernel
theorem dX12_cost_18 : decode cX12_cost 18 = .ok (.ireturn, 1) := by decide +kernel
theorem dX12_cost_19 : decode cX12_cost 19 = .ok (.iload_n 2, 1) := by decide +kernel
theorem dX12_cost_20 : decode cX12_cost 20 = .ok (.iconst 1, 1) := by decide +kernel
theorem dX12_cost_21 : decode cX12_cost 21 = .ok (.bipush 40, 2) := by decide +kernel
theorem dX12_cost_23 : decode cX12_cost 23 = .ok (.invokestatic 38, 3) := by decide +kernel
theorem dX12_cost_26 : decode cX12_cost 26 = .ok (.ifCond .ne 6, 3) := by decide +kernel
theorem dX12_cost_29 : decode cX12_cost 29 = .ok (.bipush (-2), 2) := by decide +kernel
theorem dX12_cost_31 : decode cX12_cost 31 = .ok (.ireturn, 1) := by decide +kernel
theorem dX12_cost_32 : decode cX12_cost 32 = .ok (.iload_n 3, 1) := by decide +kernel
theorem dX12_cost_33 : decode cX12_cost 33 = .ok (.ifCond .ne 12, 3) := by decide +kernel
theorem dX12_cost_36 : decode cX12_cost 36 = .ok (.aload_n 0, 1) := by decide +kernel
theorem dX12_cost_37 : decode cX12_cost 37 = .ok (.iload_n 1, 1) := by decide +kernel
theorem dX12_cost_38 : decode cX12_cost 38 = .ok (.iload_n 2, 1) := by decide +kernel
theorem dX12_cost_39 : decode cX12_cost 39 = .ok (.invokevirtual 142, 3) := by decide +kernel
theorem dX12_cost_42 : decode cX12_cost 42 = .ok (.goto 9, 3) := by decide +kernel
theorem dX12_cost_45 : decode cX12_cost 45 = .ok (.aload_n 0, 1) := by decide +kernel
theorem dX12_cost_46 : decode cX12_cost 46 = .ok (.iload_n 1, 1) := by decide +kernel
theorem dX12_cost_47 : decode cX12_cost 47 = .ok (.iload_n 2, 1) := by decide +kernel
theorem dX12_cost_48 : decode cX12_cost 48 = .ok (.invokevirtual 145, 3) := by decide +kernel
theorem dX12_cost_51 : decode cX12_cost 51 = .ok (.ireturn, 1) := by decide +kernel
theorem dX12_looks_0 : decode cX12_looks 0 = .ok (.iload_n 1, 1) := by decide +kernel
theorem dX12_looks_1 : decode cX12_looks 1 = .ok (.iconst (-1), 1) := by decide +kernel
theorem dX12_looks_2 : decode cX12_looks 2 = .ok (.if_icmp .ne 12, 3) := by decide +kernel
theorem dX12_looks_5 : decode cX12_looks 5 = .ok (.aload_n 0, 1) := by decide +kernel
theorem dX12_looks_6 : decode cX12_looks 6 = .ok (.getfield 9, 3) := by decide +kernel
theorem dX12_looks_9 : decode cX12_looks 9 = .ok (.iconst 2, 1) := by decide +kernel
theorem dX12_looks_10 : decode cX12_looks 10 = .ok (.iconst 0, 1) := by decide +kernel
theorem dX12_looks_11 : decode cX12_looks 11 = .ok (.iastore, 1) := by decide +kernel
theorem dX12_looks_12 : decode cX12_looks 12 = .ok (.iconst 0, 1) := by decide +kernel
theorem dX12_looks_13 : decode cX12_looks 13 = .ok (.ireturn, 1) := by decide +kernel
theorem dX12_looks_14 : decode cX12_looks 14 = .ok (.iload_n 1, 1) := by decide +kernel
theorem dX12_looks_15 : decode cX12_looks 15 = .ok (.iconst 0, 1) := by decide +kernel
theorem dX12_looks_16 : decode cX12_looks 16 = .ok (.bipush 39, 2) := by decide +kernel
theorem dX12_looks_18 : decode cX12_looks 18 = .ok (.invokestatic 38, 3) := by decide +kernel
theorem dX12_looks_21 : decode cX12_looks 21 = .ok (.ifCond .ne 6, 3) := by decide +kernel
theorem dX12_looks_24 : decode cX12_looks 24 = .ok (.bipush (-2), 2) := by decide +kernel
theorem dX12_looks_26 : decode cX12_looks 26 = .ok (.ireturn, 1) := by decide +kernel
theorem dX12_looks_27 : decode cX12_looks 27 = .ok (.iconst 0, 1) := by decide +kernel
theorem dX12_looks_28 : decode cX12_looks 28 = .ok (.istore_n 2, 1) := by decide +kernel
theorem dX12_looks_29 : decode cX12_looks 29 = .ok (.iload_n 2, 1) := by decide +kernel
theorem dX12_looks_30 : decode cX12_looks 30 = .ok (.aload_n 0, 1) := by decide +kernel
theorem dX12_looks_31 : decode cX12_looks 31 = .ok (.getfield 9, 3) := by decide +kernel
theorem dX12_looks_34 : decode cX12_looks 34 = .ok (.iconst 2, 1) := by decide +kernel
theorem dX12_looks_35 : decode cX12_looks 35 = .ok (.iaload, 1) := by decide +kernel
theorem dX12_looks_36 : decode cX12_looks 36 = .ok (.if_icmp .ge 25, 3) := by decide +kernel
theorem dX12_looks_39 : decode cX12_looks 39 = .ok (.aload_n 0, 1) := by decide +kernel
theorem dX12_looks_40 : decode cX12_looks 40 = .ok (.getfield 9, 3) := by decide +kernel
theorem dX12_looks_43 : decode cX12_looks 43 = .ok (.bipush 93, 2) := by decide +kernel
theorem dX12_looks_45 : decode cX12_looks 45 = .ok (.iload_n 2, 1) := by decide +kernel
theorem dX12_looks_46 : decode cX12_looks 46 = .ok (.iadd, 1) := by decide +kernel
theorem dX12_looks_47 : decode cX12_looks 47 = .ok (.iaload, 1) := by decide +kernel
theorem dX12_looks_48 : decode cX12_looks 48 = .ok (.iload_n 1, 1) := by decide +kernel
theorem dX12_looks_49 : decode cX12_looks 49 = .ok (.if_icmp .ne 6, 3) := by decide +kernel
theorem dX12_looks_52 : decode cX12_looks 52 = .ok (.bipush (-2), 2) := by decide +kernel
theorem dX12_looks_54 : decode cX12_looks 54 = .ok (.ireturn, 1) := by decide +kernel
theorem dX12_looks_55 : decode cX12_looks 55 = .ok (.iinc 2 1, 3) := by decide +kernel
theorem dX12_looks_58 : decode cX12_looks 58 = .ok (.goto (-29), 3) := by decide +kernel
theorem dX12_looks_61 : decode cX12_looks 61 = .ok (.aload_n 0, 1) := by decide +kernel
theorem dX12_looks_62 : decode cX12_looks 62 = .ok (.getfield 9, 3) := by decide +kernel
theorem dX12_looks_65 : decode cX12_looks 65 = .ok (.iconst 2, 1) := by decide +kernel
theorem dX12_looks_66 : decode cX12_looks 66 = .ok (.iaload, 1) := by decide +kernel
theorem dX12_looks_67 : decode cX12_looks 67 = .ok (.iconst 5, 1) := by decide +kernel
theorem dX12_looks_68 : decode cX12_looks 68 = .ok (.if_icmp .ne 6, 3) := by decide +kernel
theorem dX12_looks_71 : decode cX12_looks 71 = .ok (.bipush (-4), 2) := by decide +kernel
theorem dX12_looks_73 : decode cX12_looks 73 = .ok (.ireturn, 1) := by decide +kernel
theorem dX12_looks_74 : decode cX12_looks 74 = .ok (.aload_n 0, 1) := by decide +kernel
theorem dX12_looks_75 : decode cX12_looks 75 = .ok (.getfield 9, 3) := by decide +kernel
theorem dX12_looks_78 : decode cX12_looks 78 = .ok (.bipush 93, 2) := by decide +kernel
theorem dX12_looks_80 : decode cX12_looks 80 = .ok (.aload_n 0, 1) := by decide +kernel
theorem dX12_looks_81 : decode cX12_looks 81 = .ok (.getfield 9, 3) := by decide +kernel
theorem dX12_looks_84 : decode cX12_looks 84 = .ok (.iconst 2, 1) := by decide +kernel
theorem dX12_looks_85 : decode cX12_looks 85 = .ok (.iaload, 1) := by decide +kernel
theorem dX12_looks_86 : decode cX12_looks 86 = .ok (.iadd, 1) := by decide +kernel
theorem dX12_looks_87 : decode cX12_looks 87 = .ok (.iload_n 1, 1) := by decide +kernel
theorem dX12_looks_88 : decode cX12_looks 88 = .ok (.iastore, 1) := by decide +kernel
theorem dX12_looks_89 : decode cX12_looks 89 = .ok (.aload_n 0, 1) := by decide +kernel
theorem dX12_looks_90 : decode cX12_looks 90 = .ok (.getfield 9, 3) := by decide +kernel
theorem dX12_looks_93 : decode cX12_looks 93 = .ok (.iconst 2, 1) := by decide +kernel
theorem dX12_looks_94 : decode cX12_looks 94 = .ok (.dup2, 1) := by decide +kernel
theorem dX12_looks_95 : decode cX12_looks 95 = .ok (.iaload, 1) := by decide +kernel
theorem dX12_looks_96 : decode cX12_looks 96 = .ok (.iconst 1, 1) := by decide +kernel
theorem dX12_looks_97 : decode cX12_looks 97 = .ok (.iadd, 1) := by decide +kernel
theorem dX12_looks_98 : decode cX12_looks 98 = .ok (.iastore, 1) := by decide +kernel
theorem dX12_looks_99 : decode cX12_looks 99 = .ok (.aload_n 0, 1) := by decide +kernel
theorem dX12_looks_100 : decode cX12_looks 100 = .ok (.getfield 9, 3) := by decide +kernel
theorem dX12_looks_103 : decode cX12_looks 103 = .ok (.iconst 2, 1) := by decide +kernel
theorem dX12_looks_104 : decode cX12_looks 104 = .ok (.iaload, 1) := by decide +kernel
theorem dX12_looks_105 : decode cX12_looks 105 = .ok (.ireturn, 1) := by decide +kernel
theorem dX12_lowest_0 : decode cX12_lowest 0 = .ok (.lload_n 0, 1) := by decide +kernel
theorem dX12_lowest_1 : decode cX12_lowest 1 = .ok (.lconst 0, 1) := by decide +kernel
theorem dX12_lowest_2 : decode cX12_lowest 2 = .ok (.lcmp, 1) := by decide +kernel
theorem dX12_lowest_3 : decode cX12_lowest 3 = .ok (.ifCond .ge 8, 3) := by decide +kernel
theorem dX12_lowest_6 : decode cX12_lowest 6 = .ok (.lload_n 0, 1) := by decide +kernel
theorem dX12_lowest_7 : decode cX12_lowest 7 = .ok (.lneg, 1) := by decide +kernel
theorem dX12_lowest_8 : decode cX12_lowest 8 = .ok (.goto 4, 3) := by decide +kernel
theorem dX12_lowest_11 : decode cX12_lowest 11 = .ok (.lload_n 0, 1) := by decide +kernel
theorem dX12_lowest_12 : decode cX12_lowest 12 = .ok (.lstore 5, 2) := by decide +kernel
theorem dX12_lowest_14 : decode cX12_lowest 14 = .ok (.lload_n 2, 1) := by decide +kernel
theorem dX12_lowest_15 : decode cX12_lowest 15 = .ok (.lstore 7, 2) := by decide +kernel
theorem dX12_lowest_17 : decode cX12_lowest 17 = .ok (.lload 7, 2) := by decide +kernel
theorem dX12_lowest_19 : decode cX12_lowest 19 = .ok (.lconst 0, 1) := by decide +kernel
theorem dX12_lowest_20 : decode cX12_lowest 20 = .ok (.lcmp, 1) := by decide +kernel
theorem dX12_lowest_21 : decode cX12_lowest 21 = .ok (.ifCond .eq 21, 3) := by decide +kernel
theorem dX12_lowest_24 : decode cX12_lowest 24 = .ok (.lload 5, 2) := by decide +kernel
theorem dX12_lowest_26 : decode cX12_lowest 26 = .ok (.lload 7, 2) := by decide +kernel
theorem dX12_lowest_28 : decode cX12_lowest 28 = .ok (.lrem, 1) := by decide +kernel
theorem dX12_lowest_29 : decode cX12_lowest 29 = .ok (.lstore 9, 2) := by decide +kernel
theorem dX12_lowest_31 : decode cX12_lowest 31 = .ok (.lload 7, 2) := by decide +kernel
theorem dX12_lowest_33 : decode cX12_lowest 33 = .ok (.lstore 5, 2) := by decide +kernel
theorem dX12_lowest_35 : decode cX12_lowest 35 = .ok (.lload 9, 2) := by decide +kernel
theorem dX12_lowest_37 : decode cX12_lowest 37 = .ok (.lstore 7, 2) := by decide +kernel
theorem dX12_lowest_39 : decode cX12_lowest 39 = .ok (.goto (-22), 3) := by decide +kernel
theorem dX12_lowest_42 : decode cX12_lowest 42 = .ok (.iload 4, 2) := by decide +kernel
theorem dX12_lowest_44 : decode cX12_lowest 44 = .ok (.ifCond .ne 7, 3) := by decide +kernel
theorem dX12_lowest_47 : decode cX12_lowest 47 = .ok (.lload_n 0, 1) := by decide +kernel
theorem dX12_lowest_48 : decode cX12_lowest 48 = .ok (.goto 4, 3) := by decide +kernel
theorem dX12_lowest_51 : decode cX12_lowest 51 = .ok (.lload_n 2, 1) := by decide +kernel
theorem dX12_lowest_52 : decode cX12_lowest 52 = .ok (.lload 5, 2) := by decide +kernel
theorem dX12_lowest_54 : decode cX12_lowest 54 = .ok (.ldiv, 1) := by decide +kernel
theorem dX12_lowest_55 : decode cX12_lowest 55 = .ok (.lreturn, 1) := by decide +kernel
theorem dX12_isShort_0 : decode cX12_isShort 0 = .ok (.aload_n 0, 1) := by decide +kernel
theorem dX12_isShort_1 : decode cX12_isShort 1 = .ok (.invokevirtual 169, 3) := by decide +kernel
theorem dX12_isShort_4 : decode cX12_isShort 4 = .ok (.ifCond .eq 26, 3) := by decide +kernel
theorem dX12_isShort_7 : decode cX12_isShort 7 = .ok (.aload_n 0, 1) := by decide +kernel
theorem dX12_isShort_8 : decode cX12_isShort 8 = .ok (.getfield 9, 3) := by decide +kernel
theorem dX12_isShort_11 : decode cX12_isShort 11 = .ok (.bipush 8, 2) := by decide +kernel
theorem dX12_isShort_13 : decode cX12_isShort 13 = .ok (.iaload, 1) := by decide +kernel
theorem dX12_isShort_14 : decode cX12_isShort 14 = .ok (.aload_n 0, 1) := by decide +kernel
theorem dX12_isShort_15 : decode cX12_isShort 15 = .ok (.invokevirtual 166, 3) := by decide +kernel
theorem dX12_isShort_18 : decode cX12_isShort 18 = .ok (.isub, 1) := by decide +kernel
theorem dX12_isShort_19 : decode cX12_isShort 19 = .ok (.aload_n 0, 1) := by decide +kernel
theorem dX12_isShort_20 : decode cX12_isShort 20 = .ok (.invokevirtual 154, 3) := by decide +kernel
theorem dX12_isShort_23 : decode cX12_isShort 23 = .ok (.if_icmp .ge 7, 3) := by decide +kernel
theorem dX12_isShort_26 : decode cX12_isShort 26 = .ok (.iconst 1, 1) := by decide +kernel
theorem dX12_isShort_27 : decode cX12_isShort 27 = .ok (.goto 4, 3) := by decide +kernel
theorem dX12_isShort_30 : decode cX12_isShort 30 = .ok (.iconst 0, 1) := by decide +kernel
theorem dX12_isShort_31 : decode cX12_isShort 31 = .ok (.ireturn, 1) := by decide +kernel
theorem dX12_allWays_0 : decode cX12_allWays 0 = .ok (.lconst 1, 1) := by decide +kernel
theorem dX12_allWays_1 : decode cX12_allWays 1 = .ok (.lstore_n 1, 1) := by decide +kernel
theorem dX12_allWays_2 : decode cX12_allWays 2 = .ok (.iconst 0, 1) := by decide +kernel
theorem dX12_allWays_3 : decode cX12_allWays 3 = .ok (.istore_n 3, 1) := by decide +kernel
theorem dX12_allWays_4 : decode cX12_allWays 4 = .ok (.iload_n 3, 1) := by decide +kernel
theorem dX12_allWays_5 : decode cX12_allWays 5 = .ok (.aload_n 0, 1) := by decide +kernel
theorem dX12_allWays_6 : decode cX12_allWays 6 = .ok (.getfield 151, 3) := by decide +kernel
theorem dX12_allWays_9 : decode cX12_allWays 9 = .ok (.if_icmp .ge 15, 3) := by decide +kernel
theorem dX12_allWays_12 : decode cX12_allWays 12 = .ok (.lload_n 1, 1) := by decide +kernel
theorem dX12_allWays_13 : decode cX12_allWays 13 = .ok (.ldc2_w 173, 3) := by decide +kernel
theorem dX12_allWays_16 : decode cX12_allWays 16 = .ok (.lmul, 1) := by decide +kernel
theorem dX12_allWays_17 : decode cX12_allWays 17 = .ok (.lstore_n 1, 1) := by decide +kernel
theorem dX12_allWays_18 : decode cX12_allWays 18 = .ok (.iinc 3 1, 3) := by decide +kernel
theorem dX12_allWays_21 : decode cX12_allWays 21 = .ok (.goto (-17), 3) := by decide +kernel
theorem dX12_allWays_24 : decode cX12_allWays 24 = .ok (.lload_n 1, 1) := by decide +kernel
theorem dX12_allWays_25 : decode cX12_allWays 25 = .ok (.lreturn, 1) := by decide +kernel
theorem dX12_safeWays_0 : decode cX12_safeWays 0 = .ok (.aload_n 0, 1) := by decide +kernel
theorem dX12_safeWays_1 : decode cX12_safeWays 1 = .ok (.invokevirtual 163, 3) := by decide +kernel
theorem dX12_safeWays_4 : decode cX12_safeWays 4 = .ok (.aload_n 0, 1) := by decide +kernel
theorem dX12_safeWays_5 : decode cX12_safeWays 5 = .ok (.invokevirtual 175, 3) := by decide +kernel
theorem dX12_safeWays_8 : decode cX12_safeWays 8 = .ok (.ifCond .eq 7, 3) := by decide +kernel
theorem dX12_safeWays_11 : decode cX12_safeWays 11 = .ok (.lconst 0, 1) := by decide +kernel
theorem dX12_safeWays_12 : decode cX12_safeWays 12 = .ok (.goto 4, 3) := by decide +kernel
theorem dX12_safeWays_15 : decode cX12_safeWays 15 = .ok (.lconst 1, 1) := by decide +kernel
theorem dX12_safeWays_16 : decode cX12_safeWays 16 = .ok (.lstore_n 1, 1) := by decide +kernel
theorem dX12_safeWays_17 : decode cX12_safeWays 17 = .ok (.iconst 0, 1) := by decide +kernel
theorem dX12_safeWays_18 : decode cX12_safeWays 18 = .ok (.istore_n 3, 1) := by decide +kernel
theorem dX12_safeWays_19 : decode cX12_safeWays 19 = .ok (.iload_n 3, 1) := by decide +kernel
theorem dX12_safeWays_20 : decode cX12_safeWays 20 = .ok (.aload_n 0, 1) := by decide +kernel
theorem dX12_safeWays_21 : decode cX12_safeWays 21 = .ok (.getfield 151, 3) := by decide +kernel
theorem dX12_safeWays_24 : decode cX12_safeWays 24 = .ok (.if_icmp .ge 26, 3) := by decide +kernel
theorem dX12_safeWays_27 : decode cX12_safeWays 27 = .ok (.lload_n 1, 1) := by decide +kernel
theorem dX12_safeWays_28 : decode cX12_safeWays 28 = .ok (.bipush 100, 2) := by decide +kernel
theorem dX12_safeWays_30 : decode cX12_safeWays 30 = .ok (.aload_n 0, 1) := by decide +kernel
theorem dX12_safeWays_31 : decode cX12_safeWays 31 = .ok (.aload_n 0, 1) := by decide +kernel
theorem dX12_safeWays_32 : decode cX12_safeWays 32 = .ok (.getfield 25, 3) := by decide +kernel
theorem dX12_safeWays_35 : decode cX12_safeWays 35 = .ok (.iload_n 3, 1) := by decide +kernel
theorem dX12_safeWays_36 : decode cX12_safeWays 36 = .ok (.iaload, 1) := by decide +kernel
theorem dX12_safeWays_37 : decode cX12_safeWays 37 = .ok (.invokevirtual 148, 3) := by decide +kernel
theorem dX12_safeWays_40 : decode cX12_safeWays 40 = .ok (.isub, 1) := by decide +kernel
theorem dX12_safeWays_41 : decode cX12_safeWays 41 = .ok (.i2l, 1) := by decide +kernel
theorem dX12_safeWays_42 : decode cX12_safeWays 42 = .ok (.lmul, 1) := by decide +kernel
theorem dX12_safeWays_43 : decode cX12_safeWays 43 = .ok (.lstore_n 1, 1) := by decide +kernel
theorem dX12_safeWays_44 : decode cX12_safeWays 44 = .ok (.iinc 3 1, 3) := by decide +kernel
theorem dX12_safeWays_47 : decode cX12_safeWays 47 = .ok (.goto (-28), 3) := by decide +kernel
theorem dX12_safeWays_50 : decode cX12_safeWays 50 = .ok (.lload_n 1, 1) := by decide +kernel
theorem dX12_safeWays_51 : decode cX12_safeWays 51 = .ok (.lreturn, 1) := by decide +kernel
theorem dX12_safe_0 : decode cX12_safe 0 = .ok (.iload_n 1, 1) := by decide +kernel
theorem dX12_safe_1 : decode cX12_safe 1 = .ok (.iconst 0, 1) := by decide +kernel
theorem dX12_safe_2 : decode cX12_safe 2 = .ok (.iconst 1, 1) := by decide +kernel
theorem dX12_safe_3 : decode cX12_safe 3 = .ok (.invokestatic 38, 3) := by decide +kernel
theorem dX12_safe_6 : decode cX12_safe 6 = .ok (.ifCond .eq 18, 3) := by decide +kernel
theorem dX12_safe_9 : decode cX12_safe 9 = .ok (.aload_n 0, 1) := by decide +kernel
theorem dX12_safe_10 : decode cX12_safe 10 = .ok (.invokevirtual 178, 3) := by decide +kernel
theorem dX12_safe_13 : decode cX12_safe 13 = .ok (.aload_n 0, 1) := by decide +kernel
theorem dX12_safe_14 : decode cX12_safe 14 = .ok (.invokevirtual 182, 3) := by decide +kernel
theorem dX12_safe_17 : decode cX12_safe 17 = .ok (.iload_n 1, 1) := by decide +kernel
theorem dX12_safe_18 : decode cX12_safe 18 = .ok (.invokestatic 185, 3) := by decide +kernel
theorem dX12_safe_21 : decode cX12_safe 21 = .ok (.goto 6, 3) := by decide +kernel
theorem dX12_safe_24 : decode cX12_safe 24 = .ok (.ldc2_w 189, 3) := by decide +kernel
theorem dX12_safe_27 : decode cX12_safe 27 = .ok (.lreturn, 1) := by decide +kernel
theorem dX12_again_0 : decode cX12_again 0 = .ok (.iload_n 1, 1) := by decide +kernel
theorem dX12_again_1 : decode cX12_again 1 = .ok (.iconst 0, 1) := by decide +kernel
theorem dX12_again_2 : decode cX12_again 2 = .ok (.iconst 1, 1) := by decide +kernel
theorem dX12_again_3 : decode cX12_again 3 = .ok (.invokestatic 38, 3) := by decide +kernel
theorem dX12_again_6 : decode cX12_again 6 = .ok (.ifCond .ne 7, 3) := by decide +kernel
theorem dX12_again_9 : decode cX12_again 9 = .ok (.ldc2_w 189, 3) := by decide +kernel
theorem dX12_again_12 : decode cX12_again 12 = .ok (.lreturn, 1) := by decide +kernel
theorem dX12_again_13 : decode cX12_again 13 = .ok (.aload_n 0, 1) := by decide +kernel
theorem dX12_again_14 : decode cX12_again 14 = .ok (.invokevirtual 178, 3) := by decide +kernel
theorem dX12_again_17 : decode cX12_again 17 = .ok (.lstore_n 2, 1) := by decide +kernel
theorem dX12_again_18 : decode cX12_again 18 = .ok (.aload_n 0, 1) := by decide +kernel
theorem dX12_again_19 : decode cX12_again 19 = .ok (.invokevirtual 154, 3) := by decide +kernel
theorem dX12_again_22 : decode cX12_again 22 = .ok (.i2l, 1) := by decide +kernel
theorem dX12_again_23 : decode cX12_again 23 = .ok (.ldc2_w 191, 3) := by decide +kernel
theorem dX12_again_26 : decode cX12_again 26 = .ok (.aload_n 0, 1) := by decide +kernel
theorem dX12_again_27 : decode cX12_again 27 = .ok (.invokevirtual 182, 3) := by decide +kernel
theorem dX12_again_30 : decode cX12_again 30 = .ok (.lmul, 1) := by decide +kernel
theorem dX12_again_31 : decode cX12_again 31 = .ok (.lload_n 2, 1) := by decide +kernel
theorem dX12_again_32 : decode cX12_again 32 = .ok (.lsub, 1) := by decide +kernel
theorem dX12_again_33 : decode cX12_again 33 = .ok (.lmul, 1) := by decide +kernel
theorem dX12_again_34 : decode cX12_again 34 = .ok (.aload_n 0, 1) := by decide +kernel
theorem dX12_again_35 : decode cX12_again 35 = .ok (.invokevirtual 182, 3) := by decide +kernel
theorem dX12_again_38 : decode cX12_again 38 = .ok (.iload_n 1, 1) := by decide +kernel
theorem dX12_again_39 : decode cX12_again 39 = .ok (.invokestatic 185, 3) := by decide +kernel
theorem dX12_again_42 : decode cX12_again 42 = .ok (.lreturn, 1) := by decide +kernel
theorem dX12_twice_0 : decode cX12_twice 0 = .ok (.iload_n 1, 1) := by decide +kernel
theorem dX12_twice_1 : decode cX12_twice 1 = .ok (.iconst 1, 1) := by decide +kernel
theorem dX12_twice_2 : decode cX12_twice 2 = .ok (.iconst 4, 1) := by decide +kernel
theorem dX12_twice_3 : decode cX12_twice 3 = .ok (.invokestatic 38, 3) := by decide +kernel
theorem dX12_twice_6 : decode cX12_twice 6 = .ok (.ifCond .eq 12, 3) := by decide +kernel
theorem dX12_twice_9 : decode cX12_twice 9 = .ok (.iload_n 2, 1) := by decide +kernel
theorem dX12_twice_10 : decode cX12_twice 10 = .ok (.iconst 0, 1) := by decide +kernel
theorem dX12_twice_11 : decode cX12_twice 11 = .ok (.iconst 1, 1) := by decide +kernel
theorem dX12_twice_12 : decode cX12_twice 12 = .ok (.invokestatic 38, 3) := by decide +kernel
theorem dX12_twice_15 : decode cX12_twice 15 = .ok (.ifCond .ne 7, 3) := by decide +kernel
theorem dX12_twice_18 : decode cX12_twice 18 = .ok (.ldc2_w 189, 3) := by decide +kernel
theorem dX12_twice_21 : decode cX12_twice 21 = .ok (.lreturn, 1) := by decide +kernel
theorem dX12_twice_22 : decode cX12_twice 22 = .ok (.aload_n 0, 1) := by decide +kernel
theorem dX12_twice_23 : decode cX12_twice 23 = .ok (.invokevirtual 178, 3) := by decide +kernel
theorem dX12_twice_26 : decode cX12_twice 26 = .ok (.lstore_n 3, 1) := by decide +kernel
theorem dX12_twice_27 : decode cX12_twice 27 = .ok (.aload_n 0, 1) := by decide +kernel
theorem dX12_twice_28 : decode cX12_twice 28 = .ok (.invokevirtual 182, 3) := by decide +kernel
theorem dX12_twice_31 : decode cX12_twice 31 = .ok (.lstore 5, 2) := by decide +kernel
theorem dX12_twice_33 : decode cX12_twice 33 = .ok (.iload_n 1, 1) := by decide +kernel
theorem dX12_twice_34 : decode cX12_twice 34 = .ok (.aload_n 0, 1) := by decide +kernel
theorem dX12_twice_35 : decode cX12_twice 35 = .ok (.invokevirtual 154, 3) := by decide +kernel
theorem dX12_twice_38 : decode cX12_twice 38 = .ok (.if_icmp .ge 12, 3) := by decide +kernel
theorem dX12_twice_41 : decode cX12_twice 41 = .ok (.aload_n 0, 1) := by decide +kernel
theorem dX12_twice_42 : decode cX12_twice 42 = .ok (.invokevirtual 154, 3) := by decide +kernel
theorem dX12_twice_45 : decode cX12_twice 45 = .ok (.iload_n 1, 1) := by decide +kernel
theorem dX12_twice_46 : decode cX12_twice 46 = .ok (.isub, 1) := by decide +kernel
theorem dX12_twice_47 : decode cX12_twice 47 = .ok (.goto 4, 3) := by decide +kernel
theorem dX12_twice_50 : decode cX12_twice 50 = .ok (.iconst 0, 1) := by decide +kernel
theorem dX12_twice_51 : decode cX12_twice 51 = .ok (.istore 7, 2) := by decide +kernel
theorem dX12_twice_53 : decode cX12_twice 53 = .ok (.iload 7, 2) := by decide +kernel
theorem dX12_twice_55 : decode cX12_twice 55 = .ok (.aload_n 0, 1) := by decide +kernel
theorem dX12_twice_56 : decode cX12_twice 56 = .ok (.invokevirtual 154, 3) := by decide +kernel
theorem dX12_twice_59 : decode cX12_twice 59 = .ok (.if_icmp .ge 30, 3) := by decide +kernel
theorem dX12_twice_62 : decode cX12_twice 62 = .ok (.lload_n 3, 1) := by decide +kernel
theorem dX12_twice_63 : decode cX12_twice 63 = .ok (.bipush 100, 2) := by decide +kernel
theorem dX12_twice_65 : decode cX12_twice 65 = .ok (.aload_n 0, 1) := by decide +kernel
theorem dX12_twice_66 : decode cX12_twice 66 = .ok (.iload 7, 2) := by decide +kernel
theorem dX12_twice_68 : decode cX12_twice 68 = .ok (.invokevirtual 148, 3) := by decide +kernel
theorem dX12_twice_71 : decode cX12_twice 71 = .ok (.isub, 1) := by decide +kernel
theorem dX12_twice_72 : decode cX12_twice 72 = .ok (.i2l, 1) := by decide +kernel
theorem dX12_twice_73 : decode cX12_twice 73 = .ok (.lmul, 1) := by decide +kernel
theorem dX12_twice_74 : decode cX12_twice 74 = .ok (.lstore_n 3, 1) := by decide +kernel
theorem dX12_twice_75 : decode cX12_twice 75 = .ok (.lload 5, 2) := by decide +kernel
theorem dX12_twice_77 : decode cX12_twice 77 = .ok (.ldc2_w 173, 3) := by decide +kernel
theorem dX12_twice_80 : decode cX12_twice 80 = .ok (.lmul, 1) := by decide +kernel
theorem dX12_twice_81 : decode cX12_twice 81 = .ok (.lstore 5, 2) := by decide +kernel
theorem dX12_twice_83 : decode cX12_twice 83 = .ok (.iinc 7 1, 3) := by decide +kernel
theorem dX12_twice_86 : decode cX12_twice 86 = .ok (.goto (-33), 3) := by decide +kernel
theorem dX12_twice_89 : decode cX12_twice 89 = .ok (.lload_n 3, 1) := by decide +kernel
theorem dX12_twice_90 : decode cX12_twice 90 = .ok (.lload 5, 2) := by decide +kernel
theorem dX12_twice_92 : decode cX12_twice 92 = .ok (.iload_n 2, 1) := by decide +kernel
theorem dX12_twice_93 : decode cX12_twice 93 = .ok (.invokestatic 185, 3) := by decide +kernel
theorem dX12_twice_96 : decode cX12_twice 96 = .ok (.lreturn, 1) := by decide +kernel
theorem dX12_quick_0 : decode cX12_quick 0 = .ok (.iload_n 3, 1) := by decide +kernel
theorem dX12_quick_1 : decode cX12_quick 1 = .ok (.iconst 0, 1) := by decide +kernel
theorem dX12_quick_2 : decode cX12_quick 2 = .ok (.iconst 1, 1) := by decide +kernel
theorem dX12_quick_3 : decode cX12_quick 3 = .ok (.invokestatic 38, 3) := by decide +kernel
theorem dX12_quick_6 : decode cX12_quick 6 = .ok (.ifCond .ne 5, 3) := by decide +kernel
theorem dX12_quick_9 : decode cX12_quick 9 = .ok (.iconst (-1), 1) := by decide +kernel
theorem dX12_quick_10 : decode cX12_quick 10 = .ok (.ireturn, 1) := by decide +kernel
theorem dX12_quick_11 : decode cX12_quick 11 = .ok (.iload_n 1, 1) := by decide +kernel
theorem dX12_quick_12 : decode cX12_quick 12 = .ok (.iconst 1, 1) := by decide +kernel
theorem dX12_quick_13 : decode cX12_quick 13 = .ok (.bipush 40, 2) := by decide +kernel
theorem dX12_quick_15 : decode cX12_quick 15 = .ok (.invokestatic 38, 3) := by decide +kernel
theorem dX12_quick_18 : decode cX12_quick 18 = .ok (.ifCond .eq 14, 3) := by decide +kernel
theorem dX12_quick_21 : decode cX12_quick 21 = .ok (.iload_n 2, 1) := by decide +kernel
theorem dX12_quick_22 : decode cX12_quick 22 = .ok (.iconst 0, 1) := by decide +kernel
theorem dX12_quick_23 : decode cX12_quick 23 = .ok (.sipush 999, 3) := by decide +kernel
theorem dX12_quick_26 : decode cX12_quick 26 = .ok (.invokestatic 38, 3) := by decide +kernel
theorem dX12_quick_29 : decode cX12_quick 29 = .ok (.ifCond .ne 6, 3) := by decide +kernel
theorem dX12_quick_32 : decode cX12_quick 32 = .ok (.bipush (-2), 2) := by decide +kernel
theorem dX12_quick_34 : decode cX12_quick 34 = .ok (.ireturn, 1) := by decide +kernel
theorem dX12_quick_35 : decode cX12_quick 35 = .ok (.bipush (-5), 2) := by decide +kernel
theorem dX12_quick_37 : decode cX12_quick 37 = .ok (.istore 4, 2) := by decide +kernel
theorem dX12_quick_39 : decode cX12_quick 39 = .ok (.bipush (-5), 2) := by decide +kernel
theorem dX12_quick_41 : decode cX12_quick 41 = .ok (.istore 5, 2) := by decide +kernel
theorem dX12_quick_43 : decode cX12_quick 43 = .ok (.iconst 0, 1) := by decide +kernel
theorem dX12_quick_44 : decode cX12_quick 44 = .ok (.istore 6, 2) := by decide +kernel
theorem dX12_quick_46 : decode cX12_quick 46 = .ok (.iload 6, 2) := by decide +kernel
theorem dX12_quick_48 : decode cX12_quick 48 = .ok (.aload_n 0, 1) := by decide +kernel
theorem dX12_quick_49 : decode cX12_quick 49 = .ok (.getfield 9, 3) := by decide +kernel
theorem dX12_quick_52 : decode cX12_quick 52 = .ok (.iconst 0, 1) := by decide +kernel
theorem dX12_quick_53 : decode cX12_quick 53 = .ok (.iaload, 1) := by decide +kernel
theorem dX12_quick_54 : decode cX12_quick 54 = .ok (.if_icmp .ge 51, 3) := by decide +kernel
theorem dX12_quick_57 : decode cX12_quick 57 = .ok (.aload_n 0, 1) := by decide +kernel
theorem dX12_quick_58 : decode cX12_quick 58 = .ok (.iload 6, 2) := by decide +kernel
theorem dX12_quick_60 : decode cX12_quick 60 = .ok (.iload_n 1, 1) := by decide +kernel
theorem dX12_quick_61 : decode cX12_quick 61 = .ok (.invokevirtual 142, 3) := by decide +kernel
theorem dX12_quick_64 : decode cX12_quick 64 = .ok (.istore 7, 2) := by decide +kernel
theorem dX12_quick_66 : decode cX12_quick 66 = .ok (.aload_n 0, 1) := by decide +kernel
theorem dX12_quick_67 : decode cX12_quick 67 = .ok (.iload 6, 2) := by decide +kernel
theorem dX12_quick_69 : decode cX12_quick 69 = .ok (.iload_n 1, 1) := by decide +kernel
theorem dX12_quick_70 : decode cX12_quick 70 = .ok (.invokevirtual 145, 3) := by decide +kernel
theorem dX12_quick_73 : decode cX12_quick 73 = .ok (.iload_n 2, 1) := by decide +kernel
theorem dX12_quick_74 : decode cX12_quick 74 = .ok (.if_icmp .gt 25, 3) := by decide +kernel
theorem dX12_quick_77 : decode cX12_quick 77 = .ok (.iload 4, 2) := by decide +kernel
theorem dX12_quick_79 : decode cX12_quick 79 = .ok (.bipush (-5), 2) := by decide +kernel
theorem dX12_quick_81 : decode cX12_quick 81 = .ok (.if_icmp .eq 10, 3) := by decide +kernel
theorem dX12_quick_84 : decode cX12_quick 84 = .ok (.iload 7, 2) := by decide +kernel
theorem dX12_quick_86 : decode cX12_quick 86 = .ok (.iload 5, 2) := by decide +kernel
theorem dX12_quick_88 : decode cX12_quick 88 = .ok (.if_icmp .ge 11, 3) := by decide +kernel
theorem dX12_quick_91 : decode cX12_quick 91 = .ok (.iload 6, 2) := by decide +kernel
theorem dX12_quick_93 : decode cX12_quick 93 = .ok (.istore 4, 2) := by decide +kernel
theorem dX12_quick_95 : decode cX12_quick 95 = .ok (.iload 7, 2) := by decide +kernel
theorem dX12_quick_97 : decode cX12_quick 97 = .ok (.istore 5, 2) := by decide +kernel
theorem dX12_quick_99 : decode cX12_quick 99 = .ok (.iinc 6 1, 3) := by decide +kernel
theorem dX12_quick_102 : decode cX12_quick 102 = .ok (.goto (-56), 3) := by decide +kernel
theorem dX12_quick_105 : decode cX12_quick 105 = .ok (.iload_n 3, 1) := by decide +kernel
theorem dX12_quick_106 : decode cX12_quick 106 = .ok (.ifCond .ne 8, 3) := by decide +kernel
theorem dX12_quick_109 : decode cX12_quick 109 = .ok (.iload 4, 2) := by decide +kernel
theorem dX12_quick_111 : decode cX12_quick 111 = .ok (.goto 5, 3) := by decide +kernel
theorem dX12_quick_114 : decode cX12_quick 114 = .ok (.iload 5, 2) := by decide +kernel
theorem dX12_quick_116 : decode cX12_quick 116 = .ok (.ireturn, 1) := by decide +kernel
theorem dX12_triesChange_0 : decode cX12_triesChange 0 = .ok (.aload_n 0, 1) := by decide +kernel
theorem dX12_triesChange_1 : decode cX12_triesChange 1 = .ok (.iload 4, 2) := by decide +kernel
theorem dX12_triesChange_3 : decode cX12_triesChange 3 = .ok (.iload_n 3, 1) := by decide +kernel
theorem dX12_triesChange_4 : decode cX12_triesChange 4 = .ok (.invokevirtual 142, 3) := by decide +kernel
theorem dX12_triesChange_7 : decode cX12_triesChange 7 = .ok (.aload_n 0, 1) := by decide +kernel
theorem dX12_triesChange_8 : decode cX12_triesChange 8 = .ok (.iload 5, 2) := by decide +kernel
theorem dX12_triesChange_10 : decode cX12_triesChange 10 = .ok (.iload_n 1, 1) := by decide +kernel
theorem dX12_triesChange_11 : decode cX12_triesChange 11 = .ok (.iload_n 3, 1) := by decide +kernel
theorem dX12_triesChange_12 : decode cX12_triesChange 12 = .ok (.isub, 1) := by decide +kernel
theorem dX12_triesChange_13 : decode cX12_triesChange 13 = .ok (.invokevirtual 142, 3) := by decide +kernel
theorem dX12_triesChange_16 : decode cX12_triesChange 16 = .ok (.iadd, 1) := by decide +kernel
theorem dX12_triesChange_17 : decode cX12_triesChange 17 = .ok (.istore 6, 2) := by decide +kernel
theorem dX12_triesChange_19 : decode cX12_triesChange 19 = .ok (.aload_n 0, 1) := by decide +kernel
theorem dX12_triesChange_20 : decode cX12_triesChange 20 = .ok (.iload 4, 2) := by decide +kernel
theorem dX12_triesChange_22 : decode cX12_triesChange 22 = .ok (.iload_n 3, 1) := by decide +kernel
theorem dX12_triesChange_23 : decode cX12_triesChange 23 = .ok (.invokevirtual 145, 3) := by decide +kernel
theorem dX12_triesChange_26 : decode cX12_triesChange 26 = .ok (.aload_n 0, 1) := by decide +kernel
theorem dX12_triesChange_27 : decode cX12_triesChange 27 = .ok (.iload 5, 2) := by decide +kernel
theorem dX12_triesChange_29 : decode cX12_triesChange 29 = .ok (.iload_n 1, 1) := by decide +kernel
theorem dX12_triesChange_30 : decode cX12_triesChange 30 = .ok (.iload_n 3, 1) := by decide +kernel
theorem dX12_triesChange_31 : decode cX12_triesChange 31 = .ok (.isub, 1) := by decide +kernel
theorem dX12_triesChange_32 : decode cX12_triesChange 32 = .ok (.invokevirtual 145, 3) := by decide +kernel
theorem dX12_triesChange_35 : decode cX12_triesChange 35 = .ok (.iadd, 1) := by decide +kernel
theorem dX12_triesChange_36 : decode cX12_triesChange 36 = .ok (.iload_n 2, 1) := by decide +kernel
theorem dX12_triesChange_37 : decode cX12_triesChange 37 = .ok (.if_icmp .gt 44, 3) := by decide +kernel
theorem dX12_triesChange_40 : decode cX12_triesChange 40 = .ok (.aload_n 0, 1) := by decide +kernel
theorem dX12_triesChange_41 : decode cX12_triesChange 41 = .ok (.getfield 193, 3) := by decide +kernel
theorem dX12_triesChange_44 : decode cX12_triesChange 44 = .ok (.bipush (-5), 2) := by decide +kernel
theorem dX12_triesChange_46 : decode cX12_triesChange 46 = .ok (.if_icmp .eq 12, 3) := by decide +kernel
theorem dX12_triesChange_49 : decode cX12_triesChange 49 = .ok (.iload 6, 2) := by decide +kernel
theorem dX12_triesChange_51 : decode cX12_triesChange 51 = .ok (.aload_n 0, 1) := by decide +kernel
theorem dX12_triesChange_52 : decode cX12_triesChange 52 = .ok (.getfield 193, 3) := by decide +kernel
theorem dX12_triesChange_55 : decode cX12_triesChange 55 = .ok (.if_icmp .ge 26, 3) := by decide +kernel
theorem dX12_triesChange_58 : decode cX12_triesChange 58 = .ok (.aload_n 0, 1) := by decide +kernel
theorem dX12_triesChange_59 : decode cX12_triesChange 59 = .ok (.iload 6, 2) := by decide +kernel
theorem dX12_triesChange_61 : decode cX12_triesChange 61 = .ok (.putfield 193, 3) := by decide +kernel
theorem dX12_triesChange_64 : decode cX12_triesChange 64 = .ok (.aload_n 0, 1) := by decide +kernel
theorem dX12_triesChange_65 : decode cX12_triesChange 65 = .ok (.iload 4, 2) := by decide +kernel
theorem dX12_triesChange_67 : decode cX12_triesChange 67 = .ok (.putfield 196, 3) := by decide +kernel
theorem dX12_triesChange_70 : decode cX12_triesChange 70 = .ok (.aload_n 0, 1) := by decide +kernel
theorem dX12_triesChange_71 : decode cX12_triesChange 71 = .ok (.iload_n 3, 1) := by decide +kernel
theorem dX12_triesChange_72 : decode cX12_triesChange 72 = .ok (.putfield 199, 3) := by decide +kernel
theorem dX12_triesChange_75 : decode cX12_triesChange 75 = .ok (.aload_n 0, 1) := by decide +kernel
theorem dX12_triesChange_76 : decode cX12_triesChange 76 = .ok (.iload 5, 2) := by decide +kernel
theorem dX12_triesChange_78 : decode cX12_triesChange 78 = .ok (.putfield 202, 3) := by decide +kernel
theorem dX12_triesChange_81 : decode cX12_triesChange 81 = .ok (.return_, 1) := by decide +kernel
theorem dX12_change_0 : decode cX12_change 0 = .ok (.iload_n 3, 1) := by decide +kernel
theorem dX12_change_1 : decode cX12_change 1 = .ok (.iconst 0, 1) := by decide +kernel
theorem dX12_change_2 : decode cX12_change 2 = .ok (.iconst 3, 1) := by decide +kernel
theorem dX12_change_3 : decode cX12_change 3 = .ok (.invokestatic 38, 3) := by decide +kernel
theorem dX12_change_6 : decode cX12_change 6 = .ok (.ifCond .ne 5, 3) := by decide +kernel
theorem dX12_change_9 : decode cX12_change 9 = .ok (.iconst (-1), 1) := by decide +kernel
theorem dX12_change_10 : decode cX12_change 10 = .ok (.ireturn, 1) := by decide +kernel
theorem dX12_change_11 : decode cX12_change 11 = .ok (.iload_n 1, 1) := by decide +kernel
theorem dX12_change_12 : decode cX12_change 12 = .ok (.iconst 1, 1) := by decide +kernel
theorem dX12_change_13 : decode cX12_change 13 = .ok (.bipush 40, 2) := by decide +kernel
theorem dX12_change_15 : decode cX12_change 15 = .ok (.invokestatic 38, 3) := by decide +kernel
theorem dX12_change_18 : decode cX12_change 18 = .ok (.ifCond .eq 14, 3) := by decide +kernel
theorem dX12_change_21 : decode cX12_change 21 = .ok (.iload_n 2, 1) := by decide +kernel
theorem dX12_change_22 : decode cX12_change 22 = .ok (.iconst 0, 1) := by decide +kernel
theorem dX12_change_23 : decode cX12_change 23 = .ok (.sipush 999, 3) := by decide +kernel
theorem dX12_change_26 : decode cX12_change 26 = .ok (.invokestatic 38, 3) := by decide +kernel
theorem dX12_change_29 : decode cX12_change 29 = .ok (.ifCond .ne 6, 3) := by decide +kernel
theorem dX12_change_32 : decode cX12_change 32 = .ok (.bipush (-2), 2) := by decide +kernel
theorem dX12_change_34 : decode cX12_change 34 = .ok (.ireturn, 1) := by decide +kernel
theorem dX12_change_35 : decode cX12_change 35 = .ok (.aload_n 0, 1) := by decide +kernel
theorem dX12_change_36 : decode cX12_change 36 = .ok (.bipush (-5), 2) := by decide +kernel
theorem dX12_change_38 : decode cX12_change 38 = .ok (.putfield 193, 3) := by decide +kernel
theorem dX12_change_41 : decode cX12_change 41 = .ok (.aload_n 0, 1) := by decide +kernel
theorem dX12_change_42 : decode cX12_change 42 = .ok (.bipush (-5), 2) := by decide +kernel
theorem dX12_change_44 : decode cX12_change 44 = .ok (.putfield 196, 3) := by decide +kernel
theorem dX12_change_47 : decode cX12_change 47 = .ok (.aload_n 0, 1) := by decide +kernel
theorem dX12_change_48 : decode cX12_change 48 = .ok (.bipush (-5), 2) := by decide +kernel
theorem dX12_change_50 : decode cX12_change 50 = .ok (.putfield 199, 3) := by decide +kernel
theorem dX12_change_53 : decode cX12_change 53 = .ok (.aload_n 0, 1) := by decide +kernel
theorem dX12_change_54 : decode cX12_change 54 = .ok (.bipush (-5), 2) := by decide +kernel
theorem dX12_change_56 : decode cX12_change 56 = .ok (.putfield 202, 3) := by decide +kernel
theorem dX12_change_59 : decode cX12_change 59 = .ok (.iconst 0, 1) := by decide +kernel
theorem dX12_change_60 : decode cX12_change 60 = .ok (.istore 4, 2) := by decide +kernel
theorem dX12_change_62 : decode cX12_change 62 = .ok (.iload 4, 2) := by decide +kernel
theorem dX12_change_64 : decode cX12_change 64 = .ok (.iload_n 1, 1) := by decide +kernel
theorem dX12_change_65 : decode cX12_change 65 = .ok (.if_icmp .gt 89, 3) := by decide +kernel
theorem dX12_change_68 : decode cX12_change 68 = .ok (.iconst 0, 1) := by decide +kernel
theorem dX12_change_69 : decode cX12_change 69 = .ok (.istore 5, 2) := by decide +kernel
theorem dX12_change_71 : decode cX12_change 71 = .ok (.iload 5, 2) := by decide +kernel
theorem dX12_change_73 : decode cX12_change 73 = .ok (.iload 4, 2) := by decide +kernel
theorem dX12_change_75 : decode cX12_change 75 = .ok (.ifCond .ne 16, 3) := by decide +kernel
theorem dX12_change_78 : decode cX12_change 78 = .ok (.aload_n 0, 1) := by decide +kernel
theorem dX12_change_79 : decode cX12_change 79 = .ok (.getfield 9, 3) := by decide +kernel
theorem dX12_change_82 : decode cX12_change 82 = .ok (.iconst 0, 1) := by decide +kernel
theorem dX12_change_83 : decode cX12_change 83 = .ok (.iaload, 1) := by decide +kernel
theorem dX12_change_84 : decode cX12_change 84 = .ok (.ifCond .le 7, 3) := by decide +kernel
theorem dX12_change_87 : decode cX12_change 87 = .ok (.iconst 1, 1) := by decide +kernel
theorem dX12_change_88 : decode cX12_change 88 = .ok (.goto 9, 3) := by decide +kernel
theorem dX12_change_91 : decode cX12_change 91 = .ok (.aload_n 0, 1) := by decide +kernel
theorem dX12_change_92 : decode cX12_change 92 = .ok (.getfield 9, 3) := by decide +kernel
theorem dX12_change_95 : decode cX12_change 95 = .ok (.iconst 0, 1) := by decide +kernel
theorem dX12_change_96 : decode cX12_change 96 = .ok (.iaload, 1) := by decide +kernel
theorem dX12_change_97 : decode cX12_change 97 = .ok (.if_icmp .ge 51, 3) := by decide +kernel
theorem dX12_change_100 : decode cX12_change 100 = .ok (.iconst 0, 1) := by decide +kernel
theorem dX12_change_101 : decode cX12_change 101 = .ok (.istore 6, 2) := by decide +kernel
theorem dX12_change_103 : decode cX12_change 103 = .ok (.iload 6, 2) := by decide +kernel
theorem dX12_change_105 : decode cX12_change 105 = .ok (.iload 4, 2) := by decide +kernel
theorem dX12_change_107 : decode cX12_change 107 = .ok (.iload_n 1, 1) := by decide +kernel
theorem dX12_change_108 : decode cX12_change 108 = .ok (.if_icmp .ne 7, 3) := by decide +kernel
theorem dX12_change_111 : decode cX12_change 111 = .ok (.iconst 1, 1) := by decide +kernel
theorem dX12_change_112 : decode cX12_change 112 = .ok (.goto 9, 3) := by decide +kernel
theorem dX12_change_115 : decode cX12_change 115 = .ok (.aload_n 0, 1) := by decide +kernel
theorem dX12_change_116 : decode cX12_change 116 = .ok (.getfield 9, 3) := by decide +kernel
theorem dX12_change_119 : decode cX12_change 119 = .ok (.iconst 0, 1) := by decide +kernel
theorem dX12_change_120 : decode cX12_change 120 = .ok (.iaload, 1) := by decide +kernel
theorem dX12_change_121 : decode cX12_change 121 = .ok (.if_icmp .ge 21, 3) := by decide +kernel
theorem dX12_change_124 : decode cX12_change 124 = .ok (.aload_n 0, 1) := by decide +kernel
theorem dX12_change_125 : decode cX12_change 125 = .ok (.iload_n 1, 1) := by decide +kernel
theorem dX12_change_126 : decode cX12_change 126 = .ok (.iload_n 2, 1) := by decide +kernel
theorem dX12_change_127 : decode cX12_change 127 = .ok (.iload 4, 2) := by decide +kernel
theorem dX12_change_129 : decode cX12_change 129 = .ok (.iload 5, 2) := by decide +kernel
theorem dX12_change_131 : decode cX12_change 131 = .ok (.iload 6, 2) := by decide +kernel
theorem dX12_change_133 : decode cX12_change 133 = .ok (.invokevirtual 205, 3) := by decide +kernel
theorem dX12_change_136 : decode cX12_change 136 = .ok (.iinc 6 1, 3) := by decide +kernel
theorem dX12_change_139 : decode cX12_change 139 = .ok (.goto (-36), 3) := by decide +kernel
theorem dX12_change_142 : decode cX12_change 142 = .ok (.iinc 5 1, 3) := by decide +kernel
theorem dX12_change_145 : decode cX12_change 145 = .ok (.goto (-74), 3) := by decide +kernel
theorem dX12_change_148 : decode cX12_change 148 = .ok (.iinc 4 1, 3) := by decide +kernel
theorem dX12_change_151 : decode cX12_change 151 = .ok (.goto (-89), 3) := by decide +kernel
theorem dX12_change_154 : decode cX12_change 154 = .ok (.iload_n 3, 1) := by decide +kernel
theorem dX12_change_155 : decode cX12_change 155 = .ok (.ifCond .ne 10, 3) := by decide +kernel
theorem dX12_change_158 : decode cX12_change 158 = .ok (.aload_n 0, 1) := by decide +kernel
theorem dX12_change_159 : decode cX12_change 159 = .ok (.getfield 193, 3) := by decide +kernel
theorem dX12_change_162 : decode cX12_change 162 = .ok (.goto 31, 3) := by decide +kernel
theorem dX12_change_165 : decode cX12_change 165 = .ok (.iload_n 3, 1) := by decide +kernel
theorem dX12_change_166 : decode cX12_change 166 = .ok (.iconst 1, 1) := by decide +kernel
theorem dX12_change_167 : decode cX12_change 167 = .ok (.if_icmp .ne 10, 3) := by decide +kernel
theorem dX12_change_170 : decode cX12_change 170 = .ok (.aload_n 0, 1) := by decide +kernel
theorem dX12_change_171 : decode cX12_change 171 = .ok (.getfield 196, 3) := by decide +kernel
theorem dX12_change_174 : decode cX12_change 174 = .ok (.goto 19, 3) := by decide +kernel
theorem dX12_change_177 : decode cX12_change 177 = .ok (.iload_n 3, 1) := by decide +kernel
theorem dX12_change_178 : decode cX12_change 178 = .ok (.iconst 2, 1) := by decide +kernel
theorem dX12_change_179 : decode cX12_change 179 = .ok (.if_icmp .ne 10, 3) := by decide +kernel
theorem dX12_change_182 : decode cX12_change 182 = .ok (.aload_n 0, 1) := by decide +kernel
theorem dX12_change_183 : decode cX12_change 183 = .ok (.getfield 199, 3) := by decide +kernel
theorem dX12_change_186 : decode cX12_change 186 = .ok (.goto 7, 3) := by decide +kernel
theorem dX12_change_189 : decode cX12_change 189 = .ok (.aload_n 0, 1) := by decide +kernel
theorem dX12_change_190 : decode cX12_change 190 = .ok (.getfield 202, 3) := by decide +kernel
theorem dX12_change_193 : decode cX12_change 193 = .ok (.ireturn, 1) := by decide +kernel
theorem dX12_rests_0 : decode cX12_rests 0 = .ok (.aload_n 0, 1) := by decide +kernel
theorem dX12_rests_1 : decode cX12_rests 1 = .ok (.iload_n 1, 1) := by decide +kernel
theorem dX12_rests_2 : decode cX12_rests 2 = .ok (.invokevirtual 138, 3) := by decide +kernel
theorem dX12_rests_5 : decode cX12_rests 5 = .ok (.ifCond .eq 13, 3) := by decide +kernel
theorem dX12_rests_8 : decode cX12_rests 8 = .ok (.iload 4, 2) := by decide +kernel
theorem dX12_rests_10 : decode cX12_rests 10 = .ok (.iconst 0, 1) := by decide +kernel
theorem dX12_rests_11 : decode cX12_rests 11 = .ok (.iconst 1, 1) := by decide +kernel
theorem dX12_rests_12 : decode cX12_rests 12 = .ok (.invokestatic 38, 3) := by decide +kernel
theorem dX12_rests_15 : decode cX12_rests 15 = .ok (.ifCond .ne 5, 3) := by decide +kernel
theorem dX12_rests_18 : decode cX12_rests 18 = .ok (.iconst (-1), 1) := by decide +kernel
theorem dX12_rests_19 : decode cX12_rests 19 = .ok (.ireturn, 1) := by decide +kernel
theorem dX12_rests_20 : decode cX12_rests 20 = .ok (.iload_n 2, 1) := by decide +kernel
theorem dX12_rests_21 : decode cX12_rests 21 = .ok (.iconst 1, 1) := by decide +kernel
theorem dX12_rests_22 : decode cX12_rests 22 = .ok (.bipush 40, 2) := by decide +kernel
theorem dX12_rests_24 : decode cX12_rests 24 = .ok (.invokestatic 38, 3) := by decide +kernel
theorem dX12_rests_27 : decode cX12_rests 27 = .ok (.ifCond .eq 13, 3) := by decide +kernel
theorem dX12_rests_30 : decode cX12_rests 30 = .ok (.iload_n 3, 1) := by decide +kernel
theorem dX12_rests_31 : decode cX12_rests 31 = .ok (.iconst 0, 1) := by decide +kernel
theorem dX12_rests_32 : decode cX12_rests 32 = .ok (.bipush 99, 2) := by decide +kernel
theorem dX12_rests_34 : decode cX12_rests 34 = .ok (.invokestatic 38, 3) := by decide +kernel
theorem dX12_rests_37 : decode cX12_rests 37 = .ok (.ifCond .ne 6, 3) := by decide +kernel
theorem dX12_rests_40 : decode cX12_rests 40 = .ok (.bipush (-2), 2) := by decide +kernel
theorem dX12_rests_42 : decode cX12_rests 42 = .ok (.ireturn, 1) := by decide +kernel
theorem dX12_rests_43 : decode cX12_rests 43 = .ok (.iconst 0, 1) := by decide +kernel
theorem dX12_rests_44 : decode cX12_rests 44 = .ok (.istore 5, 2) := by decide +kernel
theorem dX12_rests_46 : decode cX12_rests 46 = .ok (.ldc 209, 2) := by decide +kernel
theorem dX12_rests_48 : decode cX12_rests 48 = .ok (.istore 6, 2) := by decide +kernel
theorem dX12_rests_50 : decode cX12_rests 50 = .ok (.iconst 1, 1) := by decide +kernel
theorem dX12_rests_51 : decode cX12_rests 51 = .ok (.istore 7, 2) := by decide +kernel
theorem dX12_rests_53 : decode cX12_rests 53 = .ok (.iload 7, 2) := by decide +kernel
theorem dX12_rests_55 : decode cX12_rests 55 = .ok (.iload_n 2, 1) := by decide +kernel
theorem dX12_rests_56 : decode cX12_rests 56 = .ok (.if_icmp .gt 86, 3) := by decide +kernel
theorem dX12_rests_59 : decode cX12_rests 59 = .ok (.iload_n 2, 1) := by decide +kernel
theorem dX12_rests_60 : decode cX12_rests 60 = .ok (.iload 7, 2) := by decide +kernel
theorem dX12_rests_62 : decode cX12_rests 62 = .ok (.irem, 1) := by decide +kernel
theorem dX12_rests_63 : decode cX12_rests 63 = .ok (.istore 8, 2) := by decide +kernel
theorem dX12_rests_65 : decode cX12_rests 65 = .ok (.iload 8, 2) := by decide +kernel
theorem dX12_rests_67 : decode cX12_rests 67 = .ok (.aload_n 0, 1) := by decide +kernel
theorem dX12_rests_68 : decode cX12_rests 68 = .ok (.iload_n 1, 1) := by decide +kernel
theorem dX12_rests_69 : decode cX12_rests 69 = .ok (.iload_n 2, 1) := by decide +kernel
theorem dX12_rests_70 : decode cX12_rests 70 = .ok (.iload 7, 2) := by decide +kernel
theorem dX12_rests_72 : decode cX12_rests 72 = .ok (.idiv, 1) := by decide +kernel
theorem dX12_rests_73 : decode cX12_rests 73 = .ok (.iconst 1, 1) := by decide +kernel
theorem dX12_rests_74 : decode cX12_rests 74 = .ok (.iadd, 1) := by decide +kernel
theorem dX12_rests_75 : decode cX12_rests 75 = .ok (.invokevirtual 142, 3) := by decide +kernel
theorem dX12_rests_78 : decode cX12_rests 78 = .ok (.imul, 1) := by decide +kernel
theorem dX12_rests_79 : decode cX12_rests 79 = .ok (.iload 7, 2) := by decide +kernel
theorem dX12_rests_81 : decode cX12_rests 81 = .ok (.iload 8, 2) := by decide +kernel
theorem dX12_rests_83 : decode cX12_rests 83 = .ok (.isub, 1) := by decide +kernel
theorem dX12_rests_84 : decode cX12_rests 84 = .ok (.aload_n 0, 1) := by decide +kernel
theorem dX12_rests_85 : decode cX12_rests 85 = .ok (.iload_n 1, 1) := by decide +kernel
theorem dX12_rests_86 : decode cX12_rests 86 = .ok (.iload_n 2, 1) := by decide +kernel
theorem dX12_rests_87 : decode cX12_rests 87 = .ok (.iload 7, 2) := by decide +kernel
theorem dX12_rests_89 : decode cX12_rests 89 = .ok (.idiv, 1) := by decide +kernel
theorem dX12_rests_90 : decode cX12_rests 90 = .ok (.invokevirtual 142, 3) := by decide +kernel
theorem dX12_rests_93 : decode cX12_rests 93 = .ok (.imul, 1) := by decide +kernel
theorem dX12_rests_94 : decode cX12_rests 94 = .ok (.iadd, 1) := by decide +kernel
theorem dX12_rests_95 : decode cX12_rests 95 = .ok (.iload 7, 2) := by decide +kernel
theorem dX12_rests_97 : decode cX12_rests 97 = .ok (.iconst 1, 1) := by decide +kernel
theorem dX12_rests_98 : decode cX12_rests 98 = .ok (.isub, 1) := by decide +kernel
theorem dX12_rests_99 : decode cX12_rests 99 = .ok (.iload_n 3, 1) := by decide +kernel
theorem dX12_rests_100 : decode cX12_rests 100 = .ok (.imul, 1) := by decide +kernel
theorem dX12_rests_101 : decode cX12_rests 101 = .ok (.iadd, 1) := by decide +kernel
theorem dX12_rests_102 : decode cX12_rests 102 = .ok (.istore 9, 2) := by decide +kernel
theorem dX12_rests_104 : decode cX12_rests 104 = .ok (.iload 9, 2) := by decide +kernel
theorem dX12_rests_106 : decode cX12_rests 106 = .ok (.iload 6, 2) := by decide +kernel
theorem dX12_rests_108 : decode cX12_rests 108 = .ok (.if_icmp .ge 8, 3) := by decide +kernel
theorem dX12_rests_111 : decode cX12_rests 111 = .ok (.iload 7, 2) := by decide +kernel
theorem dX12_rests_113 : decode cX12_rests 113 = .ok (.goto 5, 3) := by decide +kernel
theorem dX12_rests_116 : decode cX12_rests 116 = .ok (.iload 5, 2) := by decide +kernel
theorem dX12_rests_118 : decode cX12_rests 118 = .ok (.istore 5, 2) := by decide +kernel
theorem dX12_rests_120 : decode cX12_rests 120 = .ok (.iload 9, 2) := by decide +kernel
theorem dX12_rests_122 : decode cX12_rests 122 = .ok (.iload 6, 2) := by decide +kernel
theorem dX12_rests_124 : decode cX12_rests 124 = .ok (.if_icmp .ge 8, 3) := by decide +kernel
theorem dX12_rests_127 : decode cX12_rests 127 = .ok (.iload 9, 2) := by decide +kernel
theorem dX12_rests_129 : decode cX12_rests 129 = .ok (.goto 5, 3) := by decide +kernel
theorem dX12_rests_132 : decode cX12_rests 132 = .ok (.iload 6, 2) := by decide +kernel
theorem dX12_rests_134 : decode cX12_rests 134 = .ok (.istore 6, 2) := by decide +kernel
theorem dX12_rests_136 : decode cX12_rests 136 = .ok (.iinc 7 1, 3) := by decide +kernel
theorem dX12_rests_139 : decode cX12_rests 139 = .ok (.goto (-86), 3) := by decide +kernel
theorem dX12_rests_142 : decode cX12_rests 142 = .ok (.iload 4, 2) := by decide +kernel
theorem dX12_rests_144 : decode cX12_rests 144 = .ok (.ifCond .ne 8, 3) := by decide +kernel
theorem dX12_rests_147 : decode cX12_rests 147 = .ok (.iload 5, 2) := by decide +kernel
theorem dX12_rests_149 : decode cX12_rests 149 = .ok (.goto 5, 3) := by decide +kernel
theorem dX12_rests_152 : decode cX12_rests 152 = .ok (.iload 6, 2) := by decide +kernel
theorem dX12_rests_154 : decode cX12_rests 154 = .ok (.ireturn, 1) := by decide +kernel
theorem dX12_mend_0 : decode cX12_mend 0 = .ok (.aload_n 0, 1) := by decide +kernel
theorem dX12_mend_1 : decode cX12_mend 1 = .ok (.iload_n 1, 1) := by decide +kernel
theorem dX12_mend_2 : decode cX12_mend 2 = .ok (.invokevirtual 138, 3) := by decide +kernel
theorem dX12_mend_5 : decode cX12_mend 5 = .ok (.ifCond .ne 5, 3) := by decide +kernel
theorem dX12_mend_8 : decode cX12_mend 8 = .ok (.iconst (-1), 1) := by decide +kernel
theorem dX12_mend_9 : decode cX12_mend 9 = .ok (.ireturn, 1) := by decide +kernel
theorem dX12_mend_10 : decode cX12_mend 10 = .ok (.aload_n 0, 1) := by decide +kernel
theorem dX12_mend_11 : decode cX12_mend 11 = .ok (.invokevirtual 178, 3) := by decide +kernel
theorem dX12_mend_14 : decode cX12_mend 14 = .ok (.lstore_n 2, 1) := by decide +kernel
theorem dX12_mend_15 : decode cX12_mend 15 = .ok (.bipush (-5), 2) := by decide +kernel
theorem dX12_mend_17 : decode cX12_mend 17 = .ok (.istore 4, 2) := by decide +kernel
theorem dX12_mend_19 : decode cX12_mend 19 = .ok (.iconst 0, 1) := by decide +kernel
theorem dX12_mend_20 : decode cX12_mend 20 = .ok (.istore 5, 2) := by decide +kernel
theorem dX12_mend_22 : decode cX12_mend 22 = .ok (.iload 5, 2) := by decide +kernel
theorem dX12_mend_24 : decode cX12_mend 24 = .ok (.aload_n 0, 1) := by decide +kernel
theorem dX12_mend_25 : decode cX12_mend 25 = .ok (.getfield 151, 3) := by decide +kernel
theorem dX12_mend_28 : decode cX12_mend 28 = .ok (.if_icmp .ge 101, 3) := by decide +kernel
theorem dX12_mend_31 : decode cX12_mend 31 = .ok (.aload_n 0, 1) := by decide +kernel
theorem dX12_mend_32 : decode cX12_mend 32 = .ok (.getfield 25, 3) := by decide +kernel
theorem dX12_mend_35 : decode cX12_mend 35 = .ok (.iload 5, 2) := by decide +kernel
theorem dX12_mend_37 : decode cX12_mend 37 = .ok (.iaload, 1) := by decide +kernel
