theorem dX6_waits_0 : decode cX6_waits 0 = .ok (.aload_n 0, 1) := by decide +kernel
theorem dX6_waits_1 : decode cX6_waits 1 = .ok (.getfield 167, 3) := by decide +kernel
theorem dX6_waits_4 : decode cX6_waits 4 = .ok (.ifCond .ne 6, 3) := by decide +kernel
theorem dX6_waits_7 : decode cX6_waits 7 = .ok (.bipush (-4), 2) := by decide +kernel
theorem dX6_waits_9 : decode cX6_waits 9 = .ok (.ireturn, 1) := by decide +kernel
theorem dX6_waits_10 : decode cX6_waits 10 = .ok (.aload_n 0, 1) := by decide +kernel
theorem dX6_waits_11 : decode cX6_waits 11 = .ok (.iconst 0, 1) := by decide +kernel
theorem dX6_waits_12 : decode cX6_waits 12 = .ok (.iconst 1, 1) := by decide +kernel
theorem dX6_waits_13 : decode cX6_waits 13 = .ok (.invokevirtual 247, 3) := by decide +kernel
theorem dX6_waits_16 : decode cX6_waits 16 = .ok (.iconst 0, 1) := by decide +kernel
theorem dX6_waits_17 : decode cX6_waits 17 = .ok (.istore_n 1, 1) := by decide +kernel
theorem dX6_waits_18 : decode cX6_waits 18 = .ok (.iload_n 1, 1) := by decide +kernel
theorem dX6_waits_19 : decode cX6_waits 19 = .ok (.bipush 60, 2) := by decide +kernel
theorem dX6_waits_21 : decode cX6_waits 21 = .ok (.if_icmp .gt 29, 3) := by decide +kernel
theorem dX6_waits_24 : decode cX6_waits 24 = .ok (.aload_n 0, 1) := by decide +kernel
theorem dX6_waits_25 : decode cX6_waits 25 = .ok (.iconst 1, 1) := by decide +kernel
theorem dX6_waits_26 : decode cX6_waits 26 = .ok (.aload_n 0, 1) := by decide +kernel
theorem dX6_waits_27 : decode cX6_waits 27 = .ok (.invokevirtual 223, 3) := by decide +kernel
theorem dX6_waits_30 : decode cX6_waits 30 = .ok (.invokevirtual 244, 3) := by decide +kernel
theorem dX6_waits_33 : decode cX6_waits 33 = .ok (.ifCond .ne 5, 3) := by decide +kernel
theorem dX6_waits_36 : decode cX6_waits 36 = .ok (.iload_n 1, 1) := by decide +kernel
theorem dX6_waits_37 : decode cX6_waits 37 = .ok (.ireturn, 1) := by decide +kernel
theorem dX6_waits_38 : decode cX6_waits 38 = .ok (.aload_n 0, 1) := by decide +kernel
theorem dX6_waits_39 : decode cX6_waits 39 = .ok (.iconst 1, 1) := by decide +kernel
theorem dX6_waits_40 : decode cX6_waits 40 = .ok (.invokevirtual 205, 3) := by decide +kernel
theorem dX6_waits_43 : decode cX6_waits 43 = .ok (.pop, 1) := by decide +kernel
theorem dX6_waits_44 : decode cX6_waits 44 = .ok (.iinc 1 1, 3) := by decide +kernel
theorem dX6_waits_47 : decode cX6_waits 47 = .ok (.goto (-29), 3) := by decide +kernel
theorem dX6_waits_50 : decode cX6_waits 50 = .ok (.bipush (-9), 2) := by decide +kernel
theorem dX6_waits_52 : decode cX6_waits 52 = .ok (.ireturn, 1) := by decide +kernel
theorem dX6_nearest_0 : decode cX6_nearest 0 = .ok (.aload_n 0, 1) := by decide +kernel
theorem dX6_nearest_1 : decode cX6_nearest 1 = .ok (.getfield 167, 3) := by decide +kernel
theorem dX6_nearest_4 : decode cX6_nearest 4 = .ok (.ifCond .ne 6, 3) := by decide +kernel
theorem dX6_nearest_7 : decode cX6_nearest 7 = .ok (.bipush (-4), 2) := by decide +kernel
theorem dX6_nearest_9 : decode cX6_nearest 9 = .ok (.ireturn, 1) := by decide +kernel
theorem dX6_nearest_10 : decode cX6_nearest 10 = .ok (.iconst 0, 1) := by decide +kernel
theorem dX6_nearest_11 : decode cX6_nearest 11 = .ok (.istore_n 1, 1) := by decide +kernel
theorem dX6_nearest_12 : decode cX6_nearest 12 = .ok (.iload_n 1, 1) := by decide +kernel
theorem dX6_nearest_13 : decode cX6_nearest 13 = .ok (.aload_n 0, 1) := by decide +kernel
theorem dX6_nearest_14 : decode cX6_nearest 14 = .ok (.getfield 167, 3) := by decide +kernel
theorem dX6_nearest_17 : decode cX6_nearest 17 = .ok (.if_icmp .ge 24, 3) := by decide +kernel
theorem dX6_nearest_20 : decode cX6_nearest 20 = .ok (.aload_n 0, 1) := by decide +kernel
theorem dX6_nearest_21 : decode cX6_nearest 21 = .ok (.getfield 76, 3) := by decide +kernel
theorem dX6_nearest_24 : decode cX6_nearest 24 = .ok (.iload_n 1, 1) := by decide +kernel
theorem dX6_nearest_25 : decode cX6_nearest 25 = .ok (.bipush (-9), 2) := by decide +kernel
theorem dX6_nearest_27 : decode cX6_nearest 27 = .ok (.iastore, 1) := by decide +kernel
theorem dX6_nearest_28 : decode cX6_nearest 28 = .ok (.aload_n 0, 1) := by decide +kernel
theorem dX6_nearest_29 : decode cX6_nearest 29 = .ok (.getfield 79, 3) := by decide +kernel
theorem dX6_nearest_32 : decode cX6_nearest 32 = .ok (.iload_n 1, 1) := by decide +kernel
theorem dX6_nearest_33 : decode cX6_nearest 33 = .ok (.iconst 0, 1) := by decide +kernel
theorem dX6_nearest_34 : decode cX6_nearest 34 = .ok (.iastore, 1) := by decide +kernel
theorem dX6_nearest_35 : decode cX6_nearest 35 = .ok (.iinc 1 1, 3) := by decide +kernel
theorem dX6_nearest_38 : decode cX6_nearest 38 = .ok (.goto (-26), 3) := by decide +kernel
theorem dX6_nearest_41 : decode cX6_nearest 41 = .ok (.aload_n 0, 1) := by decide +kernel
theorem dX6_nearest_42 : decode cX6_nearest 42 = .ok (.getfield 82, 3) := by decide +kernel
theorem dX6_nearest_45 : decode cX6_nearest 45 = .ok (.iconst 0, 1) := by decide +kernel
theorem dX6_nearest_46 : decode cX6_nearest 46 = .ok (.aload_n 0, 1) := by decide +kernel
theorem dX6_nearest_47 : decode cX6_nearest 47 = .ok (.invokevirtual 223, 3) := by decide +kernel
theorem dX6_nearest_50 : decode cX6_nearest 50 = .ok (.iastore, 1) := by decide +kernel
theorem dX6_nearest_51 : decode cX6_nearest 51 = .ok (.aload_n 0, 1) := by decide +kernel
theorem dX6_nearest_52 : decode cX6_nearest 52 = .ok (.getfield 76, 3) := by decide +kernel
theorem dX6_nearest_55 : decode cX6_nearest 55 = .ok (.aload_n 0, 1) := by decide +kernel
theorem dX6_nearest_56 : decode cX6_nearest 56 = .ok (.getfield 82, 3) := by decide +kernel
theorem dX6_nearest_59 : decode cX6_nearest 59 = .ok (.iconst 0, 1) := by decide +kernel
theorem dX6_nearest_60 : decode cX6_nearest 60 = .ok (.iaload, 1) := by decide +kernel
theorem dX6_nearest_61 : decode cX6_nearest 61 = .ok (.iconst 0, 1) := by decide +kernel
theorem dX6_nearest_62 : decode cX6_nearest 62 = .ok (.iastore, 1) := by decide +kernel
theorem dX6_nearest_63 : decode cX6_nearest 63 = .ok (.aload_n 0, 1) := by decide +kernel
theorem dX6_nearest_64 : decode cX6_nearest 64 = .ok (.getfield 79, 3) := by decide +kernel
theorem dX6_nearest_67 : decode cX6_nearest 67 = .ok (.aload_n 0, 1) := by decide +kernel
theorem dX6_nearest_68 : decode cX6_nearest 68 = .ok (.getfield 82, 3) := by decide +kernel
theorem dX6_nearest_71 : decode cX6_nearest 71 = .ok (.iconst 0, 1) := by decide +kernel
theorem dX6_nearest_72 : decode cX6_nearest 72 = .ok (.iaload, 1) := by decide +kernel
theorem dX6_nearest_73 : decode cX6_nearest 73 = .ok (.iconst 1, 1) := by decide +kernel
theorem dX6_nearest_74 : decode cX6_nearest 74 = .ok (.iastore, 1) := by decide +kernel
theorem dX6_nearest_75 : decode cX6_nearest 75 = .ok (.iconst 1, 1) := by decide +kernel
theorem dX6_nearest_76 : decode cX6_nearest 76 = .ok (.istore_n 1, 1) := by decide +kernel
theorem dX6_nearest_77 : decode cX6_nearest 77 = .ok (.iconst 0, 1) := by decide +kernel
theorem dX6_nearest_78 : decode cX6_nearest 78 = .ok (.istore_n 2, 1) := by decide +kernel
theorem dX6_nearest_79 : decode cX6_nearest 79 = .ok (.iload_n 2, 1) := by decide +kernel
theorem dX6_nearest_80 : decode cX6_nearest 80 = .ok (.iload_n 1, 1) := by decide +kernel
theorem dX6_nearest_81 : decode cX6_nearest 81 = .ok (.if_icmp .ge 138, 3) := by decide +kernel
theorem dX6_nearest_84 : decode cX6_nearest 84 = .ok (.aload_n 0, 1) := by decide +kernel
theorem dX6_nearest_85 : decode cX6_nearest 85 = .ok (.getfield 82, 3) := by decide +kernel
theorem dX6_nearest_88 : decode cX6_nearest 88 = .ok (.iload_n 2, 1) := by decide +kernel
theorem dX6_nearest_89 : decode cX6_nearest 89 = .ok (.iaload, 1) := by decide +kernel
theorem dX6_nearest_90 : decode cX6_nearest 90 = .ok (.istore_n 3, 1) := by decide +kernel
theorem dX6_nearest_91 : decode cX6_nearest 91 = .ok (.iconst 0, 1) := by decide +kernel
theorem dX6_nearest_92 : decode cX6_nearest 92 = .ok (.istore 4, 2) := by decide +kernel
theorem dX6_nearest_94 : decode cX6_nearest 94 = .ok (.iload 4, 2) := by decide +kernel
theorem dX6_nearest_96 : decode cX6_nearest 96 = .ok (.aload_n 0, 1) := by decide +kernel
theorem dX6_nearest_97 : decode cX6_nearest 97 = .ok (.getfield 167, 3) := by decide +kernel
theorem dX6_nearest_100 : decode cX6_nearest 100 = .ok (.if_icmp .ge 113, 3) := by decide +kernel
theorem dX6_nearest_103 : decode cX6_nearest 103 = .ok (.aload_n 0, 1) := by decide +kernel
theorem dX6_nearest_104 : decode cX6_nearest 104 = .ok (.getfield 36, 3) := by decide +kernel
theorem dX6_nearest_107 : decode cX6_nearest 107 = .ok (.iload_n 3, 1) := by decide +kernel
theorem dX6_nearest_108 : decode cX6_nearest 108 = .ok (.iaload, 1) := by decide +kernel
theorem dX6_nearest_109 : decode cX6_nearest 109 = .ok (.iload 4, 2) := by decide +kernel
theorem dX6_nearest_111 : decode cX6_nearest 111 = .ok (.invokestatic 145, 3) := by decide +kernel
theorem dX6_nearest_114 : decode cX6_nearest 114 = .ok (.ifCond .eq 41, 3) := by decide +kernel
theorem dX6_nearest_117 : decode cX6_nearest 117 = .ok (.aload_n 0, 1) := by decide +kernel
theorem dX6_nearest_118 : decode cX6_nearest 118 = .ok (.getfield 76, 3) := by decide +kernel
theorem dX6_nearest_121 : decode cX6_nearest 121 = .ok (.iload 4, 2) := by decide +kernel
theorem dX6_nearest_123 : decode cX6_nearest 123 = .ok (.iaload, 1) := by decide +kernel
theorem dX6_nearest_124 : decode cX6_nearest 124 = .ok (.bipush (-9), 2) := by decide +kernel
theorem dX6_nearest_126 : decode cX6_nearest 126 = .ok (.if_icmp .ne 29, 3) := by decide +kernel
theorem dX6_nearest_129 : decode cX6_nearest 129 = .ok (.aload_n 0, 1) := by decide +kernel
theorem dX6_nearest_130 : decode cX6_nearest 130 = .ok (.getfield 76, 3) := by decide +kernel
theorem dX6_nearest_133 : decode cX6_nearest 133 = .ok (.iload 4, 2) := by decide +kernel
theorem dX6_nearest_135 : decode cX6_nearest 135 = .ok (.aload_n 0, 1) := by decide +kernel
theorem dX6_nearest_136 : decode cX6_nearest 136 = .ok (.getfield 76, 3) := by decide +kernel
theorem dX6_nearest_139 : decode cX6_nearest 139 = .ok (.iload_n 3, 1) := by decide +kernel
theorem dX6_nearest_140 : decode cX6_nearest 140 = .ok (.iaload, 1) := by decide +kernel
theorem dX6_nearest_141 : decode cX6_nearest 141 = .ok (.iconst 1, 1) := by decide +kernel
theorem dX6_nearest_142 : decode cX6_nearest 142 = .ok (.iadd, 1) := by decide +kernel
theorem dX6_nearest_143 : decode cX6_nearest 143 = .ok (.iastore, 1) := by decide +kernel
theorem dX6_nearest_144 : decode cX6_nearest 144 = .ok (.aload_n 0, 1) := by decide +kernel
theorem dX6_nearest_145 : decode cX6_nearest 145 = .ok (.getfield 82, 3) := by decide +kernel
theorem dX6_nearest_148 : decode cX6_nearest 148 = .ok (.iload_n 1, 1) := by decide +kernel
theorem dX6_nearest_149 : decode cX6_nearest 149 = .ok (.iload 4, 2) := by decide +kernel
theorem dX6_nearest_151 : decode cX6_nearest 151 = .ok (.iastore, 1) := by decide +kernel
theorem dX6_nearest_152 : decode cX6_nearest 152 = .ok (.iinc 1 1, 3) := by decide +kernel
theorem dX6_nearest_155 : decode cX6_nearest 155 = .ok (.aload_n 0, 1) := by decide +kernel
theorem dX6_nearest_156 : decode cX6_nearest 156 = .ok (.getfield 79, 3) := by decide +kernel
theorem dX6_nearest_159 : decode cX6_nearest 159 = .ok (.iload 4, 2) := by decide +kernel
theorem dX6_nearest_161 : decode cX6_nearest 161 = .ok (.dup2, 1) := by decide +kernel
theorem dX6_nearest_162 : decode cX6_nearest 162 = .ok (.iaload, 1) := by decide +kernel
theorem dX6_nearest_163 : decode cX6_nearest 163 = .ok (.aload_n 0, 1) := by decide +kernel
theorem dX6_nearest_164 : decode cX6_nearest 164 = .ok (.getfield 36, 3) := by decide +kernel
theorem dX6_nearest_167 : decode cX6_nearest 167 = .ok (.iload_n 3, 1) := by decide +kernel
theorem dX6_nearest_168 : decode cX6_nearest 168 = .ok (.iaload, 1) := by decide +kernel
theorem dX6_nearest_169 : decode cX6_nearest 169 = .ok (.iload 4, 2) := by decide +kernel
theorem dX6_nearest_171 : decode cX6_nearest 171 = .ok (.invokestatic 145, 3) := by decide +kernel
theorem dX6_nearest_174 : decode cX6_nearest 174 = .ok (.ifCond .eq 30, 3) := by decide +kernel
theorem dX6_nearest_177 : decode cX6_nearest 177 = .ok (.aload_n 0, 1) := by decide +kernel
theorem dX6_nearest_178 : decode cX6_nearest 178 = .ok (.getfield 76, 3) := by decide +kernel
theorem dX6_nearest_181 : decode cX6_nearest 181 = .ok (.iload 4, 2) := by decide +kernel
theorem dX6_nearest_183 : decode cX6_nearest 183 = .ok (.iaload, 1) := by decide +kernel
theorem dX6_nearest_184 : decode cX6_nearest 184 = .ok (.aload_n 0, 1) := by decide +kernel
theorem dX6_nearest_185 : decode cX6_nearest 185 = .ok (.getfield 76, 3) := by decide +kernel
theorem dX6_nearest_188 : decode cX6_nearest 188 = .ok (.iload_n 3, 1) := by decide +kernel
theorem dX6_nearest_189 : decode cX6_nearest 189 = .ok (.iaload, 1) := by decide +kernel
theorem dX6_nearest_190 : decode cX6_nearest 190 = .ok (.iconst 1, 1) := by decide +kernel
theorem dX6_nearest_191 : decode cX6_nearest 191 = .ok (.iadd, 1) := by decide +kernel
theorem dX6_nearest_192 : decode cX6_nearest 192 = .ok (.if_icmp .ne 12, 3) := by decide +kernel
theorem dX6_nearest_195 : decode cX6_nearest 195 = .ok (.aload_n 0, 1) := by decide +kernel
theorem dX6_nearest_196 : decode cX6_nearest 196 = .ok (.getfield 79, 3) := by decide +kernel
theorem dX6_nearest_199 : decode cX6_nearest 199 = .ok (.iload_n 3, 1) := by decide +kernel
theorem dX6_nearest_200 : decode cX6_nearest 200 = .ok (.iaload, 1) := by decide +kernel
theorem dX6_nearest_201 : decode cX6_nearest 201 = .ok (.goto 4, 3) := by decide +kernel
theorem dX6_nearest_204 : decode cX6_nearest 204 = .ok (.iconst 0, 1) := by decide +kernel
theorem dX6_nearest_205 : decode cX6_nearest 205 = .ok (.iadd, 1) := by decide +kernel
theorem dX6_nearest_206 : decode cX6_nearest 206 = .ok (.iastore, 1) := by decide +kernel
theorem dX6_nearest_207 : decode cX6_nearest 207 = .ok (.iinc 4 1, 3) := by decide +kernel
theorem dX6_nearest_210 : decode cX6_nearest 210 = .ok (.goto (-116), 3) := by decide +kernel
theorem dX6_nearest_213 : decode cX6_nearest 213 = .ok (.iinc 2 1, 3) := by decide +kernel
theorem dX6_nearest_216 : decode cX6_nearest 216 = .ok (.goto (-137), 3) := by decide +kernel
theorem dX6_nearest_219 : decode cX6_nearest 219 = .ok (.aload_n 0, 1) := by decide +kernel
theorem dX6_nearest_220 : decode cX6_nearest 220 = .ok (.getfield 76, 3) := by decide +kernel
theorem dX6_nearest_223 : decode cX6_nearest 223 = .ok (.iconst 0, 1) := by decide +kernel
theorem dX6_nearest_224 : decode cX6_nearest 224 = .ok (.iaload, 1) := by decide +kernel
theorem dX6_nearest_225 : decode cX6_nearest 225 = .ok (.bipush (-9), 2) := by decide +kernel
theorem dX6_nearest_227 : decode cX6_nearest 227 = .ok (.if_icmp .ne 8, 3) := by decide +kernel
theorem dX6_nearest_230 : decode cX6_nearest 230 = .ok (.bipush (-9), 2) := by decide +kernel
theorem dX6_nearest_232 : decode cX6_nearest 232 = .ok (.goto 19, 3) := by decide +kernel
theorem dX6_nearest_235 : decode cX6_nearest 235 = .ok (.aload_n 0, 1) := by decide +kernel
theorem dX6_nearest_236 : decode cX6_nearest 236 = .ok (.aload_n 0, 1) := by decide +kernel
theorem dX6_nearest_237 : decode cX6_nearest 237 = .ok (.getfield 79, 3) := by decide +kernel
theorem dX6_nearest_240 : decode cX6_nearest 240 = .ok (.iconst 0, 1) := by decide +kernel
theorem dX6_nearest_241 : decode cX6_nearest 241 = .ok (.iaload, 1) := by decide +kernel
theorem dX6_nearest_242 : decode cX6_nearest 242 = .ok (.aload_n 0, 1) := by decide +kernel
theorem dX6_nearest_243 : decode cX6_nearest 243 = .ok (.getfield 76, 3) := by decide +kernel
theorem dX6_nearest_246 : decode cX6_nearest 246 = .ok (.iconst 0, 1) := by decide +kernel
theorem dX6_nearest_247 : decode cX6_nearest 247 = .ok (.iaload, 1) := by decide +kernel
theorem dX6_nearest_248 : decode cX6_nearest 248 = .ok (.invokevirtual 114, 3) := by decide +kernel
theorem dX6_nearest_251 : decode cX6_nearest 251 = .ok (.ireturn, 1) := by decide +kernel
theorem dX6_needPlan_0 : decode cX6_needPlan 0 = .ok (.iload_n 1, 1) := by decide +kernel
theorem dX6_needPlan_1 : decode cX6_needPlan 1 = .ok (.invokestatic 102, 3) := by decide +kernel
theorem dX6_needPlan_4 : decode cX6_needPlan 4 = .ok (.ifCond .eq 13, 3) := by decide +kernel
theorem dX6_needPlan_7 : decode cX6_needPlan 7 = .ok (.iload_n 2, 1) := by decide +kernel
theorem dX6_needPlan_8 : decode cX6_needPlan 8 = .ok (.iconst 0, 1) := by decide +kernel
theorem dX6_needPlan_9 : decode cX6_needPlan 9 = .ok (.bipush 40, 2) := by decide +kernel
theorem dX6_needPlan_11 : decode cX6_needPlan 11 = .ok (.invokestatic 92, 3) := by decide +kernel
theorem dX6_needPlan_14 : decode cX6_needPlan 14 = .ok (.ifCond .ne 5, 3) := by decide +kernel
theorem dX6_needPlan_17 : decode cX6_needPlan 17 = .ok (.iconst (-1), 1) := by decide +kernel
theorem dX6_needPlan_18 : decode cX6_needPlan 18 = .ok (.ireturn, 1) := by decide +kernel
theorem dX6_needPlan_19 : decode cX6_needPlan 19 = .ok (.aload_n 0, 1) := by decide +kernel
theorem dX6_needPlan_20 : decode cX6_needPlan 20 = .ok (.getfield 167, 3) := by decide +kernel
theorem dX6_needPlan_23 : decode cX6_needPlan 23 = .ok (.ifCond .ne 6, 3) := by decide +kernel
theorem dX6_needPlan_26 : decode cX6_needPlan 26 = .ok (.bipush (-4), 2) := by decide +kernel
theorem dX6_needPlan_28 : decode cX6_needPlan 28 = .ok (.ireturn, 1) := by decide +kernel
theorem dX6_needPlan_29 : decode cX6_needPlan 29 = .ok (.aload_n 0, 1) := by decide +kernel
theorem dX6_needPlan_30 : decode cX6_needPlan 30 = .ok (.getfield 17, 3) := by decide +kernel
theorem dX6_needPlan_33 : decode cX6_needPlan 33 = .ok (.iload_n 1, 1) := by decide +kernel
theorem dX6_needPlan_34 : decode cX6_needPlan 34 = .ok (.iaload, 1) := by decide +kernel
theorem dX6_needPlan_35 : decode cX6_needPlan 35 = .ok (.ifCond .ge 9, 3) := by decide +kernel
theorem dX6_needPlan_38 : decode cX6_needPlan 38 = .ok (.aload_n 0, 1) := by decide +kernel
theorem dX6_needPlan_39 : decode cX6_needPlan 39 = .ok (.iconst 1, 1) := by decide +kernel
theorem dX6_needPlan_40 : decode cX6_needPlan 40 = .ok (.invokevirtual 106, 3) := by decide +kernel
theorem dX6_needPlan_43 : decode cX6_needPlan 43 = .ok (.ireturn, 1) := by decide +kernel
theorem dX6_needPlan_44 : decode cX6_needPlan 44 = .ok (.aload_n 0, 1) := by decide +kernel
theorem dX6_needPlan_45 : decode cX6_needPlan 45 = .ok (.getfield 17, 3) := by decide +kernel
theorem dX6_needPlan_48 : decode cX6_needPlan 48 = .ok (.iload_n 1, 1) := by decide +kernel
theorem dX6_needPlan_49 : decode cX6_needPlan 49 = .ok (.iaload, 1) := by decide +kernel
theorem dX6_needPlan_50 : decode cX6_needPlan 50 = .ok (.bipush 8, 2) := by decide +kernel
theorem dX6_needPlan_52 : decode cX6_needPlan 52 = .ok (.if_icmp .le 9, 3) := by decide +kernel
theorem dX6_needPlan_55 : decode cX6_needPlan 55 = .ok (.aload_n 0, 1) := by decide +kernel
theorem dX6_needPlan_56 : decode cX6_needPlan 56 = .ok (.iconst 5, 1) := by decide +kernel
theorem dX6_needPlan_57 : decode cX6_needPlan 57 = .ok (.invokevirtual 106, 3) := by decide +kernel
theorem dX6_needPlan_60 : decode cX6_needPlan 60 = .ok (.ireturn, 1) := by decide +kernel
theorem dX6_needPlan_61 : decode cX6_needPlan 61 = .ok (.aload_n 0, 1) := by decide +kernel
theorem dX6_needPlan_62 : decode cX6_needPlan 62 = .ok (.aload_n 0, 1) := by decide +kernel
theorem dX6_needPlan_63 : decode cX6_needPlan 63 = .ok (.invokevirtual 223, 3) := by decide +kernel
theorem dX6_needPlan_66 : decode cX6_needPlan 66 = .ok (.putfield 251, 3) := by decide +kernel
theorem dX6_needPlan_69 : decode cX6_needPlan 69 = .ok (.aload_n 0, 1) := by decide +kernel
theorem dX6_needPlan_70 : decode cX6_needPlan 70 = .ok (.iconst 1, 1) := by decide +kernel
theorem dX6_needPlan_71 : decode cX6_needPlan 71 = .ok (.aload_n 0, 1) := by decide +kernel
theorem dX6_needPlan_72 : decode cX6_needPlan 72 = .ok (.getfield 251, 3) := by decide +kernel
theorem dX6_needPlan_75 : decode cX6_needPlan 75 = .ok (.ishl, 1) := by decide +kernel
theorem dX6_needPlan_76 : decode cX6_needPlan 76 = .ok (.putfield 254, 3) := by decide +kernel
theorem dX6_needPlan_79 : decode cX6_needPlan 79 = .ok (.iconst 0, 1) := by decide +kernel
theorem dX6_needPlan_80 : decode cX6_needPlan 80 = .ok (.istore_n 3, 1) := by decide +kernel
theorem dX6_needPlan_81 : decode cX6_needPlan 81 = .ok (.iload_n 3, 1) := by decide +kernel
theorem dX6_needPlan_82 : decode cX6_needPlan 82 = .ok (.aload_n 0, 1) := by decide +kernel
theorem dX6_needPlan_83 : decode cX6_needPlan 83 = .ok (.getfield 17, 3) := by decide +kernel
theorem dX6_needPlan_86 : decode cX6_needPlan 86 = .ok (.iload_n 1, 1) := by decide +kernel
theorem dX6_needPlan_87 : decode cX6_needPlan 87 = .ok (.iaload, 1) := by decide +kernel
theorem dX6_needPlan_88 : decode cX6_needPlan 88 = .ok (.if_icmp .ge 68, 3) := by decide +kernel
theorem dX6_needPlan_91 : decode cX6_needPlan 91 = .ok (.aload_n 0, 1) := by decide +kernel
theorem dX6_needPlan_92 : decode cX6_needPlan 92 = .ok (.iload_n 1, 1) := by decide +kernel
theorem dX6_needPlan_93 : decode cX6_needPlan 93 = .ok (.iload_n 3, 1) := by decide +kernel
theorem dX6_needPlan_94 : decode cX6_needPlan 94 = .ok (.invokevirtual 110, 3) := by decide +kernel
theorem dX6_needPlan_97 : decode cX6_needPlan 97 = .ok (.istore 4, 2) := by decide +kernel
theorem dX6_needPlan_99 : decode cX6_needPlan 99 = .ok (.aload_n 0, 1) := by decide +kernel
theorem dX6_needPlan_100 : decode cX6_needPlan 100 = .ok (.iload 4, 2) := by decide +kernel
theorem dX6_needPlan_102 : decode cX6_needPlan 102 = .ok (.invokevirtual 211, 3) := by decide +kernel
theorem dX6_needPlan_105 : decode cX6_needPlan 105 = .ok (.ifCond .eq 20, 3) := by decide +kernel
theorem dX6_needPlan_108 : decode cX6_needPlan 108 = .ok (.aload_n 0, 1) := by decide +kernel
theorem dX6_needPlan_109 : decode cX6_needPlan 109 = .ok (.getfield 36, 3) := by decide +kernel
theorem dX6_needPlan_112 : decode cX6_needPlan 112 = .ok (.aload_n 0, 1) := by decide +kernel
theorem dX6_needPlan_113 : decode cX6_needPlan 113 = .ok (.getfield 251, 3) := by decide +kernel
theorem dX6_needPlan_116 : decode cX6_needPlan 116 = .ok (.iaload, 1) := by decide +kernel
theorem dX6_needPlan_117 : decode cX6_needPlan 117 = .ok (.iload 4, 2) := by decide +kernel
theorem dX6_needPlan_119 : decode cX6_needPlan 119 = .ok (.invokestatic 145, 3) := by decide +kernel
theorem dX6_needPlan_122 : decode cX6_needPlan 122 = .ok (.ifCond .ne 9, 3) := by decide +kernel
theorem dX6_needPlan_125 : decode cX6_needPlan 125 = .ok (.aload_n 0, 1) := by decide +kernel
theorem dX6_needPlan_126 : decode cX6_needPlan 126 = .ok (.iconst 3, 1) := by decide +kernel
theorem dX6_needPlan_127 : decode cX6_needPlan 127 = .ok (.invokevirtual 106, 3) := by decide +kernel
theorem dX6_needPlan_130 : decode cX6_needPlan 130 = .ok (.ireturn, 1) := by decide +kernel
theorem dX6_needPlan_131 : decode cX6_needPlan 131 = .ok (.aload_n 0, 1) := by decide +kernel
theorem dX6_needPlan_132 : decode cX6_needPlan 132 = .ok (.iload 4, 2) := by decide +kernel
theorem dX6_needPlan_134 : decode cX6_needPlan 134 = .ok (.putfield 251, 3) := by decide +kernel
theorem dX6_needPlan_137 : decode cX6_needPlan 137 = .ok (.aload_n 0, 1) := by decide +kernel
theorem dX6_needPlan_138 : decode cX6_needPlan 138 = .ok (.dup, 1) := by decide +kernel
theorem dX6_needPlan_139 : decode cX6_needPlan 139 = .ok (.getfield 254, 3) := by decide +kernel
theorem dX6_needPlan_142 : decode cX6_needPlan 142 = .ok (.iconst 1, 1) := by decide +kernel
theorem dX6_needPlan_143 : decode cX6_needPlan 143 = .ok (.iload 4, 2) := by decide +kernel
theorem dX6_needPlan_145 : decode cX6_needPlan 145 = .ok (.ishl, 1) := by decide +kernel
theorem dX6_needPlan_146 : decode cX6_needPlan 146 = .ok (.ior, 1) := by decide +kernel
theorem dX6_needPlan_147 : decode cX6_needPlan 147 = .ok (.putfield 254, 3) := by decide +kernel
theorem dX6_needPlan_150 : decode cX6_needPlan 150 = .ok (.iinc 3 1, 3) := by decide +kernel
theorem dX6_needPlan_153 : decode cX6_needPlan 153 = .ok (.goto (-72), 3) := by decide +kernel
theorem dX6_needPlan_156 : decode cX6_needPlan 156 = .ok (.iconst 0, 1) := by decide +kernel
theorem dX6_needPlan_157 : decode cX6_needPlan 157 = .ok (.ireturn, 1) := by decide +kernel
theorem dX6_bringsHome_0 : decode cX6_bringsHome 0 = .ok (.aload_n 0, 1) := by decide +kernel
theorem dX6_bringsHome_1 : decode cX6_bringsHome 1 = .ok (.iconst 0, 1) := by decide +kernel
theorem dX6_bringsHome_2 : decode cX6_bringsHome 2 = .ok (.iconst 1, 1) := by decide +kernel
theorem dX6_bringsHome_3 : decode cX6_bringsHome 3 = .ok (.invokevirtual 247, 3) := by decide +kernel
theorem dX6_bringsHome_6 : decode cX6_bringsHome 6 = .ok (.iconst 0, 1) := by decide +kernel
theorem dX6_bringsHome_7 : decode cX6_bringsHome 7 = .ok (.istore 4, 2) := by decide +kernel
theorem dX6_bringsHome_9 : decode cX6_bringsHome 9 = .ok (.iload 4, 2) := by decide +kernel
theorem dX6_bringsHome_11 : decode cX6_bringsHome 11 = .ok (.aload_n 0, 1) := by decide +kernel
theorem dX6_bringsHome_12 : decode cX6_bringsHome 12 = .ok (.getfield 167, 3) := by decide +kernel
theorem dX6_bringsHome_15 : decode cX6_bringsHome 15 = .ok (.if_icmp .ge 40, 3) := by decide +kernel
theorem dX6_bringsHome_18 : decode cX6_bringsHome 18 = .ok (.aload_n 0, 1) := by decide +kernel
theorem dX6_bringsHome_19 : decode cX6_bringsHome 19 = .ok (.iconst 1, 1) := by decide +kernel
theorem dX6_bringsHome_20 : decode cX6_bringsHome 20 = .ok (.iconst 1, 1) := by decide +kernel
theorem dX6_bringsHome_21 : decode cX6_bringsHome 21 = .ok (.iload 4, 2) := by decide +kernel
theorem dX6_bringsHome_23 : decode cX6_bringsHome 23 = .ok (.aload_n 0, 1) := by decide +kernel
theorem dX6_bringsHome_24 : decode cX6_bringsHome 24 = .ok (.iconst 1, 1) := by decide +kernel
theorem dX6_bringsHome_25 : decode cX6_bringsHome 25 = .ok (.iconst 1, 1) := by decide +kernel
theorem dX6_bringsHome_26 : decode cX6_bringsHome 26 = .ok (.iload 4, 2) := by decide +kernel
theorem dX6_bringsHome_28 : decode cX6_bringsHome 28 = .ok (.invokevirtual 184, 3) := by decide +kernel
theorem dX6_bringsHome_31 : decode cX6_bringsHome 31 = .ok (.iload_n 1, 1) := by decide +kernel
theorem dX6_bringsHome_32 : decode cX6_bringsHome 32 = .ok (.iload 4, 2) := by decide +kernel
theorem dX6_bringsHome_34 : decode cX6_bringsHome 34 = .ok (.invokestatic 145, 3) := by decide +kernel
theorem dX6_bringsHome_37 : decode cX6_bringsHome 37 = .ok (.ifCond .eq 7, 3) := by decide +kernel
theorem dX6_bringsHome_40 : decode cX6_bringsHome 40 = .ok (.iconst 1, 1) := by decide +kernel
theorem dX6_bringsHome_41 : decode cX6_bringsHome 41 = .ok (.goto 4, 3) := by decide +kernel
theorem dX6_bringsHome_44 : decode cX6_bringsHome 44 = .ok (.iconst 0, 1) := by decide +kernel
theorem dX6_bringsHome_45 : decode cX6_bringsHome 45 = .ok (.iadd, 1) := by decide +kernel
theorem dX6_bringsHome_46 : decode cX6_bringsHome 46 = .ok (.invokevirtual 187, 3) := by decide +kernel
theorem dX6_bringsHome_49 : decode cX6_bringsHome 49 = .ok (.iinc 4 1, 3) := by decide +kernel
theorem dX6_bringsHome_52 : decode cX6_bringsHome 52 = .ok (.goto (-43), 3) := by decide +kernel
theorem dX6_bringsHome_55 : decode cX6_bringsHome 55 = .ok (.aload_n 0, 1) := by decide +kernel
theorem dX6_bringsHome_56 : decode cX6_bringsHome 56 = .ok (.iconst 1, 1) := by decide +kernel
theorem dX6_bringsHome_57 : decode cX6_bringsHome 57 = .ok (.iload_n 2, 1) := by decide +kernel
theorem dX6_bringsHome_58 : decode cX6_bringsHome 58 = .ok (.invokevirtual 231, 3) := by decide +kernel
theorem dX6_bringsHome_61 : decode cX6_bringsHome 61 = .ok (.pop, 1) := by decide +kernel
theorem dX6_bringsHome_62 : decode cX6_bringsHome 62 = .ok (.aload_n 0, 1) := by decide +kernel
theorem dX6_bringsHome_63 : decode cX6_bringsHome 63 = .ok (.iconst 1, 1) := by decide +kernel
theorem dX6_bringsHome_64 : decode cX6_bringsHome 64 = .ok (.aload_n 0, 1) := by decide +kernel
theorem dX6_bringsHome_65 : decode cX6_bringsHome 65 = .ok (.getfield 251, 3) := by decide +kernel
theorem dX6_bringsHome_68 : decode cX6_bringsHome 68 = .ok (.invokevirtual 244, 3) := by decide +kernel
theorem dX6_bringsHome_71 : decode cX6_bringsHome 71 = .ok (.istore 4, 2) := by decide +kernel
theorem dX6_bringsHome_73 : decode cX6_bringsHome 73 = .ok (.iconst 0, 1) := by decide +kernel
theorem dX6_bringsHome_74 : decode cX6_bringsHome 74 = .ok (.istore 5, 2) := by decide +kernel
theorem dX6_bringsHome_76 : decode cX6_bringsHome 76 = .ok (.iload 5, 2) := by decide +kernel
theorem dX6_bringsHome_78 : decode cX6_bringsHome 78 = .ok (.aload_n 0, 1) := by decide +kernel
theorem dX6_bringsHome_79 : decode cX6_bringsHome 79 = .ok (.getfield 167, 3) := by decide +kernel
theorem dX6_bringsHome_82 : decode cX6_bringsHome 82 = .ok (.if_icmp .ge 60, 3) := by decide +kernel
theorem dX6_bringsHome_85 : decode cX6_bringsHome 85 = .ok (.iload_n 3, 1) := by decide +kernel
theorem dX6_bringsHome_86 : decode cX6_bringsHome 86 = .ok (.ifCond .eq 56, 3) := by decide +kernel
theorem dX6_bringsHome_89 : decode cX6_bringsHome 89 = .ok (.iload 4, 2) := by decide +kernel
theorem dX6_bringsHome_91 : decode cX6_bringsHome 91 = .ok (.ifCond .eq 51, 3) := by decide +kernel
theorem dX6_bringsHome_94 : decode cX6_bringsHome 94 = .ok (.aload_n 0, 1) := by decide +kernel
theorem dX6_bringsHome_95 : decode cX6_bringsHome 95 = .ok (.iconst 1, 1) := by decide +kernel
theorem dX6_bringsHome_96 : decode cX6_bringsHome 96 = .ok (.iconst 2, 1) := by decide +kernel
theorem dX6_bringsHome_97 : decode cX6_bringsHome 97 = .ok (.invokevirtual 247, 3) := by decide +kernel
theorem dX6_bringsHome_100 : decode cX6_bringsHome 100 = .ok (.iconst 0, 1) := by decide +kernel
theorem dX6_bringsHome_101 : decode cX6_bringsHome 101 = .ok (.istore 6, 2) := by decide +kernel
theorem dX6_bringsHome_103 : decode cX6_bringsHome 103 = .ok (.iload 6, 2) := by decide +kernel
theorem dX6_bringsHome_105 : decode cX6_bringsHome 105 = .ok (.iconst 3, 1) := by decide +kernel
theorem dX6_bringsHome_106 : decode cX6_bringsHome 106 = .ok (.if_icmp .ge 19, 3) := by decide +kernel
theorem dX6_bringsHome_109 : decode cX6_bringsHome 109 = .ok (.aload_n 0, 1) := by decide +kernel
theorem dX6_bringsHome_110 : decode cX6_bringsHome 110 = .ok (.iconst 2, 1) := by decide +kernel
theorem dX6_bringsHome_111 : decode cX6_bringsHome 111 = .ok (.iload 6, 2) := by decide +kernel
theorem dX6_bringsHome_113 : decode cX6_bringsHome 113 = .ok (.iload 5, 2) := by decide +kernel
theorem dX6_bringsHome_115 : decode cX6_bringsHome 115 = .ok (.iconst 0, 1) := by decide +kernel
theorem dX6_bringsHome_116 : decode cX6_bringsHome 116 = .ok (.invokevirtual 187, 3) := by decide +kernel
theorem dX6_bringsHome_119 : decode cX6_bringsHome 119 = .ok (.iinc 6 1, 3) := by decide +kernel
theorem dX6_bringsHome_122 : decode cX6_bringsHome 122 = .ok (.goto (-19), 3) := by decide +kernel
theorem dX6_bringsHome_125 : decode cX6_bringsHome 125 = .ok (.aload_n 0, 1) := by decide +kernel
theorem dX6_bringsHome_126 : decode cX6_bringsHome 126 = .ok (.iconst 2, 1) := by decide +kernel
theorem dX6_bringsHome_127 : decode cX6_bringsHome 127 = .ok (.aload_n 0, 1) := by decide +kernel
theorem dX6_bringsHome_128 : decode cX6_bringsHome 128 = .ok (.getfield 251, 3) := by decide +kernel
theorem dX6_bringsHome_131 : decode cX6_bringsHome 131 = .ok (.invokevirtual 244, 3) := by decide +kernel
theorem dX6_bringsHome_134 : decode cX6_bringsHome 134 = .ok (.istore 4, 2) := by decide +kernel
theorem dX6_bringsHome_136 : decode cX6_bringsHome 136 = .ok (.iinc 5 1, 3) := by decide +kernel
theorem dX6_bringsHome_139 : decode cX6_bringsHome 139 = .ok (.goto (-63), 3) := by decide +kernel
theorem dX6_bringsHome_142 : decode cX6_bringsHome 142 = .ok (.iload 4, 2) := by decide +kernel
theorem dX6_bringsHome_144 : decode cX6_bringsHome 144 = .ok (.ireturn, 1) := by decide +kernel
theorem dX6_stonesFor_0 : decode cX6_stonesFor 0 = .ok (.bipush (-9), 2) := by decide +kernel
theorem dX6_stonesFor_2 : decode cX6_stonesFor 2 = .ok (.istore_n 3, 1) := by decide +kernel
theorem dX6_stonesFor_3 : decode cX6_stonesFor 3 = .ok (.iconst 0, 1) := by decide +kernel
theorem dX6_stonesFor_4 : decode cX6_stonesFor 4 = .ok (.istore 4, 2) := by decide +kernel
theorem dX6_stonesFor_6 : decode cX6_stonesFor 6 = .ok (.iload 4, 2) := by decide +kernel
theorem dX6_stonesFor_8 : decode cX6_stonesFor 8 = .ok (.aload_n 0, 1) := by decide +kernel
theorem dX6_stonesFor_9 : decode cX6_stonesFor 9 = .ok (.getfield 254, 3) := by decide +kernel
theorem dX6_stonesFor_12 : decode cX6_stonesFor 12 = .ok (.if_icmp .gt 69, 3) := by decide +kernel
theorem dX6_stonesFor_15 : decode cX6_stonesFor 15 = .ok (.iload_n 3, 1) := by decide +kernel
theorem dX6_stonesFor_16 : decode cX6_stonesFor 16 = .ok (.bipush (-9), 2) := by decide +kernel
theorem dX6_stonesFor_18 : decode cX6_stonesFor 18 = .ok (.if_icmp .eq 15, 3) := by decide +kernel
theorem dX6_stonesFor_21 : decode cX6_stonesFor 21 = .ok (.iload 4, 2) := by decide +kernel
theorem dX6_stonesFor_23 : decode cX6_stonesFor 23 = .ok (.invokestatic 257, 3) := by decide +kernel
theorem dX6_stonesFor_26 : decode cX6_stonesFor 26 = .ok (.iload_n 3, 1) := by decide +kernel
theorem dX6_stonesFor_27 : decode cX6_stonesFor 27 = .ok (.invokestatic 257, 3) := by decide +kernel
theorem dX6_stonesFor_30 : decode cX6_stonesFor 30 = .ok (.if_icmp .ge 7, 3) := by decide +kernel
theorem dX6_stonesFor_33 : decode cX6_stonesFor 33 = .ok (.iconst 1, 1) := by decide +kernel
theorem dX6_stonesFor_34 : decode cX6_stonesFor 34 = .ok (.goto 4, 3) := by decide +kernel
theorem dX6_stonesFor_37 : decode cX6_stonesFor 37 = .ok (.iconst 0, 1) := by decide +kernel
theorem dX6_stonesFor_38 : decode cX6_stonesFor 38 = .ok (.istore 5, 2) := by decide +kernel
theorem dX6_stonesFor_40 : decode cX6_stonesFor 40 = .ok (.iload 4, 2) := by decide +kernel
theorem dX6_stonesFor_42 : decode cX6_stonesFor 42 = .ok (.aload_n 0, 1) := by decide +kernel
theorem dX6_stonesFor_43 : decode cX6_stonesFor 43 = .ok (.getfield 254, 3) := by decide +kernel
theorem dX6_stonesFor_46 : decode cX6_stonesFor 46 = .ok (.iconst (-1), 1) := by decide +kernel
theorem dX6_stonesFor_47 : decode cX6_stonesFor 47 = .ok (.ixor, 1) := by decide +kernel
theorem dX6_stonesFor_48 : decode cX6_stonesFor 48 = .ok (.iand, 1) := by decide +kernel
theorem dX6_stonesFor_49 : decode cX6_stonesFor 49 = .ok (.ifCond .ne 24, 3) := by decide +kernel
theorem dX6_stonesFor_52 : decode cX6_stonesFor 52 = .ok (.iload 5, 2) := by decide +kernel
theorem dX6_stonesFor_54 : decode cX6_stonesFor 54 = .ok (.ifCond .eq 19, 3) := by decide +kernel
theorem dX6_stonesFor_57 : decode cX6_stonesFor 57 = .ok (.aload_n 0, 1) := by decide +kernel
theorem dX6_stonesFor_58 : decode cX6_stonesFor 58 = .ok (.iload 4, 2) := by decide +kernel
theorem dX6_stonesFor_60 : decode cX6_stonesFor 60 = .ok (.iload_n 1, 1) := by decide +kernel
theorem dX6_stonesFor_61 : decode cX6_stonesFor 61 = .ok (.iload_n 2, 1) := by decide +kernel
theorem dX6_stonesFor_62 : decode cX6_stonesFor 62 = .ok (.invokevirtual 260, 3) := by decide +kernel
theorem dX6_stonesFor_65 : decode cX6_stonesFor 65 = .ok (.ifCond .eq 8, 3) := by decide +kernel
theorem dX6_stonesFor_68 : decode cX6_stonesFor 68 = .ok (.iload 4, 2) := by decide +kernel
theorem dX6_stonesFor_70 : decode cX6_stonesFor 70 = .ok (.goto 4, 3) := by decide +kernel
theorem dX6_stonesFor_73 : decode cX6_stonesFor 73 = .ok (.iload_n 3, 1) := by decide +kernel
theorem dX6_stonesFor_74 : decode cX6_stonesFor 74 = .ok (.istore_n 3, 1) := by decide +kernel
theorem dX6_stonesFor_75 : decode cX6_stonesFor 75 = .ok (.iinc 4 1, 3) := by decide +kernel
theorem dX6_stonesFor_78 : decode cX6_stonesFor 78 = .ok (.goto (-72), 3) := by decide +kernel
theorem dX6_stonesFor_81 : decode cX6_stonesFor 81 = .ok (.iload_n 3, 1) := by decide +kernel
theorem dX6_stonesFor_82 : decode cX6_stonesFor 82 = .ok (.bipush (-9), 2) := by decide +kernel
theorem dX6_stonesFor_84 : decode cX6_stonesFor 84 = .ok (.if_icmp .ne 8, 3) := by decide +kernel
theorem dX6_stonesFor_87 : decode cX6_stonesFor 87 = .ok (.bipush (-9), 2) := by decide +kernel
theorem dX6_stonesFor_89 : decode cX6_stonesFor 89 = .ok (.goto 12, 3) := by decide +kernel
theorem dX6_stonesFor_92 : decode cX6_stonesFor 92 = .ok (.aload_n 0, 1) := by decide +kernel
theorem dX6_stonesFor_93 : decode cX6_stonesFor 93 = .ok (.iload_n 3, 1) := by decide +kernel
theorem dX6_stonesFor_94 : decode cX6_stonesFor 94 = .ok (.iload_n 3, 1) := by decide +kernel
theorem dX6_stonesFor_95 : decode cX6_stonesFor 95 = .ok (.invokestatic 257, 3) := by decide +kernel
theorem dX6_stonesFor_98 : decode cX6_stonesFor 98 = .ok (.invokevirtual 114, 3) := by decide +kernel
theorem dX6_stonesFor_101 : decode cX6_stonesFor 101 = .ok (.ireturn, 1) := by decide +kernel
theorem dX6_fewest_0 : decode cX6_fewest 0 = .ok (.aload_n 0, 1) := by decide +kernel
theorem dX6_fewest_1 : decode cX6_fewest 1 = .ok (.iload_n 1, 1) := by decide +kernel
theorem dX6_fewest_2 : decode cX6_fewest 2 = .ok (.iload_n 2, 1) := by decide +kernel
theorem dX6_fewest_3 : decode cX6_fewest 3 = .ok (.invokevirtual 264, 3) := by decide +kernel
theorem dX6_fewest_6 : decode cX6_fewest 6 = .ok (.istore_n 3, 1) := by decide +kernel
theorem dX6_fewest_7 : decode cX6_fewest 7 = .ok (.iload_n 3, 1) := by decide +kernel
theorem dX6_fewest_8 : decode cX6_fewest 8 = .ok (.ifCond .ge 7, 3) := by decide +kernel
theorem dX6_fewest_11 : decode cX6_fewest 11 = .ok (.iload_n 3, 1) := by decide +kernel
theorem dX6_fewest_12 : decode cX6_fewest 12 = .ok (.goto 9, 3) := by decide +kernel
theorem dX6_fewest_15 : decode cX6_fewest 15 = .ok (.aload_n 0, 1) := by decide +kernel
theorem dX6_fewest_16 : decode cX6_fewest 16 = .ok (.iload_n 2, 1) := by decide +kernel
theorem dX6_fewest_17 : decode cX6_fewest 17 = .ok (.iconst 0, 1) := by decide +kernel
theorem dX6_fewest_18 : decode cX6_fewest 18 = .ok (.invokevirtual 267, 3) := by decide +kernel
theorem dX6_fewest_21 : decode cX6_fewest 21 = .ok (.ireturn, 1) := by decide +kernel
theorem dX6_surest_0 : decode cX6_surest 0 = .ok (.aload_n 0, 1) := by decide +kernel
theorem dX6_surest_1 : decode cX6_surest 1 = .ok (.iload_n 1, 1) := by decide +kernel
theorem dX6_surest_2 : decode cX6_surest 2 = .ok (.iload_n 2, 1) := by decide +kernel
theorem dX6_surest_3 : decode cX6_surest 3 = .ok (.invokevirtual 264, 3) := by decide +kernel
theorem dX6_surest_6 : decode cX6_surest 6 = .ok (.istore_n 3, 1) := by decide +kernel
theorem dX6_surest_7 : decode cX6_surest 7 = .ok (.iload_n 3, 1) := by decide +kernel
theorem dX6_surest_8 : decode cX6_surest 8 = .ok (.ifCond .ge 7, 3) := by decide +kernel
theorem dX6_surest_11 : decode cX6_surest 11 = .ok (.iload_n 3, 1) := by decide +kernel
theorem dX6_surest_12 : decode cX6_surest 12 = .ok (.goto 9, 3) := by decide +kernel
theorem dX6_surest_15 : decode cX6_surest 15 = .ok (.aload_n 0, 1) := by decide +kernel
theorem dX6_surest_16 : decode cX6_surest 16 = .ok (.iload_n 2, 1) := by decide +kernel
theorem dX6_surest_17 : decode cX6_surest 17 = .ok (.iconst 1, 1) := by decide +kernel
theorem dX6_surest_18 : decode cX6_surest 18 = .ok (.invokevirtual 267, 3) := by decide +kernel
theorem dX6_surest_21 : decode cX6_surest 21 = .ok (.ireturn, 1) := by decide +kernel
theorem dX6_changedBy_0 : decode cX6_changedBy 0 = .ok (.aload_n 0, 1) := by decide +kernel
theorem dX6_changedBy_1 : decode cX6_changedBy 1 = .ok (.iconst 0, 1) := by decide +kernel
theorem dX6_changedBy_2 : decode cX6_changedBy 2 = .ok (.aload_n 0, 1) := by decide +kernel
theorem dX6_changedBy_3 : decode cX6_changedBy 3 = .ok (.invokevirtual 223, 3) := by decide +kernel
theorem dX6_changedBy_6 : decode cX6_changedBy 6 = .ok (.invokevirtual 244, 3) := by decide +kernel
theorem dX6_changedBy_9 : decode cX6_changedBy 9 = .ok (.iload_n 1, 1) := by decide +kernel
theorem dX6_changedBy_10 : decode cX6_changedBy 10 = .ok (.if_icmp .eq 5, 3) := by decide +kernel
theorem dX6_changedBy_13 : decode cX6_changedBy 13 = .ok (.iconst 0, 1) := by decide +kernel
theorem dX6_changedBy_14 : decode cX6_changedBy 14 = .ok (.ireturn, 1) := by decide +kernel
theorem dX6_changedBy_15 : decode cX6_changedBy 15 = .ok (.iconst 0, 1) := by decide +kernel
theorem dX6_changedBy_16 : decode cX6_changedBy 16 = .ok (.istore_n 2, 1) := by decide +kernel
theorem dX6_changedBy_17 : decode cX6_changedBy 17 = .ok (.iconst 0, 1) := by decide +kernel
theorem dX6_changedBy_18 : decode cX6_changedBy 18 = .ok (.istore_n 3, 1) := by decide +kernel
theorem dX6_changedBy_19 : decode cX6_changedBy 19 = .ok (.iload_n 3, 1) := by decide +kernel
theorem dX6_changedBy_20 : decode cX6_changedBy 20 = .ok (.aload_n 0, 1) := by decide +kernel
theorem dX6_changedBy_21 : decode cX6_changedBy 21 = .ok (.getfield 167, 3) := by decide +kernel
theorem dX6_changedBy_24 : decode cX6_changedBy 24 = .ok (.if_icmp .ge 45, 3) := by decide +kernel
theorem dX6_changedBy_27 : decode cX6_changedBy 27 = .ok (.aload_n 0, 1) := by decide +kernel
theorem dX6_changedBy_28 : decode cX6_changedBy 28 = .ok (.iconst 0, 1) := by decide +kernel
theorem dX6_changedBy_29 : decode cX6_changedBy 29 = .ok (.iconst 1, 1) := by decide +kernel
theorem dX6_changedBy_30 : decode cX6_changedBy 30 = .ok (.invokevirtual 247, 3) := by decide +kernel
theorem dX6_changedBy_33 : decode cX6_changedBy 33 = .ok (.aload_n 0, 1) := by decide +kernel
theorem dX6_changedBy_34 : decode cX6_changedBy 34 = .ok (.iconst 1, 1) := by decide +kernel
theorem dX6_changedBy_35 : decode cX6_changedBy 35 = .ok (.iconst 1, 1) := by decide +kernel
theorem dX6_changedBy_36 : decode cX6_changedBy 36 = .ok (.iload_n 3, 1) := by decide +kernel
theorem dX6_changedBy_37 : decode cX6_changedBy 37 = .ok (.invokevirtual 227, 3) := by decide +kernel
theorem dX6_changedBy_40 : decode cX6_changedBy 40 = .ok (.iload_n 2, 1) := by decide +kernel
theorem dX6_changedBy_41 : decode cX6_changedBy 41 = .ok (.aload_n 0, 1) := by decide +kernel
theorem dX6_changedBy_42 : decode cX6_changedBy 42 = .ok (.iconst 1, 1) := by decide +kernel
theorem dX6_changedBy_43 : decode cX6_changedBy 43 = .ok (.aload_n 0, 1) := by decide +kernel
theorem dX6_changedBy_44 : decode cX6_changedBy 44 = .ok (.invokevirtual 223, 3) := by decide +kernel
theorem dX6_changedBy_47 : decode cX6_changedBy 47 = .ok (.invokevirtual 244, 3) := by decide +kernel
theorem dX6_changedBy_50 : decode cX6_changedBy 50 = .ok (.iload_n 1, 1) := by decide +kernel
theorem dX6_changedBy_51 : decode cX6_changedBy 51 = .ok (.if_icmp .eq 9, 3) := by decide +kernel
theorem dX6_changedBy_54 : decode cX6_changedBy 54 = .ok (.iconst 1, 1) := by decide +kernel
theorem dX6_changedBy_55 : decode cX6_changedBy 55 = .ok (.iload_n 3, 1) := by decide +kernel
theorem dX6_changedBy_56 : decode cX6_changedBy 56 = .ok (.ishl, 1) := by decide +kernel
theorem dX6_changedBy_57 : decode cX6_changedBy 57 = .ok (.goto 4, 3) := by decide +kernel
theorem dX6_changedBy_60 : decode cX6_changedBy 60 = .ok (.iconst 0, 1) := by decide +kernel
theorem dX6_changedBy_61 : decode cX6_changedBy 61 = .ok (.ior, 1) := by decide +kernel
theorem dX6_changedBy_62 : decode cX6_changedBy 62 = .ok (.istore_n 2, 1) := by decide +kernel
theorem dX6_changedBy_63 : decode cX6_changedBy 63 = .ok (.iinc 3 1, 3) := by decide +kernel
theorem dX6_changedBy_66 : decode cX6_changedBy 66 = .ok (.goto (-47), 3) := by decide +kernel
theorem dX6_changedBy_69 : decode cX6_changedBy 69 = .ok (.iload_n 2, 1) := by decide +kernel
theorem dX6_changedBy_70 : decode cX6_changedBy 70 = .ok (.ireturn, 1) := by decide +kernel
theorem dX6_astray_0 : decode cX6_astray 0 = .ok (.aload_n 0, 1) := by decide +kernel
theorem dX6_astray_1 : decode cX6_astray 1 = .ok (.getfield 167, 3) := by decide +kernel
theorem dX6_astray_4 : decode cX6_astray 4 = .ok (.ifCond .ne 8, 3) := by decide +kernel
theorem dX6_astray_7 : decode cX6_astray 7 = .ok (.bipush (-4), 2) := by decide +kernel
theorem dX6_astray_9 : decode cX6_astray 9 = .ok (.goto 8, 3) := by decide +kernel
theorem dX6_astray_12 : decode cX6_astray 12 = .ok (.aload_n 0, 1) := by decide +kernel
theorem dX6_astray_13 : decode cX6_astray 13 = .ok (.iconst 1, 1) := by decide +kernel
theorem dX6_astray_14 : decode cX6_astray 14 = .ok (.invokevirtual 271, 3) := by decide +kernel
theorem dX6_astray_17 : decode cX6_astray 17 = .ok (.ireturn, 1) := by decide +kernel
theorem dX6_helps_0 : decode cX6_helps 0 = .ok (.aload_n 0, 1) := by decide +kernel
theorem dX6_helps_1 : decode cX6_helps 1 = .ok (.getfield 167, 3) := by decide +kernel
theorem dX6_helps_4 : decode cX6_helps 4 = .ok (.ifCond .ne 8, 3) := by decide +kernel
theorem dX6_helps_7 : decode cX6_helps 7 = .ok (.bipush (-4), 2) := by decide +kernel
theorem dX6_helps_9 : decode cX6_helps 9 = .ok (.goto 8, 3) := by decide +kernel
theorem dX6_helps_12 : decode cX6_helps 12 = .ok (.aload_n 0, 1) := by decide +kernel
theorem dX6_helps_13 : decode cX6_helps 13 = .ok (.iconst 0, 1) := by decide +kernel
theorem dX6_helps_14 : decode cX6_helps 14 = .ok (.invokevirtual 271, 3) := by decide +kernel
theorem dX6_helps_17 : decode cX6_helps 17 = .ok (.ireturn, 1) := by decide +kernel
theorem dX6_homeWays_0 : decode cX6_homeWays 0 = .ok (.iconst 0, 1) := by decide +kernel
theorem dX6_homeWays_1 : decode cX6_homeWays 1 = .ok (.istore_n 2, 1) := by decide +kernel
theorem dX6_homeWays_2 : decode cX6_homeWays 2 = .ok (.iconst 0, 1) := by decide +kernel
theorem dX6_homeWays_3 : decode cX6_homeWays 3 = .ok (.istore_n 3, 1) := by decide +kernel
theorem dX6_homeWays_4 : decode cX6_homeWays 4 = .ok (.iload_n 3, 1) := by decide +kernel
theorem dX6_homeWays_5 : decode cX6_homeWays 5 = .ok (.iconst 1, 1) := by decide +kernel
theorem dX6_homeWays_6 : decode cX6_homeWays 6 = .ok (.aload_n 0, 1) := by decide +kernel
theorem dX6_homeWays_7 : decode cX6_homeWays 7 = .ok (.getfield 167, 3) := by decide +kernel
theorem dX6_homeWays_10 : decode cX6_homeWays 10 = .ok (.ishl, 1) := by decide +kernel
theorem dX6_homeWays_11 : decode cX6_homeWays 11 = .ok (.if_icmp .ge 82, 3) := by decide +kernel
theorem dX6_homeWays_14 : decode cX6_homeWays 14 = .ok (.aload_n 0, 1) := by decide +kernel
theorem dX6_homeWays_15 : decode cX6_homeWays 15 = .ok (.iload_n 1, 1) := by decide +kernel
theorem dX6_homeWays_16 : decode cX6_homeWays 16 = .ok (.iconst 2, 1) := by decide +kernel
theorem dX6_homeWays_17 : decode cX6_homeWays 17 = .ok (.invokevirtual 247, 3) := by decide +kernel
theorem dX6_homeWays_20 : decode cX6_homeWays 20 = .ok (.iconst 0, 1) := by decide +kernel
theorem dX6_homeWays_21 : decode cX6_homeWays 21 = .ok (.istore 4, 2) := by decide +kernel
theorem dX6_homeWays_23 : decode cX6_homeWays 23 = .ok (.iload 4, 2) := by decide +kernel
theorem dX6_homeWays_25 : decode cX6_homeWays 25 = .ok (.aload_n 0, 1) := by decide +kernel
theorem dX6_homeWays_26 : decode cX6_homeWays 26 = .ok (.getfield 167, 3) := by decide +kernel
theorem dX6_homeWays_29 : decode cX6_homeWays 29 = .ok (.if_icmp .ge 38, 3) := by decide +kernel
theorem dX6_homeWays_32 : decode cX6_homeWays 32 = .ok (.aload_n 0, 1) := by decide +kernel
theorem dX6_homeWays_33 : decode cX6_homeWays 33 = .ok (.iconst 2, 1) := by decide +kernel
theorem dX6_homeWays_34 : decode cX6_homeWays 34 = .ok (.iconst 0, 1) := by decide +kernel
theorem dX6_homeWays_35 : decode cX6_homeWays 35 = .ok (.iload 4, 2) := by decide +kernel
theorem dX6_homeWays_37 : decode cX6_homeWays 37 = .ok (.iload_n 3, 1) := by decide +kernel
theorem dX6_homeWays_38 : decode cX6_homeWays 38 = .ok (.iload 4, 2) := by decide +kernel
theorem dX6_homeWays_40 : decode cX6_homeWays 40 = .ok (.invokestatic 145, 3) := by decide +kernel
theorem dX6_homeWays_43 : decode cX6_homeWays 43 = .ok (.ifCond .eq 7, 3) := by decide +kernel
theorem dX6_homeWays_46 : decode cX6_homeWays 46 = .ok (.iconst 0, 1) := by decide +kernel
theorem dX6_homeWays_47 : decode cX6_homeWays 47 = .ok (.goto 11, 3) := by decide +kernel
theorem dX6_homeWays_50 : decode cX6_homeWays 50 = .ok (.aload_n 0, 1) := by decide +kernel
theorem dX6_homeWays_51 : decode cX6_homeWays 51 = .ok (.iconst 2, 1) := by decide +kernel
theorem dX6_homeWays_52 : decode cX6_homeWays 52 = .ok (.iconst 0, 1) := by decide +kernel
theorem dX6_homeWays_53 : decode cX6_homeWays 53 = .ok (.iload 4, 2) := by decide +kernel
theorem dX6_homeWays_55 : decode cX6_homeWays 55 = .ok (.invokevirtual 184, 3) := by decide +kernel
theorem dX6_homeWays_58 : decode cX6_homeWays 58 = .ok (.invokevirtual 187, 3) := by decide +kernel
theorem dX6_homeWays_61 : decode cX6_homeWays 61 = .ok (.iinc 4 1, 3) := by decide +kernel
theorem dX6_homeWays_64 : decode cX6_homeWays 64 = .ok (.goto (-41), 3) := by decide +kernel
theorem dX6_homeWays_67 : decode cX6_homeWays 67 = .ok (.iload_n 2, 1) := by decide +kernel
theorem dX6_homeWays_68 : decode cX6_homeWays 68 = .ok (.aload_n 0, 1) := by decide +kernel
theorem dX6_homeWays_69 : decode cX6_homeWays 69 = .ok (.iconst 2, 1) := by decide +kernel
theorem dX6_homeWays_70 : decode cX6_homeWays 70 = .ok (.aload_n 0, 1) := by decide +kernel
theorem dX6_homeWays_71 : decode cX6_homeWays 71 = .ok (.invokevirtual 223, 3) := by decide +kernel
theorem dX6_homeWays_74 : decode cX6_homeWays 74 = .ok (.invokevirtual 244, 3) := by decide +kernel
theorem dX6_homeWays_77 : decode cX6_homeWays 77 = .ok (.ifCond .eq 7, 3) := by decide +kernel
theorem dX6_homeWays_80 : decode cX6_homeWays 80 = .ok (.iconst 1, 1) := by decide +kernel
theorem dX6_homeWays_81 : decode cX6_homeWays 81 = .ok (.goto 4, 3) := by decide +kernel
theorem dX6_homeWays_84 : decode cX6_homeWays 84 = .ok (.iconst 0, 1) := by decide +kernel
theorem dX6_homeWays_85 : decode cX6_homeWays 85 = .ok (.iadd, 1) := by decide +kernel
theorem dX6_homeWays_86 : decode cX6_homeWays 86 = .ok (.istore_n 2, 1) := by decide +kernel
theorem dX6_homeWays_87 : decode cX6_homeWays 87 = .ok (.iinc 3 1, 3) := by decide +kernel
theorem dX6_homeWays_90 : decode cX6_homeWays 90 = .ok (.goto (-86), 3) := by decide +kernel
theorem dX6_homeWays_93 : decode cX6_homeWays 93 = .ok (.iload_n 2, 1) := by decide +kernel
theorem dX6_homeWays_94 : decode cX6_homeWays 94 = .ok (.ireturn, 1) := by decide +kernel
theorem dX6_odds_0 : decode cX6_odds 0 = .ok (.aload_n 0, 1) := by decide +kernel
theorem dX6_odds_1 : decode cX6_odds 1 = .ok (.getfield 167, 3) := by decide +kernel
theorem dX6_odds_4 : decode cX6_odds 4 = .ok (.ifCond .ne 8, 3) := by decide +kernel
theorem dX6_odds_7 : decode cX6_odds 7 = .ok (.bipush (-4), 2) := by decide +kernel
theorem dX6_odds_9 : decode cX6_odds 9 = .ok (.goto 19, 3) := by decide +kernel
theorem dX6_odds_12 : decode cX6_odds 12 = .ok (.aload_n 0, 1) := by decide +kernel
theorem dX6_odds_13 : decode cX6_odds 13 = .ok (.aload_n 0, 1) := by decide +kernel
theorem dX6_odds_14 : decode cX6_odds 14 = .ok (.iconst 0, 1) := by decide +kernel
theorem dX6_odds_15 : decode cX6_odds 15 = .ok (.invokevirtual 275, 3) := by decide +kernel
theorem dX6_odds_18 : decode cX6_odds 18 = .ok (.i2l, 1) := by decide +kernel
theorem dX6_odds_19 : decode cX6_odds 19 = .ok (.lconst 1, 1) := by decide +kernel
theorem dX6_odds_20 : decode cX6_odds 20 = .ok (.aload_n 0, 1) := by decide +kernel
theorem dX6_odds_21 : decode cX6_odds 21 = .ok (.getfield 167, 3) := by decide +kernel
theorem dX6_odds_24 : decode cX6_odds 24 = .ok (.lshl, 1) := by decide +kernel
theorem dX6_odds_25 : decode cX6_odds 25 = .ok (.invokevirtual 278, 3) := by decide +kernel
theorem dX6_odds_28 : decode cX6_odds 28 = .ok (.ireturn, 1) := by decide +kernel
theorem dX6_best_0 : decode cX6_best 0 = .ok (.aload_n 0, 1) := by decide +kernel
theorem dX6_best_1 : decode cX6_best 1 = .ok (.getfield 167, 3) := by decide +kernel
theorem dX6_best_4 : decode cX6_best 4 = .ok (.ifCond .ne 6, 3) := by decide +kernel
theorem dX6_best_7 : decode cX6_best 7 = .ok (.bipush (-4), 2) := by decide +kernel
theorem dX6_best_9 : decode cX6_best 9 = .ok (.ireturn, 1) := by decide +kernel
theorem dX6_best_10 : decode cX6_best 10 = .ok (.iconst 0, 1) := by decide +kernel
theorem dX6_best_11 : decode cX6_best 11 = .ok (.istore_n 1, 1) := by decide +kernel
theorem dX6_best_12 : decode cX6_best 12 = .ok (.iconst (-1), 1) := by decide +kernel
theorem dX6_best_13 : decode cX6_best 13 = .ok (.istore_n 2, 1) := by decide +kernel
theorem dX6_best_14 : decode cX6_best 14 = .ok (.iconst 0, 1) := by decide +kernel
theorem dX6_best_15 : decode cX6_best 15 = .ok (.istore_n 3, 1) := by decide +kernel
theorem dX6_best_16 : decode cX6_best 16 = .ok (.iload_n 3, 1) := by decide +kernel
theorem dX6_best_17 : decode cX6_best 17 = .ok (.aload_n 0, 1) := by decide +kernel
theorem dX6_best_18 : decode cX6_best 18 = .ok (.getfield 167, 3) := by decide +kernel
theorem dX6_best_21 : decode cX6_best 21 = .ok (.if_icmp .ge 54, 3) := by decide +kernel
theorem dX6_best_24 : decode cX6_best 24 = .ok (.aload_n 0, 1) := by decide +kernel
theorem dX6_best_25 : decode cX6_best 25 = .ok (.iconst 0, 1) := by decide +kernel
theorem dX6_best_26 : decode cX6_best 26 = .ok (.iconst 1, 1) := by decide +kernel
theorem dX6_best_27 : decode cX6_best 27 = .ok (.invokevirtual 247, 3) := by decide +kernel
theorem dX6_best_30 : decode cX6_best 30 = .ok (.aload_n 0, 1) := by decide +kernel
theorem dX6_best_31 : decode cX6_best 31 = .ok (.iconst 1, 1) := by decide +kernel
theorem dX6_best_32 : decode cX6_best 32 = .ok (.iconst 1, 1) := by decide +kernel
theorem dX6_best_33 : decode cX6_best 33 = .ok (.iload_n 3, 1) := by decide +kernel
theorem dX6_best_34 : decode cX6_best 34 = .ok (.invokevirtual 227, 3) := by decide +kernel
theorem dX6_best_37 : decode cX6_best 37 = .ok (.aload_n 0, 1) := by decide +kernel
theorem dX6_best_38 : decode cX6_best 38 = .ok (.iconst 1, 1) := by decide +kernel
theorem dX6_best_39 : decode cX6_best 39 = .ok (.invokevirtual 275, 3) := by decide +kernel
theorem dX6_best_42 : decode cX6_best 42 = .ok (.istore 4, 2) := by decide +kernel
theorem dX6_best_44 : decode cX6_best 44 = .ok (.iload 4, 2) := by decide +kernel
theorem dX6_best_46 : decode cX6_best 46 = .ok (.iload_n 2, 1) := by decide +kernel
theorem dX6_best_47 : decode cX6_best 47 = .ok (.if_icmp .le 7, 3) := by decide +kernel
theorem dX6_best_50 : decode cX6_best 50 = .ok (.iload_n 3, 1) := by decide +kernel
theorem dX6_best_51 : decode cX6_best 51 = .ok (.goto 4, 3) := by decide +kernel
theorem dX6_best_54 : decode cX6_best 54 = .ok (.iload_n 1, 1) := by decide +kernel
theorem dX6_best_55 : decode cX6_best 55 = .ok (.istore_n 1, 1) := by decide +kernel
theorem dX6_best_56 : decode cX6_best 56 = .ok (.iload 4, 2) := by decide +kernel
theorem dX6_best_58 : decode cX6_best 58 = .ok (.iload_n 2, 1) := by decide +kernel
theorem dX6_best_59 : decode cX6_best 59 = .ok (.if_icmp .le 8, 3) := by decide +kernel
theorem dX6_best_62 : decode cX6_best 62 = .ok (.iload 4, 2) := by decide +kernel
theorem dX6_best_64 : decode cX6_best 64 = .ok (.goto 4, 3) := by decide +kernel
theorem dX6_best_67 : decode cX6_best 67 = .ok (.iload_n 2, 1) := by decide +kernel
theorem dX6_best_68 : decode cX6_best 68 = .ok (.istore_n 2, 1) := by decide +kernel
theorem dX6_best_69 : decode cX6_best 69 = .ok (.iinc 3 1, 3) := by decide +kernel
theorem dX6_best_72 : decode cX6_best 72 = .ok (.goto (-56), 3) := by decide +kernel
theorem dX6_best_75 : decode cX6_best 75 = .ok (.aload_n 0, 1) := by decide +kernel
theorem dX6_best_76 : decode cX6_best 76 = .ok (.iload_n 2, 1) := by decide +kernel
theorem dX6_best_77 : decode cX6_best 77 = .ok (.i2l, 1) := by decide +kernel
theorem dX6_best_78 : decode cX6_best 78 = .ok (.lconst 1, 1) := by decide +kernel
theorem dX6_best_79 : decode cX6_best 79 = .ok (.aload_n 0, 1) := by decide +kernel
theorem dX6_best_80 : decode cX6_best 80 = .ok (.getfield 167, 3) := by decide +kernel
theorem dX6_best_83 : decode cX6_best 83 = .ok (.lshl, 1) := by decide +kernel
theorem dX6_best_84 : decode cX6_best 84 = .ok (.invokevirtual 278, 3) := by decide +kernel
theorem dX6_best_87 : decode cX6_best 87 = .ok (.pop, 1) := by decide +kernel
theorem dX6_best_88 : decode cX6_best 88 = .ok (.iload_n 1, 1) := by decide +kernel
theorem dX6_best_89 : decode cX6_best 89 = .ok (.ireturn, 1) := by decide +kernel
theorem dX6_layWays_0 : decode cX6_layWays 0 = .ok (.iconst 0, 1) := by decide +kernel
theorem dX6_layWays_1 : decode cX6_layWays 1 = .ok (.istore_n 3, 1) := by decide +kernel
theorem dX6_layWays_2 : decode cX6_layWays 2 = .ok (.iload_n 3, 1) := by decide +kernel
theorem dX6_layWays_3 : decode cX6_layWays 3 = .ok (.iload_n 1, 1) := by decide +kernel
theorem dX6_layWays_4 : decode cX6_layWays 4 = .ok (.if_icmp .gt 175, 3) := by decide +kernel
theorem dX6_layWays_7 : decode cX6_layWays 7 = .ok (.iconst 0, 1) := by decide +kernel
theorem dX6_layWays_8 : decode cX6_layWays 8 = .ok (.istore 4, 2) := by decide +kernel
theorem dX6_layWays_10 : decode cX6_layWays 10 = .ok (.iload 4, 2) := by decide +kernel
theorem dX6_layWays_12 : decode cX6_layWays 12 = .ok (.aload_n 0, 1) := by decide +kernel
theorem dX6_layWays_13 : decode cX6_layWays 13 = .ok (.getfield 167, 3) := by decide +kernel
theorem dX6_layWays_16 : decode cX6_layWays 16 = .ok (.if_icmp .ge 157, 3) := by decide +kernel
theorem dX6_layWays_19 : decode cX6_layWays 19 = .ok (.iload_n 3, 1) := by decide +kernel
theorem dX6_layWays_20 : decode cX6_layWays 20 = .ok (.ifCond .ne 16, 3) := by decide +kernel
theorem dX6_layWays_23 : decode cX6_layWays 23 = .ok (.iload 4, 2) := by decide +kernel
theorem dX6_layWays_25 : decode cX6_layWays 25 = .ok (.aload_n 0, 1) := by decide +kernel
theorem dX6_layWays_26 : decode cX6_layWays 26 = .ok (.invokevirtual 223, 3) := by decide +kernel
theorem dX6_layWays_29 : decode cX6_layWays 29 = .ok (.if_icmp .ne 7, 3) := by decide +kernel
theorem dX6_layWays_32 : decode cX6_layWays 32 = .ok (.iconst 1, 1) := by decide +kernel
theorem dX6_layWays_33 : decode cX6_layWays 33 = .ok (.goto 4, 3) := by decide +kernel
theorem dX6_layWays_36 : decode cX6_layWays 36 = .ok (.iconst 0, 1) := by decide +kernel
theorem dX6_layWays_37 : decode cX6_layWays 37 = .ok (.istore 5, 2) := by decide +kernel
theorem dX6_layWays_39 : decode cX6_layWays 39 = .ok (.iconst 0, 1) := by decide +kernel
theorem dX6_layWays_40 : decode cX6_layWays 40 = .ok (.istore 6, 2) := by decide +kernel
theorem dX6_layWays_42 : decode cX6_layWays 42 = .ok (.iload 6, 2) := by decide +kernel
theorem dX6_layWays_44 : decode cX6_layWays 44 = .ok (.aload_n 0, 1) := by decide +kernel
theorem dX6_layWays_45 : decode cX6_layWays 45 = .ok (.getfield 167, 3) := by decide +kernel
theorem dX6_layWays_48 : decode cX6_layWays 48 = .ok (.if_icmp .ge 92, 3) := by decide +kernel
theorem dX6_layWays_51 : decode cX6_layWays 51 = .ok (.iload_n 3, 1) := by decide +kernel
theorem dX6_layWays_52 : decode cX6_layWays 52 = .ok (.ifCond .le 88, 3) := by decide +kernel
theorem dX6_layWays_55 : decode cX6_layWays 55 = .ok (.aload_n 0, 1) := by decide +kernel
theorem dX6_layWays_56 : decode cX6_layWays 56 = .ok (.iconst 0, 1) := by decide +kernel
theorem dX6_layWays_57 : decode cX6_layWays 57 = .ok (.iconst 0, 1) := by decide +kernel
theorem dX6_layWays_58 : decode cX6_layWays 58 = .ok (.iload 6, 2) := by decide +kernel
theorem dX6_layWays_60 : decode cX6_layWays 60 = .ok (.invokevirtual 184, 3) := by decide +kernel
theorem dX6_layWays_63 : decode cX6_layWays 63 = .ok (.aload_n 0, 1) := by decide +kernel
theorem dX6_layWays_64 : decode cX6_layWays 64 = .ok (.iconst 0, 1) := by decide +kernel
theorem dX6_layWays_65 : decode cX6_layWays 65 = .ok (.iconst 1, 1) := by decide +kernel
theorem dX6_layWays_66 : decode cX6_layWays 66 = .ok (.iload 6, 2) := by decide +kernel
theorem dX6_layWays_68 : decode cX6_layWays 68 = .ok (.invokevirtual 184, 3) := by decide +kernel
theorem dX6_layWays_71 : decode cX6_layWays 71 = .ok (.iadd, 1) := by decide +kernel
theorem dX6_layWays_72 : decode cX6_layWays 72 = .ok (.aload_n 0, 1) := by decide +kernel
theorem dX6_layWays_73 : decode cX6_layWays 73 = .ok (.iconst 0, 1) := by decide +kernel
theorem dX6_layWays_74 : decode cX6_layWays 74 = .ok (.iconst 2, 1) := by decide +kernel
theorem dX6_layWays_75 : decode cX6_layWays 75 = .ok (.iload 6, 2) := by decide +kernel
theorem dX6_layWays_77 : decode cX6_layWays 77 = .ok (.invokevirtual 184, 3) := by decide +kernel
theorem dX6_layWays_80 : decode cX6_layWays 80 = .ok (.iadd, 1) := by decide +kernel
theorem dX6_layWays_81 : decode cX6_layWays 81 = .ok (.ifCond .le 7, 3) := by decide +kernel
theorem dX6_layWays_84 : decode cX6_layWays 84 = .ok (.iconst 1, 1) := by decide +kernel
theorem dX6_layWays_85 : decode cX6_layWays 85 = .ok (.goto 4, 3) := by decide +kernel
theorem dX6_layWays_88 : decode cX6_layWays 88 = .ok (.iconst 0, 1) := by decide +kernel
theorem dX6_layWays_89 : decode cX6_layWays 89 = .ok (.istore 7, 2) := by decide +kernel
theorem dX6_layWays_91 : decode cX6_layWays 91 = .ok (.iload 5, 2) := by decide +kernel
theorem dX6_layWays_93 : decode cX6_layWays 93 = .ok (.aload_n 0, 1) := by decide +kernel
theorem dX6_layWays_94 : decode cX6_layWays 94 = .ok (.getfield 36, 3) := by decide +kernel
theorem dX6_layWays_97 : decode cX6_layWays 97 = .ok (.iload 4, 2) := by decide +kernel
theorem dX6_layWays_99 : decode cX6_layWays 99 = .ok (.iaload, 1) := by decide +kernel
theorem dX6_layWays_100 : decode cX6_layWays 100 = .ok (.iload 6, 2) := by decide +kernel
theorem dX6_layWays_102 : decode cX6_layWays 102 = .ok (.invokestatic 145, 3) := by decide +kernel
theorem dX6_layWays_105 : decode cX6_layWays 105 = .ok (.ifCond .eq 25, 3) := by decide +kernel
theorem dX6_layWays_108 : decode cX6_layWays 108 = .ok (.iload 7, 2) := by decide +kernel
theorem dX6_layWays_110 : decode cX6_layWays 110 = .ok (.ifCond .eq 20, 3) := by decide +kernel
theorem dX6_layWays_113 : decode cX6_layWays 113 = .ok (.aload_n 0, 1) := by decide +kernel
theorem dX6_layWays_114 : decode cX6_layWays 114 = .ok (.getfield 85, 3) := by decide +kernel
theorem dX6_layWays_117 : decode cX6_layWays 117 = .ok (.bipush 8, 2) := by decide +kernel
theorem dX6_layWays_119 : decode cX6_layWays 119 = .ok (.iload_n 3, 1) := by decide +kernel
theorem dX6_layWays_120 : decode cX6_layWays 120 = .ok (.iconst 1, 1) := by decide +kernel
theorem dX6_layWays_121 : decode cX6_layWays 121 = .ok (.isub, 1) := by decide +kernel
theorem dX6_layWays_122 : decode cX6_layWays 122 = .ok (.imul, 1) := by decide +kernel
theorem dX6_layWays_123 : decode cX6_layWays 123 = .ok (.iload 6, 2) := by decide +kernel
theorem dX6_layWays_125 : decode cX6_layWays 125 = .ok (.iadd, 1) := by decide +kernel
theorem dX6_layWays_126 : decode cX6_layWays 126 = .ok (.iaload, 1) := by decide +kernel
theorem dX6_layWays_127 : decode cX6_layWays 127 = .ok (.goto 4, 3) := by decide +kernel
theorem dX6_layWays_130 : decode cX6_layWays 130 = .ok (.iconst 0, 1) := by decide +kernel
theorem dX6_layWays_131 : decode cX6_layWays 131 = .ok (.iadd, 1) := by decide +kernel
theorem dX6_layWays_132 : decode cX6_layWays 132 = .ok (.istore 5, 2) := by decide +kernel
theorem dX6_layWays_134 : decode cX6_layWays 134 = .ok (.iinc 6 1, 3) := by decide +kernel
theorem dX6_layWays_137 : decode cX6_layWays 137 = .ok (.goto (-95), 3) := by decide +kernel
theorem dX6_layWays_140 : decode cX6_layWays 140 = .ok (.aload_n 0, 1) := by decide +kernel
theorem dX6_layWays_141 : decode cX6_layWays 141 = .ok (.getfield 85, 3) := by decide +kernel
theorem dX6_layWays_144 : decode cX6_layWays 144 = .ok (.bipush 8, 2) := by decide +kernel
theorem dX6_layWays_146 : decode cX6_layWays 146 = .ok (.iload_n 3, 1) := by decide +kernel
theorem dX6_layWays_147 : decode cX6_layWays 147 = .ok (.imul, 1) := by decide +kernel
theorem dX6_layWays_148 : decode cX6_layWays 148 = .ok (.iload 4, 2) := by decide +kernel
theorem dX6_layWays_150 : decode cX6_layWays 150 = .ok (.iadd, 1) := by decide +kernel
theorem dX6_layWays_151 : decode cX6_layWays 151 = .ok (.iload_n 2, 1) := by decide +kernel
theorem dX6_layWays_152 : decode cX6_layWays 152 = .ok (.iload 4, 2) := by decide +kernel
theorem dX6_layWays_154 : decode cX6_layWays 154 = .ok (.invokestatic 145, 3) := by decide +kernel
theorem dX6_layWays_157 : decode cX6_layWays 157 = .ok (.ifCond .eq 7, 3) := by decide +kernel
theorem dX6_layWays_160 : decode cX6_layWays 160 = .ok (.iconst 0, 1) := by decide +kernel
theorem dX6_layWays_161 : decode cX6_layWays 161 = .ok (.goto 5, 3) := by decide +kernel
theorem dX6_layWays_164 : decode cX6_layWays 164 = .ok (.iload 5, 2) := by decide +kernel
theorem dX6_layWays_166 : decode cX6_layWays 166 = .ok (.iastore, 1) := by decide +kernel
theorem dX6_layWays_167 : decode cX6_layWays 167 = .ok (.iinc 4 1, 3) := by decide +kernel
theorem dX6_layWays_170 : decode cX6_layWays 170 = .ok (.goto (-160), 3) := by decide +kernel
theorem dX6_layWays_173 : decode cX6_layWays 173 = .ok (.iinc 3 1, 3) := by decide +kernel
theorem dX6_layWays_176 : decode cX6_layWays 176 = .ok (.goto (-174), 3) := by decide +kernel
theorem dX6_layWays_179 : decode cX6_layWays 179 = .ok (.return_, 1) := by decide +kernel
theorem dX6_ways_0 : decode cX6_ways 0 = .ok (.iload_n 1, 1) := by decide +kernel
theorem dX6_ways_1 : decode cX6_ways 1 = .ok (.iconst 0, 1) := by decide +kernel
theorem dX6_ways_2 : decode cX6_ways 2 = .ok (.bipush 8, 2) := by decide +kernel
theorem dX6_ways_4 : decode cX6_ways 4 = .ok (.invokestatic 92, 3) := by decide +kernel
theorem dX6_ways_7 : decode cX6_ways 7 = .ok (.ifCond .ne 5, 3) := by decide +kernel
theorem dX6_ways_10 : decode cX6_ways 10 = .ok (.iconst (-1), 1) := by decide +kernel
theorem dX6_ways_11 : decode cX6_ways 11 = .ok (.ireturn, 1) := by decide +kernel
theorem dX6_ways_12 : decode cX6_ways 12 = .ok (.aload_n 0, 1) := by decide +kernel
theorem dX6_ways_13 : decode cX6_ways 13 = .ok (.getfield 167, 3) := by decide +kernel
theorem dX6_ways_16 : decode cX6_ways 16 = .ok (.ifCond .ne 6, 3) := by decide +kernel
theorem dX6_ways_19 : decode cX6_ways 19 = .ok (.bipush (-4), 2) := by decide +kernel
theorem dX6_ways_21 : decode cX6_ways 21 = .ok (.ireturn, 1) := by decide +kernel
theorem dX6_ways_22 : decode cX6_ways 22 = .ok (.aload_n 0, 1) := by decide +kernel
theorem dX6_ways_23 : decode cX6_ways 23 = .ok (.iload_n 1, 1) := by decide +kernel
theorem dX6_ways_24 : decode cX6_ways 24 = .ok (.iconst 0, 1) := by decide +kernel
theorem dX6_ways_25 : decode cX6_ways 25 = .ok (.invokevirtual 282, 3) := by decide +kernel
theorem dX6_ways_28 : decode cX6_ways 28 = .ok (.bipush (-9), 2) := by decide +kernel
theorem dX6_ways_30 : decode cX6_ways 30 = .ok (.istore_n 2, 1) := by decide +kernel
theorem dX6_ways_31 : decode cX6_ways 31 = .ok (.aload_n 0, 1) := by decide +kernel
theorem dX6_ways_32 : decode cX6_ways 32 = .ok (.getfield 167, 3) := by decide +kernel
theorem dX6_ways_35 : decode cX6_ways 35 = .ok (.iconst 1, 1) := by decide +kernel
theorem dX6_ways_36 : decode cX6_ways 36 = .ok (.isub, 1) := by decide +kernel
theorem dX6_ways_37 : decode cX6_ways 37 = .ok (.istore_n 3, 1) := by decide +kernel
theorem dX6_ways_38 : decode cX6_ways 38 = .ok (.iload_n 3, 1) := by decide +kernel
theorem dX6_ways_39 : decode cX6_ways 39 = .ok (.ifCond .lt 86, 3) := by decide +kernel
theorem dX6_ways_42 : decode cX6_ways 42 = .ok (.iload_n 1, 1) := by decide +kernel
theorem dX6_ways_43 : decode cX6_ways 43 = .ok (.ifCond .le 82, 3) := by decide +kernel
theorem dX6_ways_46 : decode cX6_ways 46 = .ok (.aload_n 0, 1) := by decide +kernel
theorem dX6_ways_47 : decode cX6_ways 47 = .ok (.iconst 0, 1) := by decide +kernel
theorem dX6_ways_48 : decode cX6_ways 48 = .ok (.iconst 0, 1) := by decide +kernel
theorem dX6_ways_49 : decode cX6_ways 49 = .ok (.iload_n 3, 1) := by decide +kernel
theorem dX6_ways_50 : decode cX6_ways 50 = .ok (.invokevirtual 184, 3) := by decide +kernel
theorem dX6_ways_53 : decode cX6_ways 53 = .ok (.aload_n 0, 1) := by decide +kernel
theorem dX6_ways_54 : decode cX6_ways 54 = .ok (.iconst 0, 1) := by decide +kernel
theorem dX6_ways_55 : decode cX6_ways 55 = .ok (.iconst 1, 1) := by decide +kernel
theorem dX6_ways_56 : decode cX6_ways 56 = .ok (.iload_n 3, 1) := by decide +kernel
theorem dX6_ways_57 : decode cX6_ways 57 = .ok (.invokevirtual 184, 3) := by decide +kernel
theorem dX6_ways_60 : decode cX6_ways 60 = .ok (.iadd, 1) := by decide +kernel
theorem dX6_ways_61 : decode cX6_ways 61 = .ok (.aload_n 0, 1) := by decide +kernel
theorem dX6_ways_62 : decode cX6_ways 62 = .ok (.iconst 0, 1) := by decide +kernel
theorem dX6_ways_63 : decode cX6_ways 63 = .ok (.iconst 2, 1) := by decide +kernel
theorem dX6_ways_64 : decode cX6_ways 64 = .ok (.iload_n 3, 1) := by decide +kernel
theorem dX6_ways_65 : decode cX6_ways 65 = .ok (.invokevirtual 184, 3) := by decide +kernel
theorem dX6_ways_68 : decode cX6_ways 68 = .ok (.iadd, 1) := by decide +kernel
theorem dX6_ways_69 : decode cX6_ways 69 = .ok (.ifCond .le 7, 3) := by decide +kernel
theorem dX6_ways_72 : decode cX6_ways 72 = .ok (.iconst 1, 1) := by decide +kernel
theorem dX6_ways_73 : decode cX6_ways 73 = .ok (.goto 4, 3) := by decide +kernel
theorem dX6_ways_76 : decode cX6_ways 76 = .ok (.iconst 0, 1) := by decide +kernel
theorem dX6_ways_77 : decode cX6_ways 77 = .ok (.istore 4, 2) := by decide +kernel
theorem dX6_ways_79 : decode cX6_ways 79 = .ok (.aload_n 0, 1) := by decide +kernel
theorem dX6_ways_80 : decode cX6_ways 80 = .ok (.getfield 36, 3) := by decide +kernel
theorem dX6_ways_83 : decode cX6_ways 83 = .ok (.iconst 0, 1) := by decide +kernel
theorem dX6_ways_84 : decode cX6_ways 84 = .ok (.iaload, 1) := by decide +kernel
theorem dX6_ways_85 : decode cX6_ways 85 = .ok (.iload_n 3, 1) := by decide +kernel
theorem dX6_ways_86 : decode cX6_ways 86 = .ok (.invokestatic 145, 3) := by decide +kernel
theorem dX6_ways_89 : decode cX6_ways 89 = .ok (.ifCond .eq 28, 3) := by decide +kernel
theorem dX6_ways_92 : decode cX6_ways 92 = .ok (.iload 4, 2) := by decide +kernel
theorem dX6_ways_94 : decode cX6_ways 94 = .ok (.ifCond .eq 23, 3) := by decide +kernel
theorem dX6_ways_97 : decode cX6_ways 97 = .ok (.aload_n 0, 1) := by decide +kernel
theorem dX6_ways_98 : decode cX6_ways 98 = .ok (.getfield 85, 3) := by decide +kernel
theorem dX6_ways_101 : decode cX6_ways 101 = .ok (.bipush 8, 2) := by decide +kernel
theorem dX6_ways_103 : decode cX6_ways 103 = .ok (.iload_n 1, 1) := by decide +kernel
theorem dX6_ways_104 : decode cX6_ways 104 = .ok (.iconst 1, 1) := by decide +kernel
theorem dX6_ways_105 : decode cX6_ways 105 = .ok (.isub, 1) := by decide +kernel
theorem dX6_ways_106 : decode cX6_ways 106 = .ok (.imul, 1) := by decide +kernel
theorem dX6_ways_107 : decode cX6_ways 107 = .ok (.iload_n 3, 1) := by decide +kernel
theorem dX6_ways_108 : decode cX6_ways 108 = .ok (.iadd, 1) := by decide +kernel
theorem dX6_ways_109 : decode cX6_ways 109 = .ok (.iaload, 1) := by decide +kernel
theorem dX6_ways_110 : decode cX6_ways 110 = .ok (.ifCond .le 7, 3) := by decide +kernel
theorem dX6_ways_113 : decode cX6_ways 113 = .ok (.iload_n 3, 1) := by decide +kernel
theorem dX6_ways_114 : decode cX6_ways 114 = .ok (.goto 4, 3) := by decide +kernel
theorem dX6_ways_117 : decode cX6_ways 117 = .ok (.iload_n 2, 1) := by decide +kernel
theorem dX6_ways_118 : decode cX6_ways 118 = .ok (.istore_n 2, 1) := by decide +kernel
theorem dX6_ways_119 : decode cX6_ways 119 = .ok (.iinc 3 (-1), 3) := by decide +kernel
theorem dX6_ways_122 : decode cX6_ways 122 = .ok (.goto (-84), 3) := by decide +kernel
theorem dX6_ways_125 : decode cX6_ways 125 = .ok (.aload_n 0, 1) := by decide +kernel
theorem dX6_ways_126 : decode cX6_ways 126 = .ok (.iload_n 2, 1) := by decide +kernel
theorem dX6_ways_127 : decode cX6_ways 127 = .ok (.aload_n 0, 1) := by decide +kernel
theorem dX6_ways_128 : decode cX6_ways 128 = .ok (.getfield 85, 3) := by decide +kernel
theorem dX6_ways_131 : decode cX6_ways 131 = .ok (.bipush 8, 2) := by decide +kernel
theorem dX6_ways_133 : decode cX6_ways 133 = .ok (.iload_n 1, 1) := by decide +kernel
theorem dX6_ways_134 : decode cX6_ways 134 = .ok (.imul, 1) := by decide +kernel
theorem dX6_ways_135 : decode cX6_ways 135 = .ok (.iaload, 1) := by decide +kernel
theorem dX6_ways_136 : decode cX6_ways 136 = .ok (.invokevirtual 114, 3) := by decide +kernel
theorem dX6_ways_139 : decode cX6_ways 139 = .ok (.ireturn, 1) := by decide +kernel
theorem dX6_sure_0 : decode cX6_sure 0 = .ok (.iload_n 1, 1) := by decide +kernel
theorem dX6_sure_1 : decode cX6_sure 1 = .ok (.iconst 0, 1) := by decide +kernel
theorem dX6_sure_2 : decode cX6_sure 2 = .ok (.bipush 8, 2) := by decide +kernel
theorem dX6_sure_4 : decode cX6_sure 4 = .ok (.invokestatic 92, 3) := by decide +kernel
theorem dX6_sure_7 : decode cX6_sure 7 = .ok (.ifCond .ne 5, 3) := by decide +kernel
theorem dX6_sure_10 : decode cX6_sure 10 = .ok (.iconst (-1), 1) := by decide +kernel
theorem dX6_sure_11 : decode cX6_sure 11 = .ok (.ireturn, 1) := by decide +kernel
theorem dX6_sure_12 : decode cX6_sure 12 = .ok (.aload_n 0, 1) := by decide +kernel
theorem dX6_sure_13 : decode cX6_sure 13 = .ok (.getfield 167, 3) := by decide +kernel
theorem dX6_sure_16 : decode cX6_sure 16 = .ok (.ifCond .ne 6, 3) := by decide +kernel
theorem dX6_sure_19 : decode cX6_sure 19 = .ok (.bipush (-4), 2) := by decide +kernel
theorem dX6_sure_21 : decode cX6_sure 21 = .ok (.ireturn, 1) := by decide +kernel
theorem dX6_sure_22 : decode cX6_sure 22 = .ok (.aload_n 0, 1) := by decide +kernel
theorem dX6_sure_23 : decode cX6_sure 23 = .ok (.iload_n 1, 1) := by decide +kernel
theorem dX6_sure_24 : decode cX6_sure 24 = .ok (.iconst 0, 1) := by decide +kernel
theorem dX6_sure_25 : decode cX6_sure 25 = .ok (.invokevirtual 282, 3) := by decide +kernel
theorem dX6_sure_28 : decode cX6_sure 28 = .ok (.aload_n 0, 1) := by decide +kernel
theorem dX6_sure_29 : decode cX6_sure 29 = .ok (.getfield 85, 3) := by decide +kernel
theorem dX6_sure_32 : decode cX6_sure 32 = .ok (.bipush 8, 2) := by decide +kernel
theorem dX6_sure_34 : decode cX6_sure 34 = .ok (.iload_n 1, 1) := by decide +kernel
theorem dX6_sure_35 : decode cX6_sure 35 = .ok (.imul, 1) := by decide +kernel
theorem dX6_sure_36 : decode cX6_sure 36 = .ok (.iaload, 1) := by decide +kernel
theorem dX6_sure_37 : decode cX6_sure 37 = .ok (.ifCond .ne 5, 3) := by decide +kernel
theorem dX6_sure_40 : decode cX6_sure 40 = .ok (.iconst 0, 1) := by decide +kernel
theorem dX6_sure_41 : decode cX6_sure 41 = .ok (.ireturn, 1) := by decide +kernel
theorem dX6_sure_42 : decode cX6_sure 42 = .ok (.iconst 0, 1) := by decide +kernel
theorem dX6_sure_43 : decode cX6_sure 43 = .ok (.istore_n 2, 1) := by decide +kernel
theorem dX6_sure_44 : decode cX6_sure 44 = .ok (.iconst 0, 1) := by decide +kernel
theorem dX6_sure_45 : decode cX6_sure 45 = .ok (.istore_n 3, 1) := by decide +kernel
theorem dX6_sure_46 : decode cX6_sure 46 = .ok (.iload_n 3, 1) := by decide +kernel
theorem dX6_sure_47 : decode cX6_sure 47 = .ok (.aload_n 0, 1) := by decide +kernel
theorem dX6_sure_48 : decode cX6_sure 48 = .ok (.getfield 167, 3) := by decide +kernel
theorem dX6_sure_51 : decode cX6_sure 51 = .ok (.if_icmp .ge 39, 3) := by decide +kernel
theorem dX6_sure_54 : decode cX6_sure 54 = .ok (.aload_n 0, 1) := by decide +kernel
theorem dX6_sure_55 : decode cX6_sure 55 = .ok (.iload_n 1, 1) := by decide +kernel
theorem dX6_sure_56 : decode cX6_sure 56 = .ok (.iconst 1, 1) := by decide +kernel
theorem dX6_sure_57 : decode cX6_sure 57 = .ok (.iload_n 3, 1) := by decide +kernel
theorem dX6_sure_58 : decode cX6_sure 58 = .ok (.ishl, 1) := by decide +kernel
theorem dX6_sure_59 : decode cX6_sure 59 = .ok (.invokevirtual 282, 3) := by decide +kernel
theorem dX6_sure_62 : decode cX6_sure 62 = .ok (.iload_n 2, 1) := by decide +kernel
theorem dX6_sure_63 : decode cX6_sure 63 = .ok (.aload_n 0, 1) := by decide +kernel
theorem dX6_sure_64 : decode cX6_sure 64 = .ok (.getfield 85, 3) := by decide +kernel
theorem dX6_sure_67 : decode cX6_sure 67 = .ok (.bipush 8, 2) := by decide +kernel
theorem dX6_sure_69 : decode cX6_sure 69 = .ok (.iload_n 1, 1) := by decide +kernel
theorem dX6_sure_70 : decode cX6_sure 70 = .ok (.imul, 1) := by decide +kernel
theorem dX6_sure_71 : decode cX6_sure 71 = .ok (.iaload, 1) := by decide +kernel
theorem dX6_sure_72 : decode cX6_sure 72 = .ok (.ifCond .ne 9, 3) := by decide +kernel
theorem dX6_sure_75 : decode cX6_sure 75 = .ok (.iconst 1, 1) := by decide +kernel
theorem dX6_sure_76 : decode cX6_sure 76 = .ok (.iload_n 3, 1) := by decide +kernel
theorem dX6_sure_77 : decode cX6_sure 77 = .ok (.ishl, 1) := by decide +kernel
theorem dX6_sure_78 : decode cX6_sure 78 = .ok (.goto 4, 3) := by decide +kernel
theorem dX6_sure_81 : decode cX6_sure 81 = .ok (.iconst 0, 1) := by decide +kernel
theorem dX6_sure_82 : decode cX6_sure 82 = .ok (.ior, 1) := by decide +kernel
theorem dX6_sure_83 : decode cX6_sure 83 = .ok (.istore_n 2, 1) := by decide +kernel
theorem dX6_sure_84 : decode cX6_sure 84 = .ok (.iinc 3 1, 3) := by decide +kernel
theorem dX6_sure_87 : decode cX6_sure 87 = .ok (.goto (-41), 3) := by decide +kernel
theorem dX6_sure_90 : decode cX6_sure 90 = .ok (.iload_n 2, 1) := by decide +kernel
theorem dX6_sure_91 : decode cX6_sure 91 = .ok (.ireturn, 1) := by decide +kernel
theorem dX6_was_0 : decode cX6_was 0 = .ok (.iload_n 1, 1) := by decide +kernel
theorem dX6_was_1 : decode cX6_was 1 = .ok (.iconst 0, 1) := by decide +kernel
theorem dX6_was_2 : decode cX6_was 2 = .ok (.aload_n 0, 1) := by decide +kernel
theorem dX6_was_3 : decode cX6_was 3 = .ok (.getfield 170, 3) := by decide +kernel
theorem dX6_was_6 : decode cX6_was 6 = .ok (.iconst 1, 1) := by decide +kernel
theorem dX6_was_7 : decode cX6_was 7 = .ok (.isub, 1) := by decide +kernel
theorem dX6_was_8 : decode cX6_was 8 = .ok (.invokestatic 92, 3) := by decide +kernel
theorem dX6_was_11 : decode cX6_was 11 = .ok (.ifCond .eq 13, 3) := by decide +kernel
theorem dX6_was_14 : decode cX6_was 14 = .ok (.iload_n 2, 1) := by decide +kernel
theorem dX6_was_15 : decode cX6_was 15 = .ok (.iconst 0, 1) := by decide +kernel
theorem dX6_was_16 : decode cX6_was 16 = .ok (.bipush 40, 2) := by decide +kernel
theorem dX6_was_18 : decode cX6_was 18 = .ok (.invokestatic 92, 3) := by decide +kernel
theorem dX6_was_21 : decode cX6_was 21 = .ok (.ifCond .ne 5, 3) := by decide +kernel
theorem dX6_was_24 : decode cX6_was 24 = .ok (.iconst (-1), 1) := by decide +kernel
theorem dX6_was_25 : decode cX6_was 25 = .ok (.ireturn, 1) := by decide +kernel
theorem dX6_was_26 : decode cX6_was 26 = .ok (.iconst 0, 1) := by decide +kernel
theorem dX6_was_27 : decode cX6_was 27 = .ok (.istore_n 3, 1) := by decide +kernel
theorem dX6_was_28 : decode cX6_was 28 = .ok (.iconst 0, 1) := by decide +kernel
theorem dX6_was_29 : decode cX6_was 29 = .ok (.istore 4, 2) := by decide +kernel
theorem dX6_was_31 : decode cX6_was 31 = .ok (.iload 4, 2) := by decide +kernel
theorem dX6_was_33 : decode cX6_was 33 = .ok (.aload_n 0, 1) := by decide +kernel
theorem dX6_was_34 : decode cX6_was 34 = .ok (.getfield 167, 3) := by decide +kernel
theorem dX6_was_37 : decode cX6_was 37 = .ok (.if_icmp .ge 60, 3) := by decide +kernel
theorem dX6_was_40 : decode cX6_was 40 = .ok (.iload 4, 2) := by decide +kernel
theorem dX6_was_42 : decode cX6_was 42 = .ok (.istore 5, 2) := by decide +kernel
theorem dX6_was_44 : decode cX6_was 44 = .ok (.iconst 0, 1) := by decide +kernel
theorem dX6_was_45 : decode cX6_was 45 = .ok (.istore 6, 2) := by decide +kernel
theorem dX6_was_47 : decode cX6_was 47 = .ok (.iload 6, 2) := by decide +kernel
theorem dX6_was_49 : decode cX6_was 49 = .ok (.iload_n 2, 1) := by decide +kernel
theorem dX6_was_50 : decode cX6_was 50 = .ok (.if_icmp .ge 17, 3) := by decide +kernel
theorem dX6_was_53 : decode cX6_was 53 = .ok (.aload_n 0, 1) := by decide +kernel
theorem dX6_was_54 : decode cX6_was 54 = .ok (.iload 5, 2) := by decide +kernel
theorem dX6_was_56 : decode cX6_was 56 = .ok (.invokevirtual 202, 3) := by decide +kernel
theorem dX6_was_59 : decode cX6_was 59 = .ok (.istore 5, 2) := by decide +kernel
theorem dX6_was_61 : decode cX6_was 61 = .ok (.iinc 6 1, 3) := by decide +kernel
theorem dX6_was_64 : decode cX6_was 64 = .ok (.goto (-17), 3) := by decide +kernel
theorem dX6_was_67 : decode cX6_was 67 = .ok (.iload_n 3, 1) := by decide +kernel
theorem dX6_was_68 : decode cX6_was 68 = .ok (.iload 5, 2) := by decide +kernel
theorem dX6_was_70 : decode cX6_was 70 = .ok (.aload_n 0, 1) := by decide +kernel
theorem dX6_was_71 : decode cX6_was 71 = .ok (.iconst 0, 1) := by decide +kernel
theorem dX6_was_72 : decode cX6_was 72 = .ok (.bipush 32, 2) := by decide +kernel
theorem dX6_was_74 : decode cX6_was 74 = .ok (.iload_n 1, 1) := by decide +kernel
theorem dX6_was_75 : decode cX6_was 75 = .ok (.invokevirtual 180, 3) := by decide +kernel
theorem dX6_was_78 : decode cX6_was 78 = .ok (.if_icmp .ne 10, 3) := by decide +kernel
theorem dX6_was_81 : decode cX6_was 81 = .ok (.iconst 1, 1) := by decide +kernel
theorem dX6_was_82 : decode cX6_was 82 = .ok (.iload 4, 2) := by decide +kernel
theorem dX6_was_84 : decode cX6_was 84 = .ok (.ishl, 1) := by decide +kernel
theorem dX6_was_85 : decode cX6_was 85 = .ok (.goto 4, 3) := by decide +kernel
theorem dX6_was_88 : decode cX6_was 88 = .ok (.iconst 0, 1) := by decide +kernel
theorem dX6_was_89 : decode cX6_was 89 = .ok (.ior, 1) := by decide +kernel
theorem dX6_was_90 : decode cX6_was 90 = .ok (.istore_n 3, 1) := by decide +kernel
theorem dX6_was_91 : decode cX6_was 91 = .ok (.iinc 4 1, 3) := by decide +kernel
theorem dX6_was_94 : decode cX6_was 94 = .ok (.goto (-63), 3) := by decide +kernel
theorem dX6_was_97 : decode cX6_was 97 = .ok (.iload_n 3, 1) := by decide +kernel
theorem dX6_was_98 : decode cX6_was 98 = .ok (.ireturn, 1) := by decide +kernel
theorem dX6_bare_0 : decode cX6_bare 0 = .ok (.aload_n 0, 1) := by decide +kernel
theorem dX6_bare_1 : decode cX6_bare 1 = .ok (.getfield 167, 3) := by decide +kernel
theorem dX6_bare_4 : decode cX6_bare 4 = .ok (.ifCond .ne 6, 3) := by decide +kernel
theorem dX6_bare_7 : decode cX6_bare 7 = .ok (.bipush (-4), 2) := by decide +kernel
theorem dX6_bare_9 : decode cX6_bare 9 = .ok (.ireturn, 1) := by decide +kernel
theorem dX6_bare_10 : decode cX6_bare 10 = .ok (.aload_n 0, 1) := by decide +kernel
theorem dX6_bare_11 : decode cX6_bare 11 = .ok (.iconst 0, 1) := by decide +kernel
theorem dX6_bare_12 : decode cX6_bare 12 = .ok (.iconst 1, 1) := by decide +kernel
theorem dX6_bare_13 : decode cX6_bare 13 = .ok (.invokevirtual 247, 3) := by decide +kernel
theorem dX6_bare_16 : decode cX6_bare 16 = .ok (.iconst 0, 1) := by decide +kernel
theorem dX6_bare_17 : decode cX6_bare 17 = .ok (.istore_n 1, 1) := by decide +kernel
theorem dX6_bare_18 : decode cX6_bare 18 = .ok (.iload_n 1, 1) := by decide +kernel
theorem dX6_bare_19 : decode cX6_bare 19 = .ok (.bipush 60, 2) := by decide +kernel
theorem dX6_bare_21 : decode cX6_bare 21 = .ok (.if_icmp .gt 33, 3) := by decide +kernel
theorem dX6_bare_24 : decode cX6_bare 24 = .ok (.aload_n 0, 1) := by decide +kernel
theorem dX6_bare_25 : decode cX6_bare 25 = .ok (.iconst 1, 1) := by decide +kernel
theorem dX6_bare_26 : decode cX6_bare 26 = .ok (.iconst 1, 1) := by decide +kernel
theorem dX6_bare_27 : decode cX6_bare 27 = .ok (.aload_n 0, 1) := by decide +kernel
theorem dX6_bare_28 : decode cX6_bare 28 = .ok (.getfield 167, 3) := by decide +kernel
theorem dX6_bare_31 : decode cX6_bare 31 = .ok (.ishl, 1) := by decide +kernel
theorem dX6_bare_32 : decode cX6_bare 32 = .ok (.iconst 1, 1) := by decide +kernel
theorem dX6_bare_33 : decode cX6_bare 33 = .ok (.isub, 1) := by decide +kernel
theorem dX6_bare_34 : decode cX6_bare 34 = .ok (.invokevirtual 199, 3) := by decide +kernel
theorem dX6_bare_37 : decode cX6_bare 37 = .ok (.ifCond .ne 5, 3) := by decide +kernel
theorem dX6_bare_40 : decode cX6_bare 40 = .ok (.iload_n 1, 1) := by decide +kernel
theorem dX6_bare_41 : decode cX6_bare 41 = .ok (.ireturn, 1) := by decide +kernel
theorem dX6_bare_42 : decode cX6_bare 42 = .ok (.aload_n 0, 1) := by decide +kernel
theorem dX6_bare_43 : decode cX6_bare 43 = .ok (.iconst 1, 1) := by decide +kernel
theorem dX6_bare_44 : decode cX6_bare 44 = .ok (.invokevirtual 205, 3) := by decide +kernel
theorem dX6_bare_47 : decode cX6_bare 47 = .ok (.pop, 1) := by decide +kernel
theorem dX6_bare_48 : decode cX6_bare 48 = .ok (.iinc 1 1, 3) := by decide +kernel
theorem dX6_bare_51 : decode cX6_bare 51 = .ok (.goto (-33), 3) := by decide +kernel
theorem dX6_bare_54 : decode cX6_bare 54 = .ok (.bipush (-9), 2) := by decide +kernel
theorem dX6_bare_56 : decode cX6_bare 56 = .ok (.ireturn, 1) := by decide +kernel
theorem dX6_lots_0 : decode cX6_lots 0 = .ok (.iload_n 1, 1) := by decide +kernel
theorem dX6_lots_1 : decode cX6_lots 1 = .ok (.iconst 1, 1) := by decide +kernel
theorem dX6_lots_2 : decode cX6_lots 2 = .ok (.bipush 20, 2) := by decide +kernel
theorem dX6_lots_4 : decode cX6_lots 4 = .ok (.invokestatic 92, 3) := by decide +kernel
theorem dX6_lots_7 : decode cX6_lots 7 = .ok (.ifCond .eq 14, 3) := by decide +kernel
theorem dX6_lots_10 : decode cX6_lots 10 = .ok (.iload_n 2, 1) := by decide +kernel
theorem dX6_lots_11 : decode cX6_lots 11 = .ok (.iconst 1, 1) := by decide +kernel
theorem dX6_lots_12 : decode cX6_lots 12 = .ok (.ldc_w 285, 3) := by decide +kernel
theorem dX6_lots_15 : decode cX6_lots 15 = .ok (.invokestatic 92, 3) := by decide +kernel
theorem dX6_lots_18 : decode cX6_lots 18 = .ok (.ifCond .ne 5, 3) := by decide +kernel
theorem dX6_lots_21 : decode cX6_lots 21 = .ok (.iconst (-1), 1) := by decide +kernel
theorem dX6_lots_22 : decode cX6_lots 22 = .ok (.ireturn, 1) := by decide +kernel
theorem dX6_lots_23 : decode cX6_lots 23 = .ok (.aload_n 0, 1) := by decide +kernel
theorem dX6_lots_24 : decode cX6_lots 24 = .ok (.getfield 167, 3) := by decide +kernel
theorem dX6_lots_27 : decode cX6_lots 27 = .ok (.ifCond .ne 6, 3) := by decide +kernel
theorem dX6_lots_30 : decode cX6_lots 30 = .ok (.bipush (-4), 2) := by decide +kernel
theorem dX6_lots_32 : decode cX6_lots 32 = .ok (.ireturn, 1) := by decide +kernel
theorem dX6_lots_33 : decode cX6_lots 33 = .ok (.aload_n 0, 1) := by decide +kernel
theorem dX6_lots_34 : decode cX6_lots 34 = .ok (.getfield 177, 3) := by decide +kernel
theorem dX6_lots_37 : decode cX6_lots 37 = .ok (.iload_n 1, 1) := by decide +kernel
theorem dX6_lots_38 : decode cX6_lots 38 = .ok (.iadd, 1) := by decide +kernel
theorem dX6_lots_39 : decode cX6_lots 39 = .ok (.bipush 30, 2) := by decide +kernel
theorem dX6_lots_41 : decode cX6_lots 41 = .ok (.if_icmp .le 6, 3) := by decide +kernel
theorem dX6_lots_44 : decode cX6_lots 44 = .ok (.bipush (-2), 2) := by decide +kernel
theorem dX6_lots_46 : decode cX6_lots 46 = .ok (.ireturn, 1) := by decide +kernel
theorem dX6_lots_47 : decode cX6_lots 47 = .ok (.iload_n 2, 1) := by decide +kernel
theorem dX6_lots_48 : decode cX6_lots 48 = .ok (.i2l, 1) := by decide +kernel
theorem dX6_lots_49 : decode cX6_lots 49 = .ok (.lstore_n 3, 1) := by decide +kernel
theorem dX6_lots_50 : decode cX6_lots 50 = .ok (.iconst 0, 1) := by decide +kernel
theorem dX6_lots_51 : decode cX6_lots 51 = .ok (.istore 5, 2) := by decide +kernel
theorem dX6_lots_53 : decode cX6_lots 53 = .ok (.iload 5, 2) := by decide +kernel
theorem dX6_lots_55 : decode cX6_lots 55 = .ok (.iload_n 1, 1) := by decide +kernel
theorem dX6_lots_56 : decode cX6_lots 56 = .ok (.if_icmp .ge 149, 3) := by decide +kernel
theorem dX6_lots_59 : decode cX6_lots 59 = .ok (.aload_n 0, 1) := by decide +kernel
theorem dX6_lots_60 : decode cX6_lots 60 = .ok (.getfield 36, 3) := by decide +kernel
theorem dX6_lots_63 : decode cX6_lots 63 = .ok (.aload_n 0, 1) := by decide +kernel
theorem dX6_lots_64 : decode cX6_lots 64 = .ok (.invokevirtual 223, 3) := by decide +kernel
theorem dX6_lots_67 : decode cX6_lots 67 = .ok (.iaload, 1) := by decide +kernel
theorem dX6_lots_68 : decode cX6_lots 68 = .ok (.ifCond .eq 137, 3) := by decide +kernel
theorem dX6_lots_71 : decode cX6_lots 71 = .ok (.ldc2_w 286, 3) := by decide +kernel
theorem dX6_lots_74 : decode cX6_lots 74 = .ok (.lload_n 3, 1) := by decide +kernel
theorem dX6_lots_75 : decode cX6_lots 75 = .ok (.lmul, 1) := by decide +kernel
theorem dX6_lots_76 : decode cX6_lots 76 = .ok (.ldc2_w 288, 3) := by decide +kernel
theorem dX6_lots_79 : decode cX6_lots 79 = .ok (.lrem, 1) := by decide +kernel
theorem dX6_lots_80 : decode cX6_lots 80 = .ok (.lstore_n 3, 1) := by decide +kernel
theorem dX6_lots_81 : decode cX6_lots 81 = .ok (.aload_n 0, 1) := by decide +kernel
theorem dX6_lots_82 : decode cX6_lots 82 = .ok (.getfield 36, 3) := by decide +kernel
theorem dX6_lots_85 : decode cX6_lots 85 = .ok (.aload_n 0, 1) := by decide +kernel
theorem dX6_lots_86 : decode cX6_lots 86 = .ok (.invokevirtual 223, 3) := by decide +kernel
theorem dX6_lots_89 : decode cX6_lots 89 = .ok (.iaload, 1) := by decide +kernel
theorem dX6_lots_90 : decode cX6_lots 90 = .ok (.istore 6, 2) := by decide +kernel
theorem dX6_lots_92 : decode cX6_lots 92 = .ok (.lload_n 3, 1) := by decide +kernel
theorem dX6_lots_93 : decode cX6_lots 93 = .ok (.iload 6, 2) := by decide +kernel
theorem dX6_lots_95 : decode cX6_lots 95 = .ok (.invokestatic 257, 3) := by decide +kernel
theorem dX6_lots_98 : decode cX6_lots 98 = .ok (.i2l, 1) := by decide +kernel
theorem dX6_lots_99 : decode cX6_lots 99 = .ok (.lrem, 1) := by decide +kernel
theorem dX6_lots_100 : decode cX6_lots 100 = .ok (.l2i, 1) := by decide +kernel
theorem dX6_lots_101 : decode cX6_lots 101 = .ok (.istore 7, 2) := by decide +kernel
theorem dX6_lots_103 : decode cX6_lots 103 = .ok (.iconst 0, 1) := by decide +kernel
theorem dX6_lots_104 : decode cX6_lots 104 = .ok (.istore 8, 2) := by decide +kernel
theorem dX6_lots_106 : decode cX6_lots 106 = .ok (.iload 6, 2) := by decide +kernel
theorem dX6_lots_108 : decode cX6_lots 108 = .ok (.iload 8, 2) := by decide +kernel
theorem dX6_lots_110 : decode cX6_lots 110 = .ok (.invokestatic 145, 3) := by decide +kernel
theorem dX6_lots_113 : decode cX6_lots 113 = .ok (.ifCond .eq 8, 3) := by decide +kernel
theorem dX6_lots_116 : decode cX6_lots 116 = .ok (.iload 7, 2) := by decide +kernel
theorem dX6_lots_118 : decode cX6_lots 118 = .ok (.ifCond .le 29, 3) := by decide +kernel
theorem dX6_lots_121 : decode cX6_lots 121 = .ok (.iload 7, 2) := by decide +kernel
theorem dX6_lots_123 : decode cX6_lots 123 = .ok (.iload 6, 2) := by decide +kernel
theorem dX6_lots_125 : decode cX6_lots 125 = .ok (.iload 8, 2) := by decide +kernel
theorem dX6_lots_127 : decode cX6_lots 127 = .ok (.invokestatic 145, 3) := by decide +kernel
theorem dX6_lots_130 : decode cX6_lots 130 = .ok (.ifCond .eq 7, 3) := by decide +kernel
theorem dX6_lots_133 : decode cX6_lots 133 = .ok (.iconst 1, 1) := by decide +kernel
theorem dX6_lots_134 : decode cX6_lots 134 = .ok (.goto 4, 3) := by decide +kernel
theorem dX6_lots_137 : decode cX6_lots 137 = .ok (.iconst 0, 1) := by decide +kernel
theorem dX6_lots_138 : decode cX6_lots 138 = .ok (.isub, 1) := by decide +kernel
theorem dX6_lots_139 : decode cX6_lots 139 = .ok (.istore 7, 2) := by decide +kernel
theorem dX6_lots_141 : decode cX6_lots 141 = .ok (.iinc 8 1, 3) := by decide +kernel
theorem dX6_lots_144 : decode cX6_lots 144 = .ok (.goto (-38), 3) := by decide +kernel
theorem dX6_lots_147 : decode cX6_lots 147 = .ok (.aload_n 0, 1) := by decide +kernel
theorem dX6_lots_148 : decode cX6_lots 148 = .ok (.dup, 1) := by decide +kernel
theorem dX6_lots_149 : decode cX6_lots 149 = .ok (.getfield 177, 3) := by decide +kernel
theorem dX6_lots_152 : decode cX6_lots 152 = .ok (.iconst 1, 1) := by decide +kernel
theorem dX6_lots_153 : decode cX6_lots 153 = .ok (.iadd, 1) := by decide +kernel
theorem dX6_lots_154 : decode cX6_lots 154 = .ok (.putfield 177, 3) := by decide +kernel
theorem dX6_lots_157 : decode cX6_lots 157 = .ok (.aload_n 0, 1) := by decide +kernel
theorem dX6_lots_158 : decode cX6_lots 158 = .ok (.getfield 54, 3) := by decide +kernel
theorem dX6_lots_161 : decode cX6_lots 161 = .ok (.aload_n 0, 1) := by decide +kernel
theorem dX6_lots_162 : decode cX6_lots 162 = .ok (.getfield 177, 3) := by decide +kernel
theorem dX6_lots_165 : decode cX6_lots 165 = .ok (.iload 8, 2) := by decide +kernel
theorem dX6_lots_167 : decode cX6_lots 167 = .ok (.iastore, 1) := by decide +kernel
theorem dX6_lots_168 : decode cX6_lots 168 = .ok (.iinc 5 1, 3) := by decide +kernel
theorem dX6_lots_171 : decode cX6_lots 171 = .ok (.lload_n 3, 1) := by decide +kernel
theorem dX6_lots_172 : decode cX6_lots 172 = .ok (.ldc2_w 290, 3) := by decide +kernel
theorem dX6_lots_175 : decode cX6_lots 175 = .ok (.ldiv, 1) := by decide +kernel
theorem dX6_lots_176 : decode cX6_lots 176 = .ok (.ldc2_w 292, 3) := by decide +kernel
theorem dX6_lots_179 : decode cX6_lots 179 = .ok (.lrem, 1) := by decide +kernel
theorem dX6_lots_180 : decode cX6_lots 180 = .ok (.lconst 1, 1) := by decide +kernel
theorem dX6_lots_181 : decode cX6_lots 181 = .ok (.lcmp, 1) := by decide +kernel
theorem dX6_lots_182 : decode cX6_lots 182 = .ok (.ifCond .ne 20, 3) := by decide +kernel
theorem dX6_lots_185 : decode cX6_lots 185 = .ok (.aload_n 0, 1) := by decide +kernel
theorem dX6_lots_186 : decode cX6_lots 186 = .ok (.iconst 0, 1) := by decide +kernel
theorem dX6_lots_187 : decode cX6_lots 187 = .ok (.bipush 36, 2) := by decide +kernel
theorem dX6_lots_189 : decode cX6_lots 189 = .ok (.iconst 0, 1) := by decide +kernel
theorem dX6_lots_190 : decode cX6_lots 190 = .ok (.invokevirtual 180, 3) := by decide +kernel
theorem dX6_lots_193 : decode cX6_lots 193 = .ok (.ifCond .le 9, 3) := by decide +kernel
theorem dX6_lots_196 : decode cX6_lots 196 = .ok (.aload_n 0, 1) := by decide +kernel
theorem dX6_lots_197 : decode cX6_lots 197 = .ok (.iconst 0, 1) := by decide +kernel
theorem dX6_lots_198 : decode cX6_lots 198 = .ok (.invokevirtual 294, 3) := by decide +kernel
theorem dX6_lots_201 : decode cX6_lots 201 = .ok (.pop, 1) := by decide +kernel
theorem dX6_lots_202 : decode cX6_lots 202 = .ok (.goto (-149), 3) := by decide +kernel
theorem dX6_lots_205 : decode cX6_lots 205 = .ok (.iload 5, 2) := by decide +kernel
theorem dX6_lots_207 : decode cX6_lots 207 = .ok (.ireturn, 1) := by decide +kernel
theorem dX6_pathMany_0 : decode cX6_pathMany 0 = .ok (.iconst 0, 1) := by decide +kernel
theorem dX6_pathMany_1 : decode cX6_pathMany 1 = .ok (.istore_n 1, 1) := by decide +kernel
theorem dX6_pathMany_2 : decode cX6_pathMany 2 = .ok (.iconst 0, 1) := by decide +kernel
theorem dX6_pathMany_3 : decode cX6_pathMany 3 = .ok (.istore_n 2, 1) := by decide +kernel
theorem dX6_pathMany_4 : decode cX6_pathMany 4 = .ok (.iload_n 2, 1) := by decide +kernel
theorem dX6_pathMany_5 : decode cX6_pathMany 5 = .ok (.aload_n 0, 1) := by decide +kernel
theorem dX6_pathMany_6 : decode cX6_pathMany 6 = .ok (.getfield 167, 3) := by decide +kernel
theorem dX6_pathMany_9 : decode cX6_pathMany 9 = .ok (.if_icmp .ge 21, 3) := by decide +kernel
theorem dX6_pathMany_12 : decode cX6_pathMany 12 = .ok (.iload_n 1, 1) := by decide +kernel
theorem dX6_pathMany_13 : decode cX6_pathMany 13 = .ok (.aload_n 0, 1) := by decide +kernel
theorem dX6_pathMany_14 : decode cX6_pathMany 14 = .ok (.getfield 36, 3) := by decide +kernel
theorem dX6_pathMany_17 : decode cX6_pathMany 17 = .ok (.iload_n 2, 1) := by decide +kernel
theorem dX6_pathMany_18 : decode cX6_pathMany 18 = .ok (.iaload, 1) := by decide +kernel
theorem dX6_pathMany_19 : decode cX6_pathMany 19 = .ok (.invokestatic 257, 3) := by decide +kernel
theorem dX6_pathMany_22 : decode cX6_pathMany 22 = .ok (.iadd, 1) := by decide +kernel
theorem dX6_pathMany_23 : decode cX6_pathMany 23 = .ok (.istore_n 1, 1) := by decide +kernel
theorem dX6_pathMany_24 : decode cX6_pathMany 24 = .ok (.iinc 2 1, 3) := by decide +kernel
theorem dX6_pathMany_27 : decode cX6_pathMany 27 = .ok (.goto (-23), 3) := by decide +kernel
theorem dX6_pathMany_30 : decode cX6_pathMany 30 = .ok (.iload_n 1, 1) := by decide +kernel
theorem dX6_pathMany_31 : decode cX6_pathMany 31 = .ok (.iconst 2, 1) := by decide +kernel
theorem dX6_pathMany_32 : decode cX6_pathMany 32 = .ok (.idiv, 1) := by decide +kernel
theorem dX6_pathMany_33 : decode cX6_pathMany 33 = .ok (.ireturn, 1) := by decide +kernel
theorem dX6_lying_0 : decode cX6_lying 0 = .ok (.iconst 0, 1) := by decide +kernel
theorem dX6_lying_1 : decode cX6_lying 1 = .ok (.istore_n 2, 1) := by decide +kernel
theorem dX6_lying_2 : decode cX6_lying 2 = .ok (.iconst 0, 1) := by decide +kernel
theorem dX6_lying_3 : decode cX6_lying 3 = .ok (.istore_n 3, 1) := by decide +kernel
theorem dX6_lying_4 : decode cX6_lying 4 = .ok (.iload_n 3, 1) := by decide +kernel
theorem dX6_lying_5 : decode cX6_lying 5 = .ok (.aload_n 0, 1) := by decide +kernel
theorem dX6_lying_6 : decode cX6_lying 6 = .ok (.getfield 167, 3) := by decide +kernel
theorem dX6_lying_9 : decode cX6_lying 9 = .ok (.if_icmp .ge 19, 3) := by decide +kernel
theorem dX6_lying_12 : decode cX6_lying 12 = .ok (.iload_n 2, 1) := by decide +kernel
theorem dX6_lying_13 : decode cX6_lying 13 = .ok (.aload_n 0, 1) := by decide +kernel
theorem dX6_lying_14 : decode cX6_lying 14 = .ok (.iconst 0, 1) := by decide +kernel
theorem dX6_lying_15 : decode cX6_lying 15 = .ok (.iload_n 1, 1) := by decide +kernel
theorem dX6_lying_16 : decode cX6_lying 16 = .ok (.iload_n 3, 1) := by decide +kernel
theorem dX6_lying_17 : decode cX6_lying 17 = .ok (.invokevirtual 184, 3) := by decide +kernel
theorem dX6_lying_20 : decode cX6_lying 20 = .ok (.iadd, 1) := by decide +kernel
theorem dX6_lying_21 : decode cX6_lying 21 = .ok (.istore_n 2, 1) := by decide +kernel
theorem dX6_lying_22 : decode cX6_lying 22 = .ok (.iinc 3 1, 3) := by decide +kernel
theorem dX6_lying_25 : decode cX6_lying 25 = .ok (.goto (-21), 3) := by decide +kernel
theorem dX6_lying_28 : decode cX6_lying 28 = .ok (.iload_n 2, 1) := by decide +kernel
theorem dX6_lying_29 : decode cX6_lying 29 = .ok (.ireturn, 1) := by decide +kernel
theorem dX6_counted_0 : decode cX6_counted 0 = .ok (.iconst 0, 1) := by decide +kernel
theorem dX6_counted_1 : decode cX6_counted 1 = .ok (.istore_n 2, 1) := by decide +kernel
theorem dX6_counted_2 : decode cX6_counted 2 = .ok (.iconst 0, 1) := by decide +kernel
theorem dX6_counted_3 : decode cX6_counted 3 = .ok (.istore_n 3, 1) := by decide +kernel
theorem dX6_counted_4 : decode cX6_counted 4 = .ok (.iload_n 3, 1) := by decide +kernel
theorem dX6_counted_5 : decode cX6_counted 5 = .ok (.bipush 6, 2) := by decide +kernel
theorem dX6_counted_7 : decode cX6_counted 7 = .ok (.if_icmp .ge 32, 3) := by decide +kernel
theorem dX6_counted_10 : decode cX6_counted 10 = .ok (.iload_n 2, 1) := by decide +kernel
theorem dX6_counted_11 : decode cX6_counted 11 = .ok (.iload_n 1, 1) := by decide +kernel
theorem dX6_counted_12 : decode cX6_counted 12 = .ok (.bipush 7, 2) := by decide +kernel
theorem dX6_counted_14 : decode cX6_counted 14 = .ok (.if_icmp .ne 16, 3) := by decide +kernel
theorem dX6_counted_17 : decode cX6_counted 17 = .ok (.aload_n 0, 1) := by decide +kernel
theorem dX6_counted_18 : decode cX6_counted 18 = .ok (.getfield 17, 3) := by decide +kernel
theorem dX6_counted_21 : decode cX6_counted 21 = .ok (.iload_n 3, 1) := by decide +kernel
theorem dX6_counted_22 : decode cX6_counted 22 = .ok (.iaload, 1) := by decide +kernel
theorem dX6_counted_23 : decode cX6_counted 23 = .ok (.ifCond .lt 7, 3) := by decide +kernel
theorem dX6_counted_26 : decode cX6_counted 26 = .ok (.iconst 1, 1) := by decide +kernel
theorem dX6_counted_27 : decode cX6_counted 27 = .ok (.goto 4, 3) := by decide +kernel
theorem dX6_counted_30 : decode cX6_counted 30 = .ok (.iconst 0, 1) := by decide +kernel
theorem dX6_counted_31 : decode cX6_counted 31 = .ok (.iadd, 1) := by decide +kernel
theorem dX6_counted_32 : decode cX6_counted 32 = .ok (.istore_n 2, 1) := by decide +kernel
theorem dX6_counted_33 : decode cX6_counted 33 = .ok (.iinc 3 1, 3) := by decide +kernel
theorem dX6_counted_36 : decode cX6_counted 36 = .ok (.goto (-32), 3) := by decide +kernel
theorem dX6_counted_39 : decode cX6_counted 39 = .ok (.iconst 0, 1) := by decide +kernel
theorem dX6_counted_40 : decode cX6_counted 40 = .ok (.istore_n 3, 1) := by decide +kernel
theorem dX6_counted_41 : decode cX6_counted 41 = .ok (.iload_n 3, 1) := by decide +kernel
theorem dX6_counted_42 : decode cX6_counted 42 = .ok (.iconst 4, 1) := by decide +kernel
theorem dX6_counted_43 : decode cX6_counted 43 = .ok (.if_icmp .ge 32, 3) := by decide +kernel
theorem dX6_counted_46 : decode cX6_counted 46 = .ok (.iload_n 2, 1) := by decide +kernel
theorem dX6_counted_47 : decode cX6_counted 47 = .ok (.iload_n 1, 1) := by decide +kernel
theorem dX6_counted_48 : decode cX6_counted 48 = .ok (.bipush 8, 2) := by decide +kernel
theorem dX6_counted_50 : decode cX6_counted 50 = .ok (.if_icmp .ne 16, 3) := by decide +kernel
theorem dX6_counted_53 : decode cX6_counted 53 = .ok (.aload_n 0, 1) := by decide +kernel
theorem dX6_counted_54 : decode cX6_counted 54 = .ok (.getfield 26, 3) := by decide +kernel
theorem dX6_counted_57 : decode cX6_counted 57 = .ok (.iload_n 3, 1) := by decide +kernel
theorem dX6_counted_58 : decode cX6_counted 58 = .ok (.iaload, 1) := by decide +kernel
theorem dX6_counted_59 : decode cX6_counted 59 = .ok (.ifCond .lt 7, 3) := by decide +kernel
theorem dX6_counted_62 : decode cX6_counted 62 = .ok (.iconst 1, 1) := by decide +kernel
theorem dX6_counted_63 : decode cX6_counted 63 = .ok (.goto 4, 3) := by decide +kernel
theorem dX6_counted_66 : decode cX6_counted 66 = .ok (.iconst 0, 1) := by decide +kernel
theorem dX6_counted_67 : decode cX6_counted 67 = .ok (.iadd, 1) := by decide +kernel
theorem dX6_counted_68 : decode cX6_counted 68 = .ok (.istore_n 2, 1) := by decide +kernel
theorem dX6_counted_69 : decode cX6_counted 69 = .ok (.iinc 3 1, 3) := by decide +kernel
theorem dX6_counted_72 : decode cX6_counted 72 = .ok (.goto (-31), 3) := by decide +kernel
theorem dX6_counted_75 : decode cX6_counted 75 = .ok (.iconst 0, 1) := by decide +kernel
theorem dX6_counted_76 : decode cX6_counted 76 = .ok (.istore_n 3, 1) := by decide +kernel
theorem dX6_counted_77 : decode cX6_counted 77 = .ok (.iload_n 3, 1) := by decide +kernel
theorem dX6_counted_78 : decode cX6_counted 78 = .ok (.iconst 3, 1) := by decide +kernel
theorem dX6_counted_79 : decode cX6_counted 79 = .ok (.if_icmp .ge 32, 3) := by decide +kernel
theorem dX6_counted_82 : decode cX6_counted 82 = .ok (.iload_n 2, 1) := by decide +kernel
theorem dX6_counted_83 : decode cX6_counted 83 = .ok (.iload_n 1, 1) := by decide +kernel
theorem dX6_counted_84 : decode cX6_counted 84 = .ok (.bipush 9, 2) := by decide +kernel
theorem dX6_counted_86 : decode cX6_counted 86 = .ok (.if_icmp .ne 16, 3) := by decide +kernel
theorem dX6_counted_89 : decode cX6_counted 89 = .ok (.aload_n 0, 1) := by decide +kernel
theorem dX6_counted_90 : decode cX6_counted 90 = .ok (.getfield 57, 3) := by decide +kernel
theorem dX6_counted_93 : decode cX6_counted 93 = .ok (.iload_n 3, 1) := by decide +kernel
theorem dX6_counted_94 : decode cX6_counted 94 = .ok (.baload, 1) := by decide +kernel
theorem dX6_counted_95 : decode cX6_counted 95 = .ok (.ifCond .eq 7, 3) := by decide +kernel
theorem dX6_counted_98 : decode cX6_counted 98 = .ok (.iconst 1, 1) := by decide +kernel
theorem dX6_counted_99 : decode cX6_counted 99 = .ok (.goto 4, 3) := by decide +kernel
theorem dX6_counted_102 : decode cX6_counted 102 = .ok (.iconst 0, 1) := by decide +kernel
theorem dX6_counted_103 : decode cX6_counted 103 = .ok (.iadd, 1) := by decide +kernel
theorem dX6_counted_104 : decode cX6_counted 104 = .ok (.istore_n 2, 1) := by decide +kernel
theorem dX6_counted_105 : decode cX6_counted 105 = .ok (.iinc 3 1, 3) := by decide +kernel
theorem dX6_counted_108 : decode cX6_counted 108 = .ok (.goto (-31), 3) := by decide +kernel
theorem dX6_counted_111 : decode cX6_counted 111 = .ok (.iconst 0, 1) := by decide +kernel
theorem dX6_counted_112 : decode cX6_counted 112 = .ok (.istore_n 3, 1) := by decide +kernel
theorem dX6_counted_113 : decode cX6_counted 113 = .ok (.iload_n 3, 1) := by decide +kernel
theorem dX6_counted_114 : decode cX6_counted 114 = .ok (.aload_n 0, 1) := by decide +kernel
theorem dX6_counted_115 : decode cX6_counted 115 = .ok (.getfield 167, 3) := by decide +kernel
theorem dX6_counted_118 : decode cX6_counted 118 = .ok (.if_icmp .ge 31, 3) := by decide +kernel
theorem dX6_counted_121 : decode cX6_counted 121 = .ok (.iload_n 2, 1) := by decide +kernel
theorem dX6_counted_122 : decode cX6_counted 122 = .ok (.iload_n 1, 1) := by decide +kernel
theorem dX6_counted_123 : decode cX6_counted 123 = .ok (.bipush 10, 2) := by decide +kernel
theorem dX6_counted_125 : decode cX6_counted 125 = .ok (.if_icmp .ne 15, 3) := by decide +kernel
theorem dX6_counted_128 : decode cX6_counted 128 = .ok (.aload_n 0, 1) := by decide +kernel
theorem dX6_counted_129 : decode cX6_counted 129 = .ok (.iload_n 3, 1) := by decide +kernel
theorem dX6_counted_130 : decode cX6_counted 130 = .ok (.invokevirtual 193, 3) := by decide +kernel
theorem dX6_counted_133 : decode cX6_counted 133 = .ok (.ifCond .eq 7, 3) := by decide +kernel
theorem dX6_counted_136 : decode cX6_counted 136 = .ok (.iconst 1, 1) := by decide +kernel
theorem dX6_counted_137 : decode cX6_counted 137 = .ok (.goto 4, 3) := by decide +kernel
theorem dX6_counted_140 : decode cX6_counted 140 = .ok (.iconst 0, 1) := by decide +kernel
theorem dX6_counted_141 : decode cX6_counted 141 = .ok (.iadd, 1) := by decide +kernel
theorem dX6_counted_142 : decode cX6_counted 142 = .ok (.istore_n 2, 1) := by decide +kernel
theorem dX6_counted_143 : decode cX6_counted 143 = .ok (.iinc 3 1, 3) := by decide +kernel
theorem dX6_counted_146 : decode cX6_counted 146 = .ok (.goto (-33), 3) := by decide +kernel
theorem dX6_counted_149 : decode cX6_counted 149 = .ok (.iload_n 1, 1) := by decide +kernel
theorem dX6_counted_150 : decode cX6_counted 150 = .ok (.tableswitch 70 0 6 #[42, 47, 52, 57, 62, 62, 62], 42) := by decide +kernel
theorem dX6_counted_192 : decode cX6_counted 192 = .ok (.aload_n 0, 1) := by decide +kernel
theorem dX6_counted_193 : decode cX6_counted 193 = .ok (.getfield 167, 3) := by decide +kernel
theorem dX6_counted_196 : decode cX6_counted 196 = .ok (.ireturn, 1) := by decide +kernel
theorem dX6_counted_197 : decode cX6_counted 197 = .ok (.aload_n 0, 1) := by decide +kernel
theorem dX6_counted_198 : decode cX6_counted 198 = .ok (.invokevirtual 297, 3) := by decide +kernel
theorem dX6_counted_201 : decode cX6_counted 201 = .ok (.ireturn, 1) := by decide +kernel
theorem dX6_counted_202 : decode cX6_counted 202 = .ok (.aload_n 0, 1) := by decide +kernel
theorem dX6_counted_203 : decode cX6_counted 203 = .ok (.getfield 170, 3) := by decide +kernel
theorem dX6_counted_206 : decode cX6_counted 206 = .ok (.ireturn, 1) := by decide +kernel
theorem dX6_counted_207 : decode cX6_counted 207 = .ok (.aload_n 0, 1) := by decide +kernel
theorem dX6_counted_208 : decode cX6_counted 208 = .ok (.getfield 177, 3) := by decide +kernel
theorem dX6_counted_211 : decode cX6_counted 211 = .ok (.ireturn, 1) := by decide +kernel
theorem dX6_counted_212 : decode cX6_counted 212 = .ok (.aload_n 0, 1) := by decide +kernel
theorem dX6_counted_213 : decode cX6_counted 213 = .ok (.iload_n 1, 1) := by decide +kernel
theorem dX6_counted_214 : decode cX6_counted 214 = .ok (.iconst 4, 1) := by decide +kernel
theorem dX6_counted_215 : decode cX6_counted 215 = .ok (.isub, 1) := by decide +kernel
theorem dX6_counted_216 : decode cX6_counted 216 = .ok (.invokevirtual 300, 3) := by decide +kernel
theorem dX6_counted_219 : decode cX6_counted 219 = .ok (.ireturn, 1) := by decide +kernel
theorem dX6_counted_220 : decode cX6_counted 220 = .ok (.iload_n 2, 1) := by decide +kernel
theorem dX6_counted_221 : decode cX6_counted 221 = .ok (.ireturn, 1) := by decide +kernel
theorem dX6_count_0 : decode cX6_count 0 = .ok (.iload_n 1, 1) := by decide +kernel
theorem dX6_count_1 : decode cX6_count 1 = .ok (.iconst 0, 1) := by decide +kernel
theorem dX6_count_2 : decode cX6_count 2 = .ok (.bipush 10, 2) := by decide +kernel
theorem dX6_count_4 : decode cX6_count 4 = .ok (.invokestatic 92, 3) := by decide +kernel
theorem dX6_count_7 : decode cX6_count 7 = .ok (.ifCond .eq 11, 3) := by decide +kernel
theorem dX6_count_10 : decode cX6_count 10 = .ok (.aload_n 0, 1) := by decide +kernel
theorem dX6_count_11 : decode cX6_count 11 = .ok (.iload_n 1, 1) := by decide +kernel
theorem dX6_count_12 : decode cX6_count 12 = .ok (.invokevirtual 303, 3) := by decide +kernel
theorem dX6_count_15 : decode cX6_count 15 = .ok (.goto 4, 3) := by decide +kernel
theorem dX6_count_18 : decode cX6_count 18 = .ok (.iconst (-1), 1) := by decide +kernel
theorem dX6_count_19 : decode cX6_count 19 = .ok (.ireturn, 1) := by decide +kernel
theorem dX6_mix_0 : decode cX6_mix 0 = .ok (.aload_n 0, 1) := by decide +kernel
theorem dX6_mix_1 : decode cX6_mix 1 = .ok (.ldc2_w 306, 3) := by decide +kernel
theorem dX6_mix_4 : decode cX6_mix 4 = .ok (.aload_n 0, 1) := by decide +kernel
theorem dX6_mix_5 : decode cX6_mix 5 = .ok (.getfield 308, 3) := by decide +kernel
theorem dX6_mix_8 : decode cX6_mix 8 = .ok (.lmul, 1) := by decide +kernel
theorem dX6_mix_9 : decode cX6_mix 9 = .ok (.lload_n 1, 1) := by decide +kernel
theorem dX6_mix_10 : decode cX6_mix 10 = .ok (.ladd, 1) := by decide +kernel
theorem dX6_mix_11 : decode cX6_mix 11 = .ok (.putfield 308, 3) := by decide +kernel
theorem dX6_mix_14 : decode cX6_mix 14 = .ok (.return_, 1) := by decide +kernel
theorem dX6_mixWood_0 : decode cX6_mixWood 0 = .ok (.iconst 0, 1) := by decide +kernel
theorem dX6_mixWood_1 : decode cX6_mixWood 1 = .ok (.istore_n 1, 1) := by decide +kernel
theorem dX6_mixWood_2 : decode cX6_mixWood 2 = .ok (.iload_n 1, 1) := by decide +kernel
theorem dX6_mixWood_3 : decode cX6_mixWood 3 = .ok (.iconst 3, 1) := by decide +kernel
theorem dX6_mixWood_4 : decode cX6_mixWood 4 = .ok (.if_icmp .ge 22, 3) := by decide +kernel
theorem dX6_mixWood_7 : decode cX6_mixWood 7 = .ok (.aload_n 0, 1) := by decide +kernel
theorem dX6_mixWood_8 : decode cX6_mixWood 8 = .ok (.aload_n 0, 1) := by decide +kernel
theorem dX6_mixWood_9 : decode cX6_mixWood 9 = .ok (.iconst 0, 1) := by decide +kernel
theorem dX6_mixWood_10 : decode cX6_mixWood 10 = .ok (.bipush 36, 2) := by decide +kernel
theorem dX6_mixWood_12 : decode cX6_mixWood 12 = .ok (.iload_n 1, 1) := by decide +kernel
theorem dX6_mixWood_13 : decode cX6_mixWood 13 = .ok (.invokevirtual 180, 3) := by decide +kernel
theorem dX6_mixWood_16 : decode cX6_mixWood 16 = .ok (.i2l, 1) := by decide +kernel
theorem dX6_mixWood_17 : decode cX6_mixWood 17 = .ok (.invokevirtual 311, 3) := by decide +kernel
theorem dX6_mixWood_20 : decode cX6_mixWood 20 = .ok (.iinc 1 1, 3) := by decide +kernel
theorem dX6_mixWood_23 : decode cX6_mixWood 23 = .ok (.goto (-21), 3) := by decide +kernel
theorem dX6_mixWood_26 : decode cX6_mixWood 26 = .ok (.iconst 0, 1) := by decide +kernel
theorem dX6_mixWood_27 : decode cX6_mixWood 27 = .ok (.istore_n 1, 1) := by decide +kernel
theorem dX6_mixWood_28 : decode cX6_mixWood 28 = .ok (.iload_n 1, 1) := by decide +kernel
theorem dX6_mixWood_29 : decode cX6_mixWood 29 = .ok (.aload_n 0, 1) := by decide +kernel
theorem dX6_mixWood_30 : decode cX6_mixWood 30 = .ok (.getfield 167, 3) := by decide +kernel
theorem dX6_mixWood_33 : decode cX6_mixWood 33 = .ok (.if_icmp .ge 34, 3) := by decide +kernel
theorem dX6_mixWood_36 : decode cX6_mixWood 36 = .ok (.iconst 0, 1) := by decide +kernel
theorem dX6_mixWood_37 : decode cX6_mixWood 37 = .ok (.istore_n 2, 1) := by decide +kernel
theorem dX6_mixWood_38 : decode cX6_mixWood 38 = .ok (.iload_n 2, 1) := by decide +kernel
theorem dX6_mixWood_39 : decode cX6_mixWood 39 = .ok (.bipush 6, 2) := by decide +kernel
theorem dX6_mixWood_41 : decode cX6_mixWood 41 = .ok (.if_icmp .ge 20, 3) := by decide +kernel
theorem dX6_mixWood_44 : decode cX6_mixWood 44 = .ok (.aload_n 0, 1) := by decide +kernel
theorem dX6_mixWood_45 : decode cX6_mixWood 45 = .ok (.aload_n 0, 1) := by decide +kernel
theorem dX6_mixWood_46 : decode cX6_mixWood 46 = .ok (.iload_n 1, 1) := by decide +kernel
theorem dX6_mixWood_47 : decode cX6_mixWood 47 = .ok (.iload_n 2, 1) := by decide +kernel
theorem dX6_mixWood_48 : decode cX6_mixWood 48 = .ok (.invokevirtual 214, 3) := by decide +kernel
theorem dX6_mixWood_51 : decode cX6_mixWood 51 = .ok (.i2l, 1) := by decide +kernel
theorem dX6_mixWood_52 : decode cX6_mixWood 52 = .ok (.invokevirtual 311, 3) := by decide +kernel
theorem dX6_mixWood_55 : decode cX6_mixWood 55 = .ok (.iinc 2 1, 3) := by decide +kernel
theorem dX6_mixWood_58 : decode cX6_mixWood 58 = .ok (.goto (-20), 3) := by decide +kernel
theorem dX6_mixWood_61 : decode cX6_mixWood 61 = .ok (.iinc 1 1, 3) := by decide +kernel
theorem dX6_mixWood_64 : decode cX6_mixWood 64 = .ok (.goto (-36), 3) := by decide +kernel
theorem dX6_mixWood_67 : decode cX6_mixWood 67 = .ok (.iconst 0, 1) := by decide +kernel
theorem dX6_mixWood_68 : decode cX6_mixWood 68 = .ok (.istore_n 1, 1) := by decide +kernel
theorem dX6_mixWood_69 : decode cX6_mixWood 69 = .ok (.iload_n 1, 1) := by decide +kernel
theorem dX6_mixWood_70 : decode cX6_mixWood 70 = .ok (.aload_n 0, 1) := by decide +kernel
theorem dX6_mixWood_71 : decode cX6_mixWood 71 = .ok (.getfield 170, 3) := by decide +kernel
theorem dX6_mixWood_74 : decode cX6_mixWood 74 = .ok (.if_icmp .ge 22, 3) := by decide +kernel
theorem dX6_mixWood_77 : decode cX6_mixWood 77 = .ok (.aload_n 0, 1) := by decide +kernel
theorem dX6_mixWood_78 : decode cX6_mixWood 78 = .ok (.aload_n 0, 1) := by decide +kernel
theorem dX6_mixWood_79 : decode cX6_mixWood 79 = .ok (.iconst 0, 1) := by decide +kernel
theorem dX6_mixWood_80 : decode cX6_mixWood 80 = .ok (.bipush 32, 2) := by decide +kernel
theorem dX6_mixWood_82 : decode cX6_mixWood 82 = .ok (.iload_n 1, 1) := by decide +kernel
theorem dX6_mixWood_83 : decode cX6_mixWood 83 = .ok (.invokevirtual 180, 3) := by decide +kernel
theorem dX6_mixWood_86 : decode cX6_mixWood 86 = .ok (.i2l, 1) := by decide +kernel
theorem dX6_mixWood_87 : decode cX6_mixWood 87 = .ok (.invokevirtual 311, 3) := by decide +kernel
theorem dX6_mixWood_90 : decode cX6_mixWood 90 = .ok (.iinc 1 1, 3) := by decide +kernel
theorem dX6_mixWood_93 : decode cX6_mixWood 93 = .ok (.goto (-24), 3) := by decide +kernel
theorem dX6_mixWood_96 : decode cX6_mixWood 96 = .ok (.iconst 0, 1) := by decide +kernel
theorem dX6_mixWood_97 : decode cX6_mixWood 97 = .ok (.istore_n 1, 1) := by decide +kernel
theorem dX6_mixWood_98 : decode cX6_mixWood 98 = .ok (.iload_n 1, 1) := by decide +kernel
theorem dX6_mixWood_99 : decode cX6_mixWood 99 = .ok (.aload_n 0, 1) := by decide +kernel
theorem dX6_mixWood_100 : decode cX6_mixWood 100 = .ok (.getfield 177, 3) := by decide +kernel
theorem dX6_mixWood_103 : decode cX6_mixWood 103 = .ok (.if_icmp .gt 27, 3) := by decide +kernel
theorem dX6_mixWood_106 : decode cX6_mixWood 106 = .ok (.aload_n 0, 1) := by decide +kernel
theorem dX6_mixWood_107 : decode cX6_mixWood 107 = .ok (.getfield 167, 3) := by decide +kernel
theorem dX6_mixWood_110 : decode cX6_mixWood 110 = .ok (.ifCond .le 20, 3) := by decide +kernel
theorem dX6_mixWood_113 : decode cX6_mixWood 113 = .ok (.aload_n 0, 1) := by decide +kernel
theorem dX6_mixWood_114 : decode cX6_mixWood 114 = .ok (.aload_n 0, 1) := by decide +kernel
theorem dX6_mixWood_115 : decode cX6_mixWood 115 = .ok (.getfield 54, 3) := by decide +kernel
theorem dX6_mixWood_118 : decode cX6_mixWood 118 = .ok (.iload_n 1, 1) := by decide +kernel
theorem dX6_mixWood_119 : decode cX6_mixWood 119 = .ok (.iaload, 1) := by decide +kernel
theorem dX6_mixWood_120 : decode cX6_mixWood 120 = .ok (.i2l, 1) := by decide +kernel
theorem dX6_mixWood_121 : decode cX6_mixWood 121 = .ok (.invokevirtual 311, 3) := by decide +kernel
theorem dX6_mixWood_124 : decode cX6_mixWood 124 = .ok (.iinc 1 1, 3) := by decide +kernel
theorem dX6_mixWood_127 : decode cX6_mixWood 127 = .ok (.goto (-29), 3) := by decide +kernel
theorem dX6_mixWood_130 : decode cX6_mixWood 130 = .ok (.iconst 0, 1) := by decide +kernel
theorem dX6_mixWood_131 : decode cX6_mixWood 131 = .ok (.istore_n 1, 1) := by decide +kernel
theorem dX6_mixWood_132 : decode cX6_mixWood 132 = .ok (.iload_n 1, 1) := by decide +kernel
theorem dX6_mixWood_133 : decode cX6_mixWood 133 = .ok (.iconst 3, 1) := by decide +kernel
theorem dX6_mixWood_134 : decode cX6_mixWood 134 = .ok (.if_icmp .ge 35, 3) := by decide +kernel
theorem dX6_mixWood_137 : decode cX6_mixWood 137 = .ok (.aload_n 0, 1) := by decide +kernel
theorem dX6_mixWood_138 : decode cX6_mixWood 138 = .ok (.aload_n 0, 1) := by decide +kernel
theorem dX6_mixWood_139 : decode cX6_mixWood 139 = .ok (.getfield 57, 3) := by decide +kernel
theorem dX6_mixWood_142 : decode cX6_mixWood 142 = .ok (.iload_n 1, 1) := by decide +kernel
theorem dX6_mixWood_143 : decode cX6_mixWood 143 = .ok (.baload, 1) := by decide +kernel
theorem dX6_mixWood_144 : decode cX6_mixWood 144 = .ok (.ifCond .eq 13, 3) := by decide +kernel
theorem dX6_mixWood_147 : decode cX6_mixWood 147 = .ok (.aload_n 0, 1) := by decide +kernel
theorem dX6_mixWood_148 : decode cX6_mixWood 148 = .ok (.getfield 61, 3) := by decide +kernel
theorem dX6_mixWood_151 : decode cX6_mixWood 151 = .ok (.iload_n 1, 1) := by decide +kernel
theorem dX6_mixWood_152 : decode cX6_mixWood 152 = .ok (.iaload, 1) := by decide +kernel
theorem dX6_mixWood_153 : decode cX6_mixWood 153 = .ok (.i2l, 1) := by decide +kernel
theorem dX6_mixWood_154 : decode cX6_mixWood 154 = .ok (.goto 6, 3) := by decide +kernel
theorem dX6_mixWood_157 : decode cX6_mixWood 157 = .ok (.ldc2_w 315, 3) := by decide +kernel
theorem dX6_mixWood_160 : decode cX6_mixWood 160 = .ok (.invokevirtual 311, 3) := by decide +kernel
theorem dX6_mixWood_163 : decode cX6_mixWood 163 = .ok (.iinc 1 1, 3) := by decide +kernel
theorem dX6_mixWood_166 : decode cX6_mixWood 166 = .ok (.goto (-34), 3) := by decide +kernel
theorem dX6_mixWood_169 : decode cX6_mixWood 169 = .ok (.return_, 1) := by decide +kernel
theorem dX6_digest_0 : decode cX6_digest 0 = .ok (.aload_n 0, 1) := by decide +kernel
theorem dX6_digest_1 : decode cX6_digest 1 = .ok (.ldc2_w 317, 3) := by decide +kernel
theorem dX6_digest_4 : decode cX6_digest 4 = .ok (.putfield 308, 3) := by decide +kernel
theorem dX6_digest_7 : decode cX6_digest 7 = .ok (.iconst 0, 1) := by decide +kernel
theorem dX6_digest_8 : decode cX6_digest 8 = .ok (.istore_n 1, 1) := by decide +kernel
theorem dX6_digest_9 : decode cX6_digest 9 = .ok (.iload_n 1, 1) := by decide +kernel
theorem dX6_digest_10 : decode cX6_digest 10 = .ok (.bipush 11, 2) := by decide +kernel
theorem dX6_digest_12 : decode cX6_digest 12 = .ok (.if_icmp .ge 19, 3) := by decide +kernel
theorem dX6_digest_15 : decode cX6_digest 15 = .ok (.aload_n 0, 1) := by decide +kernel
theorem dX6_digest_16 : decode cX6_digest 16 = .ok (.aload_n 0, 1) := by decide +kernel
theorem dX6_digest_17 : decode cX6_digest 17 = .ok (.iload_n 1, 1) := by decide +kernel
theorem dX6_digest_18 : decode cX6_digest 18 = .ok (.invokevirtual 303, 3) := by decide +kernel
theorem dX6_digest_21 : decode cX6_digest 21 = .ok (.i2l, 1) := by decide +kernel
theorem dX6_digest_22 : decode cX6_digest 22 = .ok (.invokevirtual 311, 3) := by decide +kernel
theorem dX6_digest_25 : decode cX6_digest 25 = .ok (.iinc 1 1, 3) := by decide +kernel
theorem dX6_digest_28 : decode cX6_digest 28 = .ok (.goto (-19), 3) := by decide +kernel
theorem dX6_digest_31 : decode cX6_digest 31 = .ok (.aload_n 0, 1) := by decide +kernel
theorem dX6_digest_32 : decode cX6_digest 32 = .ok (.invokevirtual 319, 3) := by decide +kernel
theorem dX6_digest_35 : decode cX6_digest 35 = .ok (.iconst 0, 1) := by decide +kernel
theorem dX6_digest_36 : decode cX6_digest 36 = .ok (.istore_n 1, 1) := by decide +kernel
theorem dX6_digest_37 : decode cX6_digest 37 = .ok (.iload_n 1, 1) := by decide +kernel
theorem dX6_digest_38 : decode cX6_digest 38 = .ok (.bipush 6, 2) := by decide +kernel
theorem dX6_digest_40 : decode cX6_digest 40 = .ok (.if_icmp .ge 49, 3) := by decide +kernel
theorem dX6_digest_43 : decode cX6_digest 43 = .ok (.aload_n 0, 1) := by decide +kernel
theorem dX6_digest_44 : decode cX6_digest 44 = .ok (.aload_n 0, 1) := by decide +kernel
theorem dX6_digest_45 : decode cX6_digest 45 = .ok (.getfield 17, 3) := by decide +kernel
theorem dX6_digest_48 : decode cX6_digest 48 = .ok (.iload_n 1, 1) := by decide +kernel
theorem dX6_digest_49 : decode cX6_digest 49 = .ok (.iaload, 1) := by decide +kernel
theorem dX6_digest_50 : decode cX6_digest 50 = .ok (.i2l, 1) := by decide +kernel
theorem dX6_digest_51 : decode cX6_digest 51 = .ok (.invokevirtual 311, 3) := by decide +kernel
theorem dX6_digest_54 : decode cX6_digest 54 = .ok (.iconst 0, 1) := by decide +kernel
theorem dX6_digest_55 : decode cX6_digest 55 = .ok (.istore_n 2, 1) := by decide +kernel
theorem dX6_digest_56 : decode cX6_digest 56 = .ok (.iload_n 2, 1) := by decide +kernel
theorem dX6_digest_57 : decode cX6_digest 57 = .ok (.aload_n 0, 1) := by decide +kernel
theorem dX6_digest_58 : decode cX6_digest 58 = .ok (.getfield 17, 3) := by decide +kernel
theorem dX6_digest_61 : decode cX6_digest 61 = .ok (.iload_n 1, 1) := by decide +kernel
theorem dX6_digest_62 : decode cX6_digest 62 = .ok (.iaload, 1) := by decide +kernel
theorem dX6_digest_63 : decode cX6_digest 63 = .ok (.if_icmp .ge 20, 3) := by decide +kernel
theorem dX6_digest_66 : decode cX6_digest 66 = .ok (.aload_n 0, 1) := by decide +kernel
theorem dX6_digest_67 : decode cX6_digest 67 = .ok (.aload_n 0, 1) := by decide +kernel
theorem dX6_digest_68 : decode cX6_digest 68 = .ok (.iload_n 1, 1) := by decide +kernel
theorem dX6_digest_69 : decode cX6_digest 69 = .ok (.iload_n 2, 1) := by decide +kernel
theorem dX6_digest_70 : decode cX6_digest 70 = .ok (.invokevirtual 110, 3) := by decide +kernel
theorem dX6_digest_73 : decode cX6_digest 73 = .ok (.i2l, 1) := by decide +kernel
theorem dX6_digest_74 : decode cX6_digest 74 = .ok (.invokevirtual 311, 3) := by decide +kernel
theorem dX6_digest_77 : decode cX6_digest 77 = .ok (.iinc 2 1, 3) := by decide +kernel
theorem dX6_digest_80 : decode cX6_digest 80 = .ok (.goto (-24), 3) := by decide +kernel
theorem dX6_digest_83 : decode cX6_digest 83 = .ok (.iinc 1 1, 3) := by decide +kernel
theorem dX6_digest_86 : decode cX6_digest 86 = .ok (.goto (-49), 3) := by decide +kernel
theorem dX6_digest_89 : decode cX6_digest 89 = .ok (.iconst 0, 1) := by decide +kernel
theorem dX6_digest_90 : decode cX6_digest 90 = .ok (.istore_n 1, 1) := by decide +kernel
theorem dX6_digest_91 : decode cX6_digest 91 = .ok (.iload_n 1, 1) := by decide +kernel
theorem dX6_digest_92 : decode cX6_digest 92 = .ok (.iconst 4, 1) := by decide +kernel
theorem dX6_digest_93 : decode cX6_digest 93 = .ok (.if_icmp .ge 49, 3) := by decide +kernel
theorem dX6_digest_96 : decode cX6_digest 96 = .ok (.aload_n 0, 1) := by decide +kernel
theorem dX6_digest_97 : decode cX6_digest 97 = .ok (.aload_n 0, 1) := by decide +kernel
theorem dX6_digest_98 : decode cX6_digest 98 = .ok (.getfield 26, 3) := by decide +kernel
theorem dX6_digest_101 : decode cX6_digest 101 = .ok (.iload_n 1, 1) := by decide +kernel
theorem dX6_digest_102 : decode cX6_digest 102 = .ok (.iaload, 1) := by decide +kernel
theorem dX6_digest_103 : decode cX6_digest 103 = .ok (.i2l, 1) := by decide +kernel
theorem dX6_digest_104 : decode cX6_digest 104 = .ok (.invokevirtual 311, 3) := by decide +kernel
theorem dX6_digest_107 : decode cX6_digest 107 = .ok (.iconst 0, 1) := by decide +kernel
theorem dX6_digest_108 : decode cX6_digest 108 = .ok (.istore_n 2, 1) := by decide +kernel
theorem dX6_digest_109 : decode cX6_digest 109 = .ok (.iload_n 2, 1) := by decide +kernel
theorem dX6_digest_110 : decode cX6_digest 110 = .ok (.aload_n 0, 1) := by decide +kernel
theorem dX6_digest_111 : decode cX6_digest 111 = .ok (.getfield 26, 3) := by decide +kernel
theorem dX6_digest_114 : decode cX6_digest 114 = .ok (.iload_n 1, 1) := by decide +kernel
theorem dX6_digest_115 : decode cX6_digest 115 = .ok (.iaload, 1) := by decide +kernel
theorem dX6_digest_116 : decode cX6_digest 116 = .ok (.if_icmp .ge 20, 3) := by decide +kernel
theorem dX6_digest_119 : decode cX6_digest 119 = .ok (.aload_n 0, 1) := by decide +kernel
theorem dX6_digest_120 : decode cX6_digest 120 = .ok (.aload_n 0, 1) := by decide +kernel
theorem dX6_digest_121 : decode cX6_digest 121 = .ok (.iload_n 1, 1) := by decide +kernel
theorem dX6_digest_122 : decode cX6_digest 122 = .ok (.iload_n 2, 1) := by decide +kernel
theorem dX6_digest_123 : decode cX6_digest 123 = .ok (.invokevirtual 123, 3) := by decide +kernel
theorem dX6_digest_126 : decode cX6_digest 126 = .ok (.i2l, 1) := by decide +kernel
theorem dX6_digest_127 : decode cX6_digest 127 = .ok (.invokevirtual 311, 3) := by decide +kernel
theorem dX6_digest_130 : decode cX6_digest 130 = .ok (.iinc 2 1, 3) := by decide +kernel
theorem dX6_digest_133 : decode cX6_digest 133 = .ok (.goto (-24), 3) := by decide +kernel
theorem dX6_digest_136 : decode cX6_digest 136 = .ok (.iinc 1 1, 3) := by decide +kernel
theorem dX6_digest_139 : decode cX6_digest 139 = .ok (.goto (-48), 3) := by decide +kernel
theorem dX6_digest_142 : decode cX6_digest 142 = .ok (.aload_n 0, 1) := by decide +kernel
theorem dX6_digest_143 : decode cX6_digest 143 = .ok (.getfield 308, 3) := by decide +kernel
theorem dX6_digest_146 : decode cX6_digest 146 = .ok (.lreturn, 1) := by decide +kernel
theorem dJ6_bitCount_0f7a4_0 : decode cJ6_bitCount_0f7a4 0 = .ok (.iload_n 0, 1) := by decide +kernel
theorem dJ6_bitCount_0f7a4_1 : decode cJ6_bitCount_0f7a4 1 = .ok (.iload_n 0, 1) := by decide +kernel
theorem dJ6_bitCount_0f7a4_2 : decode cJ6_bitCount_0f7a4 2 = .ok (.iconst 1, 1) := by decide +kernel
theorem dJ6_bitCount_0f7a4_3 : decode cJ6_bitCount_0f7a4 3 = .ok (.iushr, 1) := by decide +kernel
theorem dJ6_bitCount_0f7a4_4 : decode cJ6_bitCount_0f7a4 4 = .ok (.ldc_w 265, 3) := by decide +kernel
theorem dJ6_bitCount_0f7a4_7 : decode cJ6_bitCount_0f7a4 7 = .ok (.iand, 1) := by decide +kernel
theorem dJ6_bitCount_0f7a4_8 : decode cJ6_bitCount_0f7a4 8 = .ok (.isub, 1) := by decide +kernel
theorem dJ6_bitCount_0f7a4_9 : decode cJ6_bitCount_0f7a4 9 = .ok (.istore_n 0, 1) := by decide +kernel
theorem dJ6_bitCount_0f7a4_10 : decode cJ6_bitCount_0f7a4 10 = .ok (.iload_n 0, 1) := by decide +kernel
theorem dJ6_bitCount_0f7a4_11 : decode cJ6_bitCount_0f7a4 11 = .ok (.ldc_w 266, 3) := by decide +kernel
theorem dJ6_bitCount_0f7a4_14 : decode cJ6_bitCount_0f7a4 14 = .ok (.iand, 1) := by decide +kernel
theorem dJ6_bitCount_0f7a4_15 : decode cJ6_bitCount_0f7a4 15 = .ok (.iload_n 0, 1) := by decide +kernel
theorem dJ6_bitCount_0f7a4_16 : decode cJ6_bitCount_0f7a4 16 = .ok (.iconst 2, 1) := by decide +kernel
theorem dJ6_bitCount_0f7a4_17 : decode cJ6_bitCount_0f7a4 17 = .ok (.iushr, 1) := by decide +kernel
theorem dJ6_bitCount_0f7a4_18 : decode cJ6_bitCount_0f7a4 18 = .ok (.ldc_w 266, 3) := by decide +kernel
theorem dJ6_bitCount_0f7a4_21 : decode cJ6_bitCount_0f7a4 21 = .ok (.iand, 1) := by decide +kernel
theorem dJ6_bitCount_0f7a4_22 : decode cJ6_bitCount_0f7a4 22 = .ok (.iadd, 1) := by decide +kernel
theorem dJ6_bitCount_0f7a4_23 : decode cJ6_bitCount_0f7a4 23 = .ok (.istore_n 0, 1) := by decide +kernel
theorem dJ6_bitCount_0f7a4_24 : decode cJ6_bitCount_0f7a4 24 = .ok (.iload_n 0, 1) := by decide +kernel
theorem dJ6_bitCount_0f7a4_25 : decode cJ6_bitCount_0f7a4 25 = .ok (.iload_n 0, 1) := by decide +kernel
theorem dJ6_bitCount_0f7a4_26 : decode cJ6_bitCount_0f7a4 26 = .ok (.iconst 4, 1) := by decide +kernel
theorem dJ6_bitCount_0f7a4_27 : decode cJ6_bitCount_0f7a4 27 = .ok (.iushr, 1) := by decide +kernel
theorem dJ6_bitCount_0f7a4_28 : decode cJ6_bitCount_0f7a4 28 = .ok (.iadd, 1) := by decide +kernel
theorem dJ6_bitCount_0f7a4_29 : decode cJ6_bitCount_0f7a4 29 = .ok (.ldc_w 267, 3) := by decide +kernel
theorem dJ6_bitCount_0f7a4_32 : decode cJ6_bitCount_0f7a4 32 = .ok (.iand, 1) := by decide +kernel
theorem dJ6_bitCount_0f7a4_33 : decode cJ6_bitCount_0f7a4 33 = .ok (.istore_n 0, 1) := by decide +kernel
theorem dJ6_bitCount_0f7a4_34 : decode cJ6_bitCount_0f7a4 34 = .ok (.iload_n 0, 1) := by decide +kernel
theorem dJ6_bitCount_0f7a4_35 : decode cJ6_bitCount_0f7a4 35 = .ok (.iload_n 0, 1) := by decide +kernel
theorem dJ6_bitCount_0f7a4_36 : decode cJ6_bitCount_0f7a4 36 = .ok (.bipush 8, 2) := by decide +kernel
theorem dJ6_bitCount_0f7a4_38 : decode cJ6_bitCount_0f7a4 38 = .ok (.iushr, 1) := by decide +kernel
theorem dJ6_bitCount_0f7a4_39 : decode cJ6_bitCount_0f7a4 39 = .ok (.iadd, 1) := by decide +kernel
theorem dJ6_bitCount_0f7a4_40 : decode cJ6_bitCount_0f7a4 40 = .ok (.istore_n 0, 1) := by decide +kernel
theorem dJ6_bitCount_0f7a4_41 : decode cJ6_bitCount_0f7a4 41 = .ok (.iload_n 0, 1) := by decide +kernel
theorem dJ6_bitCount_0f7a4_42 : decode cJ6_bitCount_0f7a4 42 = .ok (.iload_n 0, 1) := by decide +kernel
theorem dJ6_bitCount_0f7a4_43 : decode cJ6_bitCount_0f7a4 43 = .ok (.bipush 16, 2) := by decide +kernel
theorem dJ6_bitCount_0f7a4_45 : decode cJ6_bitCount_0f7a4 45 = .ok (.iushr, 1) := by decide +kernel
theorem dJ6_bitCount_0f7a4_46 : decode cJ6_bitCount_0f7a4 46 = .ok (.iadd, 1) := by decide +kernel
theorem dJ6_bitCount_0f7a4_47 : decode cJ6_bitCount_0f7a4 47 = .ok (.istore_n 0, 1) := by decide +kernel
theorem dJ6_bitCount_0f7a4_48 : decode cJ6_bitCount_0f7a4 48 = .ok (.iload_n 0, 1) := by decide +kernel
theorem dJ6_bitCount_0f7a4_49 : decode cJ6_bitCount_0f7a4 49 = .ok (.bipush 63, 2) := by decide +kernel
theorem dJ6_bitCount_0f7a4_51 : decode cJ6_bitCount_0f7a4 51 = .ok (.iand, 1) := by decide +kernel
theorem dJ6_bitCount_0f7a4_52 : decode cJ6_bitCount_0f7a4 52 = .ok (.ireturn, 1) := by decide +kernel
theorem dJ9_max_7cf53_0 : decode cJ9_max_7cf53 0 = .ok (.iload_n 0, 1) := by decide +kernel
theorem dJ9_max_7cf53_1 : decode cJ9_max_7cf53 1 = .ok (.iload_n 1, 1) := by decide +kernel
theorem dJ9_max_7cf53_2 : decode cJ9_max_7cf53 2 = .ok (.if_icmp .lt 7, 3) := by decide +kernel
theorem dJ9_max_7cf53_5 : decode cJ9_max_7cf53 5 = .ok (.iload_n 0, 1) := by decide +kernel
theorem dJ9_max_7cf53_6 : decode cJ9_max_7cf53 6 = .ok (.goto 4, 3) := by decide +kernel
theorem dJ9_max_7cf53_9 : decode cJ9_max_7cf53 9 = .ok (.iload_n 1, 1) := by decide +kernel
theorem dJ9_max_7cf53_10 : decode cJ9_max_7cf53 10 = .ok (.ireturn, 1) := by decide +kernel
theorem dJ9_min_7cf53_0 : decode cJ9_min_7cf53 0 = .ok (.iload_n 0, 1) := by decide +kernel
theorem dJ9_min_7cf53_1 : decode cJ9_min_7cf53 1 = .ok (.iload_n 1, 1) := by decide +kernel
theorem dJ9_min_7cf53_2 : decode cJ9_min_7cf53 2 = .ok (.if_icmp .gt 7, 3) := by decide +kernel
theorem dJ9_min_7cf53_5 : decode cJ9_min_7cf53 5 = .ok (.iload_n 0, 1) := by decide +kernel
theorem dJ9_min_7cf53_6 : decode cJ9_min_7cf53 6 = .ok (.goto 4, 3) := by decide +kernel
theorem dJ9_min_7cf53_9 : decode cJ9_min_7cf53 9 = .ok (.iload_n 1, 1) := by decide +kernel
theorem dJ9_min_7cf53_10 : decode cJ9_min_7cf53 10 = .ok (.ireturn, 1) := by decide +kernel
theorem dL_law_0 : decode cL_law 0 = .ok (.new 7, 3) := by decide +kernel
theorem dL_law_3 : decode cL_law 3 = .ok (.dup, 1) := by decide +kernel
theorem dL_law_4 : decode cL_law 4 = .ok (.invokespecial 9, 3) := by decide +kernel
theorem dL_law_7 : decode cL_law 7 = .ok (.astore_n 1, 1) := by decide +kernel
theorem dL_law_8 : decode cL_law 8 = .ok (.new 10, 3) := by decide +kernel
theorem dL_law_11 : decode cL_law 11 = .ok (.dup, 1) := by decide +kernel
theorem dL_law_12 : decode cL_law 12 = .ok (.invokespecial 12, 3) := by decide +kernel
theorem dL_law_15 : decode cL_law 15 = .ok (.astore_n 2, 1) := by decide +kernel
theorem dL_law_16 : decode cL_law 16 = .ok (.iconst 0, 1) := by decide +kernel
theorem dL_law_17 : decode cL_law 17 = .ok (.istore_n 3, 1) := by decide +kernel
theorem dL_law_18 : decode cL_law 18 = .ok (.iload_n 3, 1) := by decide +kernel
theorem dL_law_19 : decode cL_law 19 = .ok (.aload_n 0, 1) := by decide +kernel
theorem dL_law_20 : decode cL_law 20 = .ok (.arraylength, 1) := by decide +kernel
theorem dL_law_21 : decode cL_law 21 = .ok (.bipush 6, 2) := by decide +kernel
theorem dL_law_23 : decode cL_law 23 = .ok (.isub, 1) := by decide +kernel
theorem dL_law_24 : decode cL_law 24 = .ok (.if_icmp .gt 1362, 3) := by decide +kernel
theorem dL_law_27 : decode cL_law 27 = .ok (.aload_n 0, 1) := by decide +kernel
theorem dL_law_28 : decode cL_law 28 = .ok (.iload_n 3, 1) := by decide +kernel
theorem dL_law_29 : decode cL_law 29 = .ok (.iaload, 1) := by decide +kernel
theorem dL_law_30 : decode cL_law 30 = .ok (.bipush 63, 2) := by decide +kernel
theorem dL_law_32 : decode cL_law 32 = .ok (.iand, 1) := by decide +kernel
theorem dL_law_33 : decode cL_law 33 = .ok (.tableswitch 1347 0 46 #[203, 236, 279, 312, 335, 398, 421, 454, 497, 520, 543, 576, 609, 652, 675, 698, 721, 744, 777, 810, 833, 846, 869, 892, 915, 928, 951, 964, 977, 990, 1023, 1056, 1069, 1082, 1095, 1108, 1131, 1154, 1187, 1200, 1233, 1246, 1260, 1274, 1297, 1310, 1333], 203) := by decide +kernel
theorem dL_law_236 : decode cL_law 236 = .ok (.aload_n 1, 1) := by decide +kernel
theorem dL_law_237 : decode cL_law 237 = .ok (.aload_n 0, 1) := by decide +kernel
theorem dL_law_238 : decode cL_law 238 = .ok (.iload_n 3, 1) := by decide +kernel
theorem dL_law_239 : decode cL_law 239 = .ok (.iconst 1, 1) := by decide +kernel
theorem dL_law_240 : decode cL_law 240 = .ok (.iadd, 1) := by decide +kernel
theorem dL_law_241 : decode cL_law 241 = .ok (.iaload, 1) := by decide +kernel
theorem dL_law_242 : decode cL_law 242 = .ok (.aload_n 0, 1) := by decide +kernel
theorem dL_law_243 : decode cL_law 243 = .ok (.iload_n 3, 1) := by decide +kernel
theorem dL_law_244 : decode cL_law 244 = .ok (.iconst 2, 1) := by decide +kernel
theorem dL_law_245 : decode cL_law 245 = .ok (.iadd, 1) := by decide +kernel
theorem dL_law_246 : decode cL_law 246 = .ok (.iaload, 1) := by decide +kernel
theorem dL_law_247 : decode cL_law 247 = .ok (.invokevirtual 13, 3) := by decide +kernel
theorem dL_law_250 : decode cL_law 250 = .ok (.aload_n 2, 1) := by decide +kernel
theorem dL_law_251 : decode cL_law 251 = .ok (.aload_n 0, 1) := by decide +kernel
theorem dL_law_252 : decode cL_law 252 = .ok (.iload_n 3, 1) := by decide +kernel
theorem dL_law_253 : decode cL_law 253 = .ok (.iconst 1, 1) := by decide +kernel
theorem dL_law_254 : decode cL_law 254 = .ok (.iadd, 1) := by decide +kernel
theorem dL_law_255 : decode cL_law 255 = .ok (.iaload, 1) := by decide +kernel
theorem dL_law_256 : decode cL_law 256 = .ok (.aload_n 0, 1) := by decide +kernel
theorem dL_law_257 : decode cL_law 257 = .ok (.iload_n 3, 1) := by decide +kernel
theorem dL_law_258 : decode cL_law 258 = .ok (.iconst 2, 1) := by decide +kernel
theorem dL_law_259 : decode cL_law 259 = .ok (.iadd, 1) := by decide +kernel
theorem dL_law_260 : decode cL_law 260 = .ok (.iaload, 1) := by decide +kernel
theorem dL_law_261 : decode cL_law 261 = .ok (.invokevirtual 17, 3) := by decide +kernel
theorem dL_law_264 : decode cL_law 264 = .ok (.if_icmp .eq 1116, 3) := by decide +kernel
theorem dL_law_267 : decode cL_law 267 = .ok (.iconst 0, 1) := by decide +kernel
theorem dL_law_268 : decode cL_law 268 = .ok (.ireturn, 1) := by decide +kernel
theorem dL_law_269 : decode cL_law 269 = .ok (.aload_n 1, 1) := by decide +kernel
theorem dL_law_270 : decode cL_law 270 = .ok (.aload_n 0, 1) := by decide +kernel
theorem dL_law_271 : decode cL_law 271 = .ok (.iload_n 3, 1) := by decide +kernel
theorem dL_law_272 : decode cL_law 272 = .ok (.iconst 1, 1) := by decide +kernel
theorem dL_law_273 : decode cL_law 273 = .ok (.iadd, 1) := by decide +kernel
theorem dL_law_274 : decode cL_law 274 = .ok (.iaload, 1) := by decide +kernel
theorem dL_law_275 : decode cL_law 275 = .ok (.aload_n 0, 1) := by decide +kernel
theorem dL_law_276 : decode cL_law 276 = .ok (.iload_n 3, 1) := by decide +kernel
theorem dL_law_277 : decode cL_law 277 = .ok (.iconst 2, 1) := by decide +kernel
theorem dL_law_278 : decode cL_law 278 = .ok (.iadd, 1) := by decide +kernel
theorem dL_law_279 : decode cL_law 279 = .ok (.iaload, 1) := by decide +kernel
theorem dL_law_280 : decode cL_law 280 = .ok (.aload_n 0, 1) := by decide +kernel
theorem dL_law_281 : decode cL_law 281 = .ok (.iload_n 3, 1) := by decide +kernel
theorem dL_law_282 : decode cL_law 282 = .ok (.iconst 3, 1) := by decide +kernel
theorem dL_law_283 : decode cL_law 283 = .ok (.iadd, 1) := by decide +kernel
theorem dL_law_284 : decode cL_law 284 = .ok (.iaload, 1) := by decide +kernel
theorem dL_law_285 : decode cL_law 285 = .ok (.invokevirtual 18, 3) := by decide +kernel
theorem dL_law_288 : decode cL_law 288 = .ok (.aload_n 2, 1) := by decide +kernel
theorem dL_law_289 : decode cL_law 289 = .ok (.aload_n 0, 1) := by decide +kernel
theorem dL_law_290 : decode cL_law 290 = .ok (.iload_n 3, 1) := by decide +kernel
theorem dL_law_291 : decode cL_law 291 = .ok (.iconst 1, 1) := by decide +kernel
theorem dL_law_292 : decode cL_law 292 = .ok (.iadd, 1) := by decide +kernel
theorem dL_law_293 : decode cL_law 293 = .ok (.iaload, 1) := by decide +kernel
theorem dL_law_294 : decode cL_law 294 = .ok (.aload_n 0, 1) := by decide +kernel
theorem dL_law_295 : decode cL_law 295 = .ok (.iload_n 3, 1) := by decide +kernel
theorem dL_law_296 : decode cL_law 296 = .ok (.iconst 2, 1) := by decide +kernel
theorem dL_law_297 : decode cL_law 297 = .ok (.iadd, 1) := by decide +kernel
theorem dL_law_298 : decode cL_law 298 = .ok (.iaload, 1) := by decide +kernel
theorem dL_law_299 : decode cL_law 299 = .ok (.aload_n 0, 1) := by decide +kernel
theorem dL_law_300 : decode cL_law 300 = .ok (.iload_n 3, 1) := by decide +kernel
theorem dL_law_301 : decode cL_law 301 = .ok (.iconst 3, 1) := by decide +kernel
theorem dL_law_302 : decode cL_law 302 = .ok (.iadd, 1) := by decide +kernel
theorem dL_law_303 : decode cL_law 303 = .ok (.iaload, 1) := by decide +kernel
theorem dL_law_304 : decode cL_law 304 = .ok (.invokevirtual 22, 3) := by decide +kernel
theorem dL_law_307 : decode cL_law 307 = .ok (.if_icmp .eq 1073, 3) := by decide +kernel
theorem dL_law_310 : decode cL_law 310 = .ok (.iconst 0, 1) := by decide +kernel
theorem dL_law_311 : decode cL_law 311 = .ok (.ireturn, 1) := by decide +kernel
theorem dL_law_312 : decode cL_law 312 = .ok (.aload_n 1, 1) := by decide +kernel
theorem dL_law_313 : decode cL_law 313 = .ok (.aload_n 0, 1) := by decide +kernel
theorem dL_law_314 : decode cL_law 314 = .ok (.iload_n 3, 1) := by decide +kernel
theorem dL_law_315 : decode cL_law 315 = .ok (.iconst 1, 1) := by decide +kernel
theorem dL_law_316 : decode cL_law 316 = .ok (.iadd, 1) := by decide +kernel
theorem dL_law_317 : decode cL_law 317 = .ok (.iaload, 1) := by decide +kernel
theorem dL_law_318 : decode cL_law 318 = .ok (.aload_n 0, 1) := by decide +kernel
theorem dL_law_319 : decode cL_law 319 = .ok (.iload_n 3, 1) := by decide +kernel
theorem dL_law_320 : decode cL_law 320 = .ok (.iconst 2, 1) := by decide +kernel
theorem dL_law_321 : decode cL_law 321 = .ok (.iadd, 1) := by decide +kernel
theorem dL_law_322 : decode cL_law 322 = .ok (.iaload, 1) := by decide +kernel
theorem dL_law_323 : decode cL_law 323 = .ok (.invokevirtual 23, 3) := by decide +kernel
theorem dL_law_326 : decode cL_law 326 = .ok (.aload_n 2, 1) := by decide +kernel
theorem dL_law_327 : decode cL_law 327 = .ok (.aload_n 0, 1) := by decide +kernel
theorem dL_law_328 : decode cL_law 328 = .ok (.iload_n 3, 1) := by decide +kernel
theorem dL_law_329 : decode cL_law 329 = .ok (.iconst 1, 1) := by decide +kernel
theorem dL_law_330 : decode cL_law 330 = .ok (.iadd, 1) := by decide +kernel
theorem dL_law_331 : decode cL_law 331 = .ok (.iaload, 1) := by decide +kernel
theorem dL_law_332 : decode cL_law 332 = .ok (.aload_n 0, 1) := by decide +kernel
theorem dL_law_333 : decode cL_law 333 = .ok (.iload_n 3, 1) := by decide +kernel
theorem dL_law_334 : decode cL_law 334 = .ok (.iconst 2, 1) := by decide +kernel
theorem dL_law_335 : decode cL_law 335 = .ok (.iadd, 1) := by decide +kernel
theorem dL_law_336 : decode cL_law 336 = .ok (.iaload, 1) := by decide +kernel
theorem dL_law_337 : decode cL_law 337 = .ok (.invokevirtual 26, 3) := by decide +kernel
theorem dL_law_340 : decode cL_law 340 = .ok (.if_icmp .eq 1040, 3) := by decide +kernel
theorem dL_law_343 : decode cL_law 343 = .ok (.iconst 0, 1) := by decide +kernel
theorem dL_law_344 : decode cL_law 344 = .ok (.ireturn, 1) := by decide +kernel
theorem dL_law_345 : decode cL_law 345 = .ok (.aload_n 1, 1) := by decide +kernel
theorem dL_law_346 : decode cL_law 346 = .ok (.aload_n 0, 1) := by decide +kernel
theorem dL_law_347 : decode cL_law 347 = .ok (.iload_n 3, 1) := by decide +kernel
theorem dL_law_348 : decode cL_law 348 = .ok (.iconst 1, 1) := by decide +kernel
theorem dL_law_349 : decode cL_law 349 = .ok (.iadd, 1) := by decide +kernel
theorem dL_law_350 : decode cL_law 350 = .ok (.iaload, 1) := by decide +kernel
theorem dL_law_351 : decode cL_law 351 = .ok (.invokevirtual 27, 3) := by decide +kernel
theorem dL_law_354 : decode cL_law 354 = .ok (.aload_n 2, 1) := by decide +kernel
theorem dL_law_355 : decode cL_law 355 = .ok (.aload_n 0, 1) := by decide +kernel
theorem dL_law_356 : decode cL_law 356 = .ok (.iload_n 3, 1) := by decide +kernel
theorem dL_law_357 : decode cL_law 357 = .ok (.iconst 1, 1) := by decide +kernel
theorem dL_law_358 : decode cL_law 358 = .ok (.iadd, 1) := by decide +kernel
theorem dL_law_359 : decode cL_law 359 = .ok (.iaload, 1) := by decide +kernel
theorem dL_law_360 : decode cL_law 360 = .ok (.invokevirtual 31, 3) := by decide +kernel
theorem dL_law_363 : decode cL_law 363 = .ok (.if_icmp .eq 1017, 3) := by decide +kernel
theorem dL_law_366 : decode cL_law 366 = .ok (.iconst 0, 1) := by decide +kernel
theorem dL_law_367 : decode cL_law 367 = .ok (.ireturn, 1) := by decide +kernel
theorem dL_law_368 : decode cL_law 368 = .ok (.aload_n 1, 1) := by decide +kernel
theorem dL_law_369 : decode cL_law 369 = .ok (.aload_n 0, 1) := by decide +kernel
theorem dL_law_370 : decode cL_law 370 = .ok (.iload_n 3, 1) := by decide +kernel
theorem dL_law_371 : decode cL_law 371 = .ok (.iconst 1, 1) := by decide +kernel
theorem dL_law_372 : decode cL_law 372 = .ok (.iadd, 1) := by decide +kernel
theorem dL_law_373 : decode cL_law 373 = .ok (.iaload, 1) := by decide +kernel
theorem dL_law_374 : decode cL_law 374 = .ok (.aload_n 0, 1) := by decide +kernel
theorem dL_law_375 : decode cL_law 375 = .ok (.iload_n 3, 1) := by decide +kernel
theorem dL_law_376 : decode cL_law 376 = .ok (.iconst 2, 1) := by decide +kernel
theorem dL_law_377 : decode cL_law 377 = .ok (.iadd, 1) := by decide +kernel
theorem dL_law_378 : decode cL_law 378 = .ok (.iaload, 1) := by decide +kernel
theorem dL_law_379 : decode cL_law 379 = .ok (.aload_n 0, 1) := by decide +kernel
theorem dL_law_380 : decode cL_law 380 = .ok (.iload_n 3, 1) := by decide +kernel
theorem dL_law_381 : decode cL_law 381 = .ok (.iconst 3, 1) := by decide +kernel
theorem dL_law_382 : decode cL_law 382 = .ok (.iadd, 1) := by decide +kernel
theorem dL_law_383 : decode cL_law 383 = .ok (.iaload, 1) := by decide +kernel
theorem dL_law_384 : decode cL_law 384 = .ok (.aload_n 0, 1) := by decide +kernel
theorem dL_law_385 : decode cL_law 385 = .ok (.iload_n 3, 1) := by decide +kernel
theorem dL_law_386 : decode cL_law 386 = .ok (.iconst 4, 1) := by decide +kernel
theorem dL_law_387 : decode cL_law 387 = .ok (.iadd, 1) := by decide +kernel
theorem dL_law_388 : decode cL_law 388 = .ok (.iaload, 1) := by decide +kernel
theorem dL_law_389 : decode cL_law 389 = .ok (.aload_n 0, 1) := by decide +kernel
theorem dL_law_390 : decode cL_law 390 = .ok (.iload_n 3, 1) := by decide +kernel
theorem dL_law_391 : decode cL_law 391 = .ok (.iconst 5, 1) := by decide +kernel
theorem dL_law_392 : decode cL_law 392 = .ok (.iadd, 1) := by decide +kernel
theorem dL_law_393 : decode cL_law 393 = .ok (.iaload, 1) := by decide +kernel
theorem dL_law_394 : decode cL_law 394 = .ok (.invokevirtual 32, 3) := by decide +kernel
theorem dL_law_397 : decode cL_law 397 = .ok (.aload_n 2, 1) := by decide +kernel
theorem dL_law_398 : decode cL_law 398 = .ok (.aload_n 0, 1) := by decide +kernel
theorem dL_law_399 : decode cL_law 399 = .ok (.iload_n 3, 1) := by decide +kernel
theorem dL_law_400 : decode cL_law 400 = .ok (.iconst 1, 1) := by decide +kernel
theorem dL_law_401 : decode cL_law 401 = .ok (.iadd, 1) := by decide +kernel
theorem dL_law_402 : decode cL_law 402 = .ok (.iaload, 1) := by decide +kernel
theorem dL_law_403 : decode cL_law 403 = .ok (.aload_n 0, 1) := by decide +kernel
theorem dL_law_404 : decode cL_law 404 = .ok (.iload_n 3, 1) := by decide +kernel
theorem dL_law_405 : decode cL_law 405 = .ok (.iconst 2, 1) := by decide +kernel
theorem dL_law_406 : decode cL_law 406 = .ok (.iadd, 1) := by decide +kernel
theorem dL_law_407 : decode cL_law 407 = .ok (.iaload, 1) := by decide +kernel
theorem dL_law_408 : decode cL_law 408 = .ok (.aload_n 0, 1) := by decide +kernel
theorem dL_law_409 : decode cL_law 409 = .ok (.iload_n 3, 1) := by decide +kernel
theorem dL_law_410 : decode cL_law 410 = .ok (.iconst 3, 1) := by decide +kernel
theorem dL_law_411 : decode cL_law 411 = .ok (.iadd, 1) := by decide +kernel
theorem dL_law_412 : decode cL_law 412 = .ok (.iaload, 1) := by decide +kernel
theorem dL_law_413 : decode cL_law 413 = .ok (.aload_n 0, 1) := by decide +kernel
theorem dL_law_414 : decode cL_law 414 = .ok (.iload_n 3, 1) := by decide +kernel
theorem dL_law_415 : decode cL_law 415 = .ok (.iconst 4, 1) := by decide +kernel
theorem dL_law_416 : decode cL_law 416 = .ok (.iadd, 1) := by decide +kernel
theorem dL_law_417 : decode cL_law 417 = .ok (.iaload, 1) := by decide +kernel
theorem dL_law_418 : decode cL_law 418 = .ok (.aload_n 0, 1) := by decide +kernel
theorem dL_law_419 : decode cL_law 419 = .ok (.iload_n 3, 1) := by decide +kernel
theorem dL_law_420 : decode cL_law 420 = .ok (.iconst 5, 1) := by decide +kernel
theorem dL_law_421 : decode cL_law 421 = .ok (.iadd, 1) := by decide +kernel
theorem dL_law_422 : decode cL_law 422 = .ok (.iaload, 1) := by decide +kernel
theorem dL_law_423 : decode cL_law 423 = .ok (.invokevirtual 36, 3) := by decide +kernel
theorem dL_law_426 : decode cL_law 426 = .ok (.if_icmp .eq 954, 3) := by decide +kernel
theorem dL_law_429 : decode cL_law 429 = .ok (.iconst 0, 1) := by decide +kernel
theorem dL_law_430 : decode cL_law 430 = .ok (.ireturn, 1) := by decide +kernel
theorem dL_law_431 : decode cL_law 431 = .ok (.aload_n 1, 1) := by decide +kernel
theorem dL_law_432 : decode cL_law 432 = .ok (.aload_n 0, 1) := by decide +kernel
theorem dL_law_433 : decode cL_law 433 = .ok (.iload_n 3, 1) := by decide +kernel
theorem dL_law_434 : decode cL_law 434 = .ok (.iconst 1, 1) := by decide +kernel
theorem dL_law_435 : decode cL_law 435 = .ok (.iadd, 1) := by decide +kernel
theorem dL_law_436 : decode cL_law 436 = .ok (.iaload, 1) := by decide +kernel
theorem dL_law_437 : decode cL_law 437 = .ok (.invokevirtual 37, 3) := by decide +kernel
theorem dL_law_440 : decode cL_law 440 = .ok (.aload_n 2, 1) := by decide +kernel
theorem dL_law_441 : decode cL_law 441 = .ok (.aload_n 0, 1) := by decide +kernel
theorem dL_law_442 : decode cL_law 442 = .ok (.iload_n 3, 1) := by decide +kernel
theorem dL_law_443 : decode cL_law 443 = .ok (.iconst 1, 1) := by decide +kernel
theorem dL_law_444 : decode cL_law 444 = .ok (.iadd, 1) := by decide +kernel
theorem dL_law_445 : decode cL_law 445 = .ok (.iaload, 1) := by decide +kernel
theorem dL_law_446 : decode cL_law 446 = .ok (.invokevirtual 40, 3) := by decide +kernel
theorem dL_law_449 : decode cL_law 449 = .ok (.if_icmp .eq 931, 3) := by decide +kernel
theorem dL_law_452 : decode cL_law 452 = .ok (.iconst 0, 1) := by decide +kernel
theorem dL_law_453 : decode cL_law 453 = .ok (.ireturn, 1) := by decide +kernel
theorem dL_law_454 : decode cL_law 454 = .ok (.aload_n 1, 1) := by decide +kernel
theorem dL_law_455 : decode cL_law 455 = .ok (.aload_n 0, 1) := by decide +kernel
theorem dL_law_456 : decode cL_law 456 = .ok (.iload_n 3, 1) := by decide +kernel
theorem dL_law_457 : decode cL_law 457 = .ok (.iconst 1, 1) := by decide +kernel
theorem dL_law_458 : decode cL_law 458 = .ok (.iadd, 1) := by decide +kernel
theorem dL_law_459 : decode cL_law 459 = .ok (.iaload, 1) := by decide +kernel
theorem dL_law_460 : decode cL_law 460 = .ok (.aload_n 0, 1) := by decide +kernel
theorem dL_law_461 : decode cL_law 461 = .ok (.iload_n 3, 1) := by decide +kernel
theorem dL_law_462 : decode cL_law 462 = .ok (.iconst 2, 1) := by decide +kernel
theorem dL_law_463 : decode cL_law 463 = .ok (.iadd, 1) := by decide +kernel
theorem dL_law_464 : decode cL_law 464 = .ok (.iaload, 1) := by decide +kernel
theorem dL_law_465 : decode cL_law 465 = .ok (.invokevirtual 41, 3) := by decide +kernel
theorem dL_law_468 : decode cL_law 468 = .ok (.aload_n 2, 1) := by decide +kernel
theorem dL_law_469 : decode cL_law 469 = .ok (.aload_n 0, 1) := by decide +kernel
theorem dL_law_470 : decode cL_law 470 = .ok (.iload_n 3, 1) := by decide +kernel
theorem dL_law_471 : decode cL_law 471 = .ok (.iconst 1, 1) := by decide +kernel
theorem dL_law_472 : decode cL_law 472 = .ok (.iadd, 1) := by decide +kernel
theorem dL_law_473 : decode cL_law 473 = .ok (.iaload, 1) := by decide +kernel
theorem dL_law_474 : decode cL_law 474 = .ok (.aload_n 0, 1) := by decide +kernel
theorem dL_law_475 : decode cL_law 475 = .ok (.iload_n 3, 1) := by decide +kernel
theorem dL_law_476 : decode cL_law 476 = .ok (.iconst 2, 1) := by decide +kernel
theorem dL_law_477 : decode cL_law 477 = .ok (.iadd, 1) := by decide +kernel
theorem dL_law_478 : decode cL_law 478 = .ok (.iaload, 1) := by decide +kernel
theorem dL_law_479 : decode cL_law 479 = .ok (.invokevirtual 44, 3) := by decide +kernel
theorem dL_law_482 : decode cL_law 482 = .ok (.if_icmp .eq 898, 3) := by decide +kernel
theorem dL_law_485 : decode cL_law 485 = .ok (.iconst 0, 1) := by decide +kernel
theorem dL_law_486 : decode cL_law 486 = .ok (.ireturn, 1) := by decide +kernel
theorem dL_law_487 : decode cL_law 487 = .ok (.aload_n 1, 1) := by decide +kernel
theorem dL_law_488 : decode cL_law 488 = .ok (.aload_n 0, 1) := by decide +kernel
theorem dL_law_489 : decode cL_law 489 = .ok (.iload_n 3, 1) := by decide +kernel
theorem dL_law_490 : decode cL_law 490 = .ok (.iconst 1, 1) := by decide +kernel
theorem dL_law_491 : decode cL_law 491 = .ok (.iadd, 1) := by decide +kernel
theorem dL_law_492 : decode cL_law 492 = .ok (.iaload, 1) := by decide +kernel
theorem dL_law_493 : decode cL_law 493 = .ok (.aload_n 0, 1) := by decide +kernel
theorem dL_law_494 : decode cL_law 494 = .ok (.iload_n 3, 1) := by decide +kernel
theorem dL_law_495 : decode cL_law 495 = .ok (.iconst 2, 1) := by decide +kernel
theorem dL_law_496 : decode cL_law 496 = .ok (.iadd, 1) := by decide +kernel
theorem dL_law_497 : decode cL_law 497 = .ok (.iaload, 1) := by decide +kernel
theorem dL_law_498 : decode cL_law 498 = .ok (.aload_n 0, 1) := by decide +kernel
theorem dL_law_499 : decode cL_law 499 = .ok (.iload_n 3, 1) := by decide +kernel
theorem dL_law_500 : decode cL_law 500 = .ok (.iconst 3, 1) := by decide +kernel
theorem dL_law_501 : decode cL_law 501 = .ok (.iadd, 1) := by decide +kernel
theorem dL_law_502 : decode cL_law 502 = .ok (.iaload, 1) := by decide +kernel
theorem dL_law_503 : decode cL_law 503 = .ok (.invokevirtual 45, 3) := by decide +kernel
theorem dL_law_506 : decode cL_law 506 = .ok (.aload_n 2, 1) := by decide +kernel
theorem dL_law_507 : decode cL_law 507 = .ok (.aload_n 0, 1) := by decide +kernel
theorem dL_law_508 : decode cL_law 508 = .ok (.iload_n 3, 1) := by decide +kernel
theorem dL_law_509 : decode cL_law 509 = .ok (.iconst 1, 1) := by decide +kernel
theorem dL_law_510 : decode cL_law 510 = .ok (.iadd, 1) := by decide +kernel
theorem dL_law_511 : decode cL_law 511 = .ok (.iaload, 1) := by decide +kernel
theorem dL_law_512 : decode cL_law 512 = .ok (.aload_n 0, 1) := by decide +kernel
theorem dL_law_513 : decode cL_law 513 = .ok (.iload_n 3, 1) := by decide +kernel
theorem dL_law_514 : decode cL_law 514 = .ok (.iconst 2, 1) := by decide +kernel
theorem dL_law_515 : decode cL_law 515 = .ok (.iadd, 1) := by decide +kernel
theorem dL_law_516 : decode cL_law 516 = .ok (.iaload, 1) := by decide +kernel
theorem dL_law_517 : decode cL_law 517 = .ok (.aload_n 0, 1) := by decide +kernel
theorem dL_law_518 : decode cL_law 518 = .ok (.iload_n 3, 1) := by decide +kernel
theorem dL_law_519 : decode cL_law 519 = .ok (.iconst 3, 1) := by decide +kernel
theorem dL_law_520 : decode cL_law 520 = .ok (.iadd, 1) := by decide +kernel
theorem dL_law_521 : decode cL_law 521 = .ok (.iaload, 1) := by decide +kernel
theorem dL_law_522 : decode cL_law 522 = .ok (.invokevirtual 48, 3) := by decide +kernel
theorem dL_law_525 : decode cL_law 525 = .ok (.if_icmp .eq 855, 3) := by decide +kernel
theorem dL_law_528 : decode cL_law 528 = .ok (.iconst 0, 1) := by decide +kernel
theorem dL_law_529 : decode cL_law 529 = .ok (.ireturn, 1) := by decide +kernel
theorem dL_law_530 : decode cL_law 530 = .ok (.aload_n 1, 1) := by decide +kernel
theorem dL_law_531 : decode cL_law 531 = .ok (.aload_n 0, 1) := by decide +kernel
theorem dL_law_532 : decode cL_law 532 = .ok (.iload_n 3, 1) := by decide +kernel
theorem dL_law_533 : decode cL_law 533 = .ok (.iconst 1, 1) := by decide +kernel
theorem dL_law_534 : decode cL_law 534 = .ok (.iadd, 1) := by decide +kernel
theorem dL_law_535 : decode cL_law 535 = .ok (.iaload, 1) := by decide +kernel
theorem dL_law_536 : decode cL_law 536 = .ok (.invokevirtual 49, 3) := by decide +kernel
theorem dL_law_539 : decode cL_law 539 = .ok (.aload_n 2, 1) := by decide +kernel
theorem dL_law_540 : decode cL_law 540 = .ok (.aload_n 0, 1) := by decide +kernel
theorem dL_law_541 : decode cL_law 541 = .ok (.iload_n 3, 1) := by decide +kernel
theorem dL_law_542 : decode cL_law 542 = .ok (.iconst 1, 1) := by decide +kernel
theorem dL_law_543 : decode cL_law 543 = .ok (.iadd, 1) := by decide +kernel
theorem dL_law_544 : decode cL_law 544 = .ok (.iaload, 1) := by decide +kernel
theorem dL_law_545 : decode cL_law 545 = .ok (.invokevirtual 52, 3) := by decide +kernel
theorem dL_law_548 : decode cL_law 548 = .ok (.if_icmp .eq 832, 3) := by decide +kernel
theorem dL_law_551 : decode cL_law 551 = .ok (.iconst 0, 1) := by decide +kernel
theorem dL_law_552 : decode cL_law 552 = .ok (.ireturn, 1) := by decide +kernel
theorem dL_law_553 : decode cL_law 553 = .ok (.aload_n 1, 1) := by decide +kernel
theorem dL_law_554 : decode cL_law 554 = .ok (.aload_n 0, 1) := by decide +kernel
theorem dL_law_555 : decode cL_law 555 = .ok (.iload_n 3, 1) := by decide +kernel
theorem dL_law_556 : decode cL_law 556 = .ok (.iconst 1, 1) := by decide +kernel
theorem dL_law_557 : decode cL_law 557 = .ok (.iadd, 1) := by decide +kernel
theorem dL_law_558 : decode cL_law 558 = .ok (.iaload, 1) := by decide +kernel
theorem dL_law_559 : decode cL_law 559 = .ok (.invokevirtual 53, 3) := by decide +kernel
theorem dL_law_562 : decode cL_law 562 = .ok (.aload_n 2, 1) := by decide +kernel
theorem dL_law_563 : decode cL_law 563 = .ok (.aload_n 0, 1) := by decide +kernel
theorem dL_law_564 : decode cL_law 564 = .ok (.iload_n 3, 1) := by decide +kernel
theorem dL_law_565 : decode cL_law 565 = .ok (.iconst 1, 1) := by decide +kernel
theorem dL_law_566 : decode cL_law 566 = .ok (.iadd, 1) := by decide +kernel
theorem dL_law_567 : decode cL_law 567 = .ok (.iaload, 1) := by decide +kernel
theorem dL_law_568 : decode cL_law 568 = .ok (.invokevirtual 56, 3) := by decide +kernel
theorem dL_law_571 : decode cL_law 571 = .ok (.if_icmp .eq 809, 3) := by decide +kernel
theorem dL_law_574 : decode cL_law 574 = .ok (.iconst 0, 1) := by decide +kernel
theorem dL_law_575 : decode cL_law 575 = .ok (.ireturn, 1) := by decide +kernel
theorem dL_law_576 : decode cL_law 576 = .ok (.aload_n 1, 1) := by decide +kernel
theorem dL_law_577 : decode cL_law 577 = .ok (.aload_n 0, 1) := by decide +kernel
theorem dL_law_578 : decode cL_law 578 = .ok (.iload_n 3, 1) := by decide +kernel
theorem dL_law_579 : decode cL_law 579 = .ok (.iconst 1, 1) := by decide +kernel
theorem dL_law_580 : decode cL_law 580 = .ok (.iadd, 1) := by decide +kernel
theorem dL_law_581 : decode cL_law 581 = .ok (.iaload, 1) := by decide +kernel
theorem dL_law_582 : decode cL_law 582 = .ok (.aload_n 0, 1) := by decide +kernel
theorem dL_law_583 : decode cL_law 583 = .ok (.iload_n 3, 1) := by decide +kernel
theorem dL_law_584 : decode cL_law 584 = .ok (.iconst 2, 1) := by decide +kernel
theorem dL_law_585 : decode cL_law 585 = .ok (.iadd, 1) := by decide +kernel
theorem dL_law_586 : decode cL_law 586 = .ok (.iaload, 1) := by decide +kernel
theorem dL_law_587 : decode cL_law 587 = .ok (.invokevirtual 57, 3) := by decide +kernel
theorem dL_law_590 : decode cL_law 590 = .ok (.aload_n 2, 1) := by decide +kernel
theorem dL_law_591 : decode cL_law 591 = .ok (.aload_n 0, 1) := by decide +kernel
theorem dL_law_592 : decode cL_law 592 = .ok (.iload_n 3, 1) := by decide +kernel
theorem dL_law_593 : decode cL_law 593 = .ok (.iconst 1, 1) := by decide +kernel
theorem dL_law_594 : decode cL_law 594 = .ok (.iadd, 1) := by decide +kernel
theorem dL_law_595 : decode cL_law 595 = .ok (.iaload, 1) := by decide +kernel
theorem dL_law_596 : decode cL_law 596 = .ok (.aload_n 0, 1) := by decide +kernel
theorem dL_law_597 : decode cL_law 597 = .ok (.iload_n 3, 1) := by decide +kernel
theorem dL_law_598 : decode cL_law 598 = .ok (.iconst 2, 1) := by decide +kernel
theorem dL_law_599 : decode cL_law 599 = .ok (.iadd, 1) := by decide +kernel
theorem dL_law_600 : decode cL_law 600 = .ok (.iaload, 1) := by decide +kernel
theorem dL_law_601 : decode cL_law 601 = .ok (.invokevirtual 60, 3) := by decide +kernel
theorem dL_law_604 : decode cL_law 604 = .ok (.if_icmp .eq 776, 3) := by decide +kernel
theorem dL_law_607 : decode cL_law 607 = .ok (.iconst 0, 1) := by decide +kernel
theorem dL_law_608 : decode cL_law 608 = .ok (.ireturn, 1) := by decide +kernel
theorem dL_law_609 : decode cL_law 609 = .ok (.aload_n 1, 1) := by decide +kernel
theorem dL_law_610 : decode cL_law 610 = .ok (.aload_n 0, 1) := by decide +kernel
theorem dL_law_611 : decode cL_law 611 = .ok (.iload_n 3, 1) := by decide +kernel
theorem dL_law_612 : decode cL_law 612 = .ok (.iconst 1, 1) := by decide +kernel
theorem dL_law_613 : decode cL_law 613 = .ok (.iadd, 1) := by decide +kernel
theorem dL_law_614 : decode cL_law 614 = .ok (.iaload, 1) := by decide +kernel
theorem dL_law_615 : decode cL_law 615 = .ok (.aload_n 0, 1) := by decide +kernel
theorem dL_law_616 : decode cL_law 616 = .ok (.iload_n 3, 1) := by decide +kernel
theorem dL_law_617 : decode cL_law 617 = .ok (.iconst 2, 1) := by decide +kernel
theorem dL_law_618 : decode cL_law 618 = .ok (.iadd, 1) := by decide +kernel
theorem dL_law_619 : decode cL_law 619 = .ok (.iaload, 1) := by decide +kernel
theorem dL_law_620 : decode cL_law 620 = .ok (.invokevirtual 61, 3) := by decide +kernel
theorem dL_law_623 : decode cL_law 623 = .ok (.aload_n 2, 1) := by decide +kernel
theorem dL_law_624 : decode cL_law 624 = .ok (.aload_n 0, 1) := by decide +kernel
theorem dL_law_625 : decode cL_law 625 = .ok (.iload_n 3, 1) := by decide +kernel
theorem dL_law_626 : decode cL_law 626 = .ok (.iconst 1, 1) := by decide +kernel
theorem dL_law_627 : decode cL_law 627 = .ok (.iadd, 1) := by decide +kernel
theorem dL_law_628 : decode cL_law 628 = .ok (.iaload, 1) := by decide +kernel
theorem dL_law_629 : decode cL_law 629 = .ok (.aload_n 0, 1) := by decide +kernel
theorem dL_law_630 : decode cL_law 630 = .ok (.iload_n 3, 1) := by decide +kernel
theorem dL_law_631 : decode cL_law 631 = .ok (.iconst 2, 1) := by decide +kernel
theorem dL_law_632 : decode cL_law 632 = .ok (.iadd, 1) := by decide +kernel
theorem dL_law_633 : decode cL_law 633 = .ok (.iaload, 1) := by decide +kernel
theorem dL_law_634 : decode cL_law 634 = .ok (.invokevirtual 64, 3) := by decide +kernel
theorem dL_law_637 : decode cL_law 637 = .ok (.if_icmp .eq 743, 3) := by decide +kernel
theorem dL_law_640 : decode cL_law 640 = .ok (.iconst 0, 1) := by decide +kernel
theorem dL_law_641 : decode cL_law 641 = .ok (.ireturn, 1) := by decide +kernel
theorem dL_law_642 : decode cL_law 642 = .ok (.aload_n 1, 1) := by decide +kernel
theorem dL_law_643 : decode cL_law 643 = .ok (.aload_n 0, 1) := by decide +kernel
theorem dL_law_644 : decode cL_law 644 = .ok (.iload_n 3, 1) := by decide +kernel
theorem dL_law_645 : decode cL_law 645 = .ok (.iconst 1, 1) := by decide +kernel
theorem dL_law_646 : decode cL_law 646 = .ok (.iadd, 1) := by decide +kernel
theorem dL_law_647 : decode cL_law 647 = .ok (.iaload, 1) := by decide +kernel
theorem dL_law_648 : decode cL_law 648 = .ok (.aload_n 0, 1) := by decide +kernel
theorem dL_law_649 : decode cL_law 649 = .ok (.iload_n 3, 1) := by decide +kernel
theorem dL_law_650 : decode cL_law 650 = .ok (.iconst 2, 1) := by decide +kernel
theorem dL_law_651 : decode cL_law 651 = .ok (.iadd, 1) := by decide +kernel
theorem dL_law_652 : decode cL_law 652 = .ok (.iaload, 1) := by decide +kernel
theorem dL_law_653 : decode cL_law 653 = .ok (.aload_n 0, 1) := by decide +kernel
theorem dL_law_654 : decode cL_law 654 = .ok (.iload_n 3, 1) := by decide +kernel
theorem dL_law_655 : decode cL_law 655 = .ok (.iconst 3, 1) := by decide +kernel
theorem dL_law_656 : decode cL_law 656 = .ok (.iadd, 1) := by decide +kernel
theorem dL_law_657 : decode cL_law 657 = .ok (.iaload, 1) := by decide +kernel
theorem dL_law_658 : decode cL_law 658 = .ok (.invokevirtual 65, 3) := by decide +kernel
theorem dL_law_661 : decode cL_law 661 = .ok (.aload_n 2, 1) := by decide +kernel
theorem dL_law_662 : decode cL_law 662 = .ok (.aload_n 0, 1) := by decide +kernel
theorem dL_law_663 : decode cL_law 663 = .ok (.iload_n 3, 1) := by decide +kernel
theorem dL_law_664 : decode cL_law 664 = .ok (.iconst 1, 1) := by decide +kernel
theorem dL_law_665 : decode cL_law 665 = .ok (.iadd, 1) := by decide +kernel
theorem dL_law_666 : decode cL_law 666 = .ok (.iaload, 1) := by decide +kernel
theorem dL_law_667 : decode cL_law 667 = .ok (.aload_n 0, 1) := by decide +kernel
theorem dL_law_668 : decode cL_law 668 = .ok (.iload_n 3, 1) := by decide +kernel
theorem dL_law_669 : decode cL_law 669 = .ok (.iconst 2, 1) := by decide +kernel
theorem dL_law_670 : decode cL_law 670 = .ok (.iadd, 1) := by decide +kernel
theorem dL_law_671 : decode cL_law 671 = .ok (.iaload, 1) := by decide +kernel
theorem dL_law_672 : decode cL_law 672 = .ok (.aload_n 0, 1) := by decide +kernel
theorem dL_law_673 : decode cL_law 673 = .ok (.iload_n 3, 1) := by decide +kernel
theorem dL_law_674 : decode cL_law 674 = .ok (.iconst 3, 1) := by decide +kernel
theorem dL_law_675 : decode cL_law 675 = .ok (.iadd, 1) := by decide +kernel
theorem dL_law_676 : decode cL_law 676 = .ok (.iaload, 1) := by decide +kernel
theorem dL_law_677 : decode cL_law 677 = .ok (.invokevirtual 68, 3) := by decide +kernel
theorem dL_law_680 : decode cL_law 680 = .ok (.if_icmp .eq 700, 3) := by decide +kernel
theorem dL_law_683 : decode cL_law 683 = .ok (.iconst 0, 1) := by decide +kernel
theorem dL_law_684 : decode cL_law 684 = .ok (.ireturn, 1) := by decide +kernel
theorem dL_law_685 : decode cL_law 685 = .ok (.aload_n 1, 1) := by decide +kernel
theorem dL_law_686 : decode cL_law 686 = .ok (.aload_n 0, 1) := by decide +kernel
theorem dL_law_687 : decode cL_law 687 = .ok (.iload_n 3, 1) := by decide +kernel
theorem dL_law_688 : decode cL_law 688 = .ok (.iconst 1, 1) := by decide +kernel
theorem dL_law_689 : decode cL_law 689 = .ok (.iadd, 1) := by decide +kernel
theorem dL_law_690 : decode cL_law 690 = .ok (.iaload, 1) := by decide +kernel
theorem dL_law_691 : decode cL_law 691 = .ok (.invokevirtual 69, 3) := by decide +kernel
theorem dL_law_694 : decode cL_law 694 = .ok (.aload_n 2, 1) := by decide +kernel
theorem dL_law_695 : decode cL_law 695 = .ok (.aload_n 0, 1) := by decide +kernel
theorem dL_law_696 : decode cL_law 696 = .ok (.iload_n 3, 1) := by decide +kernel
theorem dL_law_697 : decode cL_law 697 = .ok (.iconst 1, 1) := by decide +kernel
theorem dL_law_698 : decode cL_law 698 = .ok (.iadd, 1) := by decide +kernel
theorem dL_law_699 : decode cL_law 699 = .ok (.iaload, 1) := by decide +kernel
theorem dL_law_700 : decode cL_law 700 = .ok (.invokevirtual 72, 3) := by decide +kernel
theorem dL_law_703 : decode cL_law 703 = .ok (.if_icmp .eq 677, 3) := by decide +kernel
theorem dL_law_706 : decode cL_law 706 = .ok (.iconst 0, 1) := by decide +kernel
theorem dL_law_707 : decode cL_law 707 = .ok (.ireturn, 1) := by decide +kernel
theorem dL_law_708 : decode cL_law 708 = .ok (.aload_n 1, 1) := by decide +kernel
theorem dL_law_709 : decode cL_law 709 = .ok (.aload_n 0, 1) := by decide +kernel
theorem dL_law_710 : decode cL_law 710 = .ok (.iload_n 3, 1) := by decide +kernel
theorem dL_law_711 : decode cL_law 711 = .ok (.iconst 1, 1) := by decide +kernel
theorem dL_law_712 : decode cL_law 712 = .ok (.iadd, 1) := by decide +kernel
theorem dL_law_713 : decode cL_law 713 = .ok (.iaload, 1) := by decide +kernel
theorem dL_law_714 : decode cL_law 714 = .ok (.invokevirtual 73, 3) := by decide +kernel
theorem dL_law_717 : decode cL_law 717 = .ok (.aload_n 2, 1) := by decide +kernel
theorem dL_law_718 : decode cL_law 718 = .ok (.aload_n 0, 1) := by decide +kernel
theorem dL_law_719 : decode cL_law 719 = .ok (.iload_n 3, 1) := by decide +kernel
theorem dL_law_720 : decode cL_law 720 = .ok (.iconst 1, 1) := by decide +kernel
theorem dL_law_721 : decode cL_law 721 = .ok (.iadd, 1) := by decide +kernel
theorem dL_law_722 : decode cL_law 722 = .ok (.iaload, 1) := by decide +kernel
theorem dL_law_723 : decode cL_law 723 = .ok (.invokevirtual 76, 3) := by decide +kernel
theorem dL_law_726 : decode cL_law 726 = .ok (.if_icmp .eq 654, 3) := by decide +kernel
theorem dL_law_729 : decode cL_law 729 = .ok (.iconst 0, 1) := by decide +kernel
theorem dL_law_730 : decode cL_law 730 = .ok (.ireturn, 1) := by decide +kernel
theorem dL_law_731 : decode cL_law 731 = .ok (.aload_n 1, 1) := by decide +kernel
theorem dL_law_732 : decode cL_law 732 = .ok (.aload_n 0, 1) := by decide +kernel
theorem dL_law_733 : decode cL_law 733 = .ok (.iload_n 3, 1) := by decide +kernel
theorem dL_law_734 : decode cL_law 734 = .ok (.iconst 1, 1) := by decide +kernel
theorem dL_law_735 : decode cL_law 735 = .ok (.iadd, 1) := by decide +kernel
theorem dL_law_736 : decode cL_law 736 = .ok (.iaload, 1) := by decide +kernel
theorem dL_law_737 : decode cL_law 737 = .ok (.invokevirtual 77, 3) := by decide +kernel
theorem dL_law_740 : decode cL_law 740 = .ok (.aload_n 2, 1) := by decide +kernel
theorem dL_law_741 : decode cL_law 741 = .ok (.aload_n 0, 1) := by decide +kernel
theorem dL_law_742 : decode cL_law 742 = .ok (.iload_n 3, 1) := by decide +kernel
theorem dL_law_743 : decode cL_law 743 = .ok (.iconst 1, 1) := by decide +kernel
theorem dL_law_744 : decode cL_law 744 = .ok (.iadd, 1) := by decide +kernel
theorem dL_law_745 : decode cL_law 745 = .ok (.iaload, 1) := by decide +kernel
theorem dL_law_746 : decode cL_law 746 = .ok (.invokevirtual 80, 3) := by decide +kernel
theorem dL_law_749 : decode cL_law 749 = .ok (.if_icmp .eq 631, 3) := by decide +kernel
theorem dL_law_752 : decode cL_law 752 = .ok (.iconst 0, 1) := by decide +kernel
theorem dL_law_753 : decode cL_law 753 = .ok (.ireturn, 1) := by decide +kernel
theorem dL_law_754 : decode cL_law 754 = .ok (.aload_n 1, 1) := by decide +kernel
theorem dL_law_755 : decode cL_law 755 = .ok (.aload_n 0, 1) := by decide +kernel
theorem dL_law_756 : decode cL_law 756 = .ok (.iload_n 3, 1) := by decide +kernel
theorem dL_law_757 : decode cL_law 757 = .ok (.iconst 1, 1) := by decide +kernel
theorem dL_law_758 : decode cL_law 758 = .ok (.iadd, 1) := by decide +kernel
theorem dL_law_759 : decode cL_law 759 = .ok (.iaload, 1) := by decide +kernel
theorem dL_law_760 : decode cL_law 760 = .ok (.invokevirtual 81, 3) := by decide +kernel
theorem dL_law_763 : decode cL_law 763 = .ok (.aload_n 2, 1) := by decide +kernel
theorem dL_law_764 : decode cL_law 764 = .ok (.aload_n 0, 1) := by decide +kernel
theorem dL_law_765 : decode cL_law 765 = .ok (.iload_n 3, 1) := by decide +kernel
theorem dL_law_766 : decode cL_law 766 = .ok (.iconst 1, 1) := by decide +kernel
theorem dL_law_767 : decode cL_law 767 = .ok (.iadd, 1) := by decide +kernel
theorem dL_law_768 : decode cL_law 768 = .ok (.iaload, 1) := by decide +kernel
theorem dL_law_769 : decode cL_law 769 = .ok (.invokevirtual 84, 3) := by decide +kernel
theorem dL_law_772 : decode cL_law 772 = .ok (.if_icmp .eq 608, 3) := by decide +kernel
theorem dL_law_775 : decode cL_law 775 = .ok (.iconst 0, 1) := by decide +kernel
theorem dL_law_776 : decode cL_law 776 = .ok (.ireturn, 1) := by decide +kernel
theorem dL_law_777 : decode cL_law 777 = .ok (.aload_n 1, 1) := by decide +kernel
theorem dL_law_778 : decode cL_law 778 = .ok (.aload_n 0, 1) := by decide +kernel
theorem dL_law_779 : decode cL_law 779 = .ok (.iload_n 3, 1) := by decide +kernel
theorem dL_law_780 : decode cL_law 780 = .ok (.iconst 1, 1) := by decide +kernel
theorem dL_law_781 : decode cL_law 781 = .ok (.iadd, 1) := by decide +kernel
theorem dL_law_782 : decode cL_law 782 = .ok (.iaload, 1) := by decide +kernel
theorem dL_law_783 : decode cL_law 783 = .ok (.aload_n 0, 1) := by decide +kernel
theorem dL_law_784 : decode cL_law 784 = .ok (.iload_n 3, 1) := by decide +kernel
theorem dL_law_785 : decode cL_law 785 = .ok (.iconst 2, 1) := by decide +kernel
theorem dL_law_786 : decode cL_law 786 = .ok (.iadd, 1) := by decide +kernel
theorem dL_law_787 : decode cL_law 787 = .ok (.iaload, 1) := by decide +kernel
theorem dL_law_788 : decode cL_law 788 = .ok (.invokevirtual 85, 3) := by decide +kernel
theorem dL_law_791 : decode cL_law 791 = .ok (.aload_n 2, 1) := by decide +kernel
theorem dL_law_792 : decode cL_law 792 = .ok (.aload_n 0, 1) := by decide +kernel
theorem dL_law_793 : decode cL_law 793 = .ok (.iload_n 3, 1) := by decide +kernel
theorem dL_law_794 : decode cL_law 794 = .ok (.iconst 1, 1) := by decide +kernel
theorem dL_law_795 : decode cL_law 795 = .ok (.iadd, 1) := by decide +kernel
theorem dL_law_796 : decode cL_law 796 = .ok (.iaload, 1) := by decide +kernel
theorem dL_law_797 : decode cL_law 797 = .ok (.aload_n 0, 1) := by decide +kernel
theorem dL_law_798 : decode cL_law 798 = .ok (.iload_n 3, 1) := by decide +kernel
theorem dL_law_799 : decode cL_law 799 = .ok (.iconst 2, 1) := by decide +kernel
theorem dL_law_800 : decode cL_law 800 = .ok (.iadd, 1) := by decide +kernel
theorem dL_law_801 : decode cL_law 801 = .ok (.iaload, 1) := by decide +kernel
theorem dL_law_802 : decode cL_law 802 = .ok (.invokevirtual 88, 3) := by decide +kernel
theorem dL_law_805 : decode cL_law 805 = .ok (.if_icmp .eq 575, 3) := by decide +kernel
theorem dL_law_808 : decode cL_law 808 = .ok (.iconst 0, 1) := by decide +kernel
theorem dL_law_809 : decode cL_law 809 = .ok (.ireturn, 1) := by decide +kernel
theorem dL_law_810 : decode cL_law 810 = .ok (.aload_n 1, 1) := by decide +kernel
theorem dL_law_811 : decode cL_law 811 = .ok (.aload_n 0, 1) := by decide +kernel
theorem dL_law_812 : decode cL_law 812 = .ok (.iload_n 3, 1) := by decide +kernel
theorem dL_law_813 : decode cL_law 813 = .ok (.iconst 1, 1) := by decide +kernel
theorem dL_law_814 : decode cL_law 814 = .ok (.iadd, 1) := by decide +kernel
theorem dL_law_815 : decode cL_law 815 = .ok (.iaload, 1) := by decide +kernel
theorem dL_law_816 : decode cL_law 816 = .ok (.aload_n 0, 1) := by decide +kernel
theorem dL_law_817 : decode cL_law 817 = .ok (.iload_n 3, 1) := by decide +kernel
theorem dL_law_818 : decode cL_law 818 = .ok (.iconst 2, 1) := by decide +kernel
theorem dL_law_819 : decode cL_law 819 = .ok (.iadd, 1) := by decide +kernel
theorem dL_law_820 : decode cL_law 820 = .ok (.iaload, 1) := by decide +kernel
theorem dL_law_821 : decode cL_law 821 = .ok (.invokevirtual 89, 3) := by decide +kernel
theorem dL_law_824 : decode cL_law 824 = .ok (.aload_n 2, 1) := by decide +kernel
theorem dL_law_825 : decode cL_law 825 = .ok (.aload_n 0, 1) := by decide +kernel
theorem dL_law_826 : decode cL_law 826 = .ok (.iload_n 3, 1) := by decide +kernel
theorem dL_law_827 : decode cL_law 827 = .ok (.iconst 1, 1) := by decide +kernel
theorem dL_law_828 : decode cL_law 828 = .ok (.iadd, 1) := by decide +kernel
theorem dL_law_829 : decode cL_law 829 = .ok (.iaload, 1) := by decide +kernel
theorem dL_law_830 : decode cL_law 830 = .ok (.aload_n 0, 1) := by decide +kernel
theorem dL_law_831 : decode cL_law 831 = .ok (.iload_n 3, 1) := by decide +kernel
theorem dL_law_832 : decode cL_law 832 = .ok (.iconst 2, 1) := by decide +kernel
theorem dL_law_833 : decode cL_law 833 = .ok (.iadd, 1) := by decide +kernel
theorem dL_law_834 : decode cL_law 834 = .ok (.iaload, 1) := by decide +kernel
theorem dL_law_835 : decode cL_law 835 = .ok (.invokevirtual 92, 3) := by decide +kernel
theorem dL_law_838 : decode cL_law 838 = .ok (.if_icmp .eq 542, 3) := by decide +kernel
theorem dL_law_841 : decode cL_law 841 = .ok (.iconst 0, 1) := by decide +kernel
theorem dL_law_842 : decode cL_law 842 = .ok (.ireturn, 1) := by decide +kernel
theorem dL_law_843 : decode cL_law 843 = .ok (.aload_n 1, 1) := by decide +kernel
theorem dL_law_844 : decode cL_law 844 = .ok (.aload_n 0, 1) := by decide +kernel
theorem dL_law_845 : decode cL_law 845 = .ok (.iload_n 3, 1) := by decide +kernel
theorem dL_law_846 : decode cL_law 846 = .ok (.iconst 1, 1) := by decide +kernel
theorem dL_law_847 : decode cL_law 847 = .ok (.iadd, 1) := by decide +kernel
theorem dL_law_848 : decode cL_law 848 = .ok (.iaload, 1) := by decide +kernel
theorem dL_law_849 : decode cL_law 849 = .ok (.invokevirtual 93, 3) := by decide +kernel
theorem dL_law_852 : decode cL_law 852 = .ok (.aload_n 2, 1) := by decide +kernel
theorem dL_law_853 : decode cL_law 853 = .ok (.aload_n 0, 1) := by decide +kernel
theorem dL_law_854 : decode cL_law 854 = .ok (.iload_n 3, 1) := by decide +kernel
theorem dL_law_855 : decode cL_law 855 = .ok (.iconst 1, 1) := by decide +kernel
theorem dL_law_856 : decode cL_law 856 = .ok (.iadd, 1) := by decide +kernel
theorem dL_law_857 : decode cL_law 857 = .ok (.iaload, 1) := by decide +kernel
theorem dL_law_858 : decode cL_law 858 = .ok (.invokevirtual 96, 3) := by decide +kernel
theorem dL_law_861 : decode cL_law 861 = .ok (.if_icmp .eq 519, 3) := by decide +kernel
theorem dL_law_864 : decode cL_law 864 = .ok (.iconst 0, 1) := by decide +kernel
theorem dL_law_865 : decode cL_law 865 = .ok (.ireturn, 1) := by decide +kernel
theorem dL_law_866 : decode cL_law 866 = .ok (.aload_n 1, 1) := by decide +kernel
theorem dL_law_867 : decode cL_law 867 = .ok (.invokevirtual 97, 3) := by decide +kernel
theorem dL_law_870 : decode cL_law 870 = .ok (.aload_n 2, 1) := by decide +kernel
theorem dL_law_871 : decode cL_law 871 = .ok (.invokevirtual 101, 3) := by decide +kernel
theorem dL_law_874 : decode cL_law 874 = .ok (.if_icmp .eq 506, 3) := by decide +kernel
theorem dL_law_877 : decode cL_law 877 = .ok (.iconst 0, 1) := by decide +kernel
theorem dL_law_878 : decode cL_law 878 = .ok (.ireturn, 1) := by decide +kernel
theorem dL_law_879 : decode cL_law 879 = .ok (.aload_n 1, 1) := by decide +kernel
theorem dL_law_880 : decode cL_law 880 = .ok (.aload_n 0, 1) := by decide +kernel
theorem dL_law_881 : decode cL_law 881 = .ok (.iload_n 3, 1) := by decide +kernel
theorem dL_law_882 : decode cL_law 882 = .ok (.iconst 1, 1) := by decide +kernel
theorem dL_law_883 : decode cL_law 883 = .ok (.iadd, 1) := by decide +kernel
theorem dL_law_884 : decode cL_law 884 = .ok (.iaload, 1) := by decide +kernel
theorem dL_law_885 : decode cL_law 885 = .ok (.invokevirtual 102, 3) := by decide +kernel
theorem dL_law_888 : decode cL_law 888 = .ok (.aload_n 2, 1) := by decide +kernel
theorem dL_law_889 : decode cL_law 889 = .ok (.aload_n 0, 1) := by decide +kernel
theorem dL_law_890 : decode cL_law 890 = .ok (.iload_n 3, 1) := by decide +kernel
theorem dL_law_891 : decode cL_law 891 = .ok (.iconst 1, 1) := by decide +kernel
theorem dL_law_892 : decode cL_law 892 = .ok (.iadd, 1) := by decide +kernel
theorem dL_law_893 : decode cL_law 893 = .ok (.iaload, 1) := by decide +kernel
theorem dL_law_894 : decode cL_law 894 = .ok (.invokevirtual 105, 3) := by decide +kernel
theorem dL_law_897 : decode cL_law 897 = .ok (.if_icmp .eq 483, 3) := by decide +kernel
theorem dL_law_900 : decode cL_law 900 = .ok (.iconst 0, 1) := by decide +kernel
theorem dL_law_901 : decode cL_law 901 = .ok (.ireturn, 1) := by decide +kernel
theorem dL_law_902 : decode cL_law 902 = .ok (.aload_n 1, 1) := by decide +kernel
theorem dL_law_903 : decode cL_law 903 = .ok (.aload_n 0, 1) := by decide +kernel
theorem dL_law_904 : decode cL_law 904 = .ok (.iload_n 3, 1) := by decide +kernel
theorem dL_law_905 : decode cL_law 905 = .ok (.iconst 1, 1) := by decide +kernel
theorem dL_law_906 : decode cL_law 906 = .ok (.iadd, 1) := by decide +kernel
theorem dL_law_907 : decode cL_law 907 = .ok (.iaload, 1) := by decide +kernel
theorem dL_law_908 : decode cL_law 908 = .ok (.invokevirtual 106, 3) := by decide +kernel
theorem dL_law_911 : decode cL_law 911 = .ok (.aload_n 2, 1) := by decide +kernel
theorem dL_law_912 : decode cL_law 912 = .ok (.aload_n 0, 1) := by decide +kernel
theorem dL_law_913 : decode cL_law 913 = .ok (.iload_n 3, 1) := by decide +kernel
theorem dL_law_914 : decode cL_law 914 = .ok (.iconst 1, 1) := by decide +kernel
theorem dL_law_915 : decode cL_law 915 = .ok (.iadd, 1) := by decide +kernel
theorem dL_law_916 : decode cL_law 916 = .ok (.iaload, 1) := by decide +kernel
theorem dL_law_917 : decode cL_law 917 = .ok (.invokevirtual 109, 3) := by decide +kernel
theorem dL_law_920 : decode cL_law 920 = .ok (.if_icmp .eq 460, 3) := by decide +kernel
theorem dL_law_923 : decode cL_law 923 = .ok (.iconst 0, 1) := by decide +kernel
theorem dL_law_924 : decode cL_law 924 = .ok (.ireturn, 1) := by decide +kernel
theorem dL_law_925 : decode cL_law 925 = .ok (.aload_n 1, 1) := by decide +kernel
theorem dL_law_926 : decode cL_law 926 = .ok (.aload_n 0, 1) := by decide +kernel
theorem dL_law_927 : decode cL_law 927 = .ok (.iload_n 3, 1) := by decide +kernel
theorem dL_law_928 : decode cL_law 928 = .ok (.iconst 1, 1) := by decide +kernel
theorem dL_law_929 : decode cL_law 929 = .ok (.iadd, 1) := by decide +kernel
theorem dL_law_930 : decode cL_law 930 = .ok (.iaload, 1) := by decide +kernel
theorem dL_law_931 : decode cL_law 931 = .ok (.invokevirtual 110, 3) := by decide +kernel
theorem dL_law_934 : decode cL_law 934 = .ok (.aload_n 2, 1) := by decide +kernel
theorem dL_law_935 : decode cL_law 935 = .ok (.aload_n 0, 1) := by decide +kernel
theorem dL_law_936 : decode cL_law 936 = .ok (.iload_n 3, 1) := by decide +kernel
theorem dL_law_937 : decode cL_law 937 = .ok (.iconst 1, 1) := by decide +kernel
theorem dL_law_938 : decode cL_law 938 = .ok (.iadd, 1) := by decide +kernel
theorem dL_law_939 : decode cL_law 939 = .ok (.iaload, 1) := by decide +kernel
theorem dL_law_940 : decode cL_law 940 = .ok (.invokevirtual 113, 3) := by decide +kernel
theorem dL_law_943 : decode cL_law 943 = .ok (.if_icmp .eq 437, 3) := by decide +kernel
theorem dL_law_946 : decode cL_law 946 = .ok (.iconst 0, 1) := by decide +kernel
theorem dL_law_947 : decode cL_law 947 = .ok (.ireturn, 1) := by decide +kernel
theorem dL_law_948 : decode cL_law 948 = .ok (.aload_n 1, 1) := by decide +kernel
theorem dL_law_949 : decode cL_law 949 = .ok (.invokevirtual 114, 3) := by decide +kernel
theorem dL_law_952 : decode cL_law 952 = .ok (.aload_n 2, 1) := by decide +kernel
theorem dL_law_953 : decode cL_law 953 = .ok (.invokevirtual 117, 3) := by decide +kernel
theorem dL_law_956 : decode cL_law 956 = .ok (.if_icmp .eq 424, 3) := by decide +kernel
theorem dL_law_959 : decode cL_law 959 = .ok (.iconst 0, 1) := by decide +kernel
theorem dL_law_960 : decode cL_law 960 = .ok (.ireturn, 1) := by decide +kernel
theorem dL_law_961 : decode cL_law 961 = .ok (.aload_n 1, 1) := by decide +kernel
theorem dL_law_962 : decode cL_law 962 = .ok (.aload_n 0, 1) := by decide +kernel
theorem dL_law_963 : decode cL_law 963 = .ok (.iload_n 3, 1) := by decide +kernel
theorem dL_law_964 : decode cL_law 964 = .ok (.iconst 1, 1) := by decide +kernel
theorem dL_law_965 : decode cL_law 965 = .ok (.iadd, 1) := by decide +kernel
theorem dL_law_966 : decode cL_law 966 = .ok (.iaload, 1) := by decide +kernel
theorem dL_law_967 : decode cL_law 967 = .ok (.invokevirtual 118, 3) := by decide +kernel
theorem dL_law_970 : decode cL_law 970 = .ok (.aload_n 2, 1) := by decide +kernel
theorem dL_law_971 : decode cL_law 971 = .ok (.aload_n 0, 1) := by decide +kernel
theorem dL_law_972 : decode cL_law 972 = .ok (.iload_n 3, 1) := by decide +kernel
theorem dL_law_973 : decode cL_law 973 = .ok (.iconst 1, 1) := by decide +kernel
theorem dL_law_974 : decode cL_law 974 = .ok (.iadd, 1) := by decide +kernel
theorem dL_law_975 : decode cL_law 975 = .ok (.iaload, 1) := by decide +kernel
theorem dL_law_976 : decode cL_law 976 = .ok (.invokevirtual 121, 3) := by decide +kernel
theorem dL_law_979 : decode cL_law 979 = .ok (.if_icmp .eq 401, 3) := by decide +kernel
theorem dL_law_982 : decode cL_law 982 = .ok (.iconst 0, 1) := by decide +kernel
theorem dL_law_983 : decode cL_law 983 = .ok (.ireturn, 1) := by decide +kernel
theorem dL_law_984 : decode cL_law 984 = .ok (.aload_n 1, 1) := by decide +kernel
theorem dL_law_985 : decode cL_law 985 = .ok (.invokevirtual 122, 3) := by decide +kernel
theorem dL_law_988 : decode cL_law 988 = .ok (.aload_n 2, 1) := by decide +kernel
theorem dL_law_989 : decode cL_law 989 = .ok (.invokevirtual 125, 3) := by decide +kernel
theorem dL_law_992 : decode cL_law 992 = .ok (.if_icmp .eq 388, 3) := by decide +kernel
theorem dL_law_995 : decode cL_law 995 = .ok (.iconst 0, 1) := by decide +kernel
theorem dL_law_996 : decode cL_law 996 = .ok (.ireturn, 1) := by decide +kernel
theorem dL_law_997 : decode cL_law 997 = .ok (.aload_n 1, 1) := by decide +kernel
theorem dL_law_998 : decode cL_law 998 = .ok (.invokevirtual 126, 3) := by decide +kernel
theorem dL_law_1001 : decode cL_law 1001 = .ok (.aload_n 2, 1) := by decide +kernel
theorem dL_law_1002 : decode cL_law 1002 = .ok (.invokevirtual 129, 3) := by decide +kernel
theorem dL_law_1005 : decode cL_law 1005 = .ok (.if_icmp .eq 375, 3) := by decide +kernel
theorem dL_law_1008 : decode cL_law 1008 = .ok (.iconst 0, 1) := by decide +kernel
theorem dL_law_1009 : decode cL_law 1009 = .ok (.ireturn, 1) := by decide +kernel
theorem dL_law_1010 : decode cL_law 1010 = .ok (.aload_n 1, 1) := by decide +kernel
theorem dL_law_1011 : decode cL_law 1011 = .ok (.invokevirtual 130, 3) := by decide +kernel
theorem dL_law_1014 : decode cL_law 1014 = .ok (.aload_n 2, 1) := by decide +kernel
theorem dL_law_1015 : decode cL_law 1015 = .ok (.invokevirtual 133, 3) := by decide +kernel
theorem dL_law_1018 : decode cL_law 1018 = .ok (.if_icmp .eq 362, 3) := by decide +kernel
theorem dL_law_1021 : decode cL_law 1021 = .ok (.iconst 0, 1) := by decide +kernel
theorem dL_law_1022 : decode cL_law 1022 = .ok (.ireturn, 1) := by decide +kernel
theorem dL_law_1023 : decode cL_law 1023 = .ok (.aload_n 1, 1) := by decide +kernel
theorem dL_law_1024 : decode cL_law 1024 = .ok (.aload_n 0, 1) := by decide +kernel
theorem dL_law_1025 : decode cL_law 1025 = .ok (.iload_n 3, 1) := by decide +kernel
theorem dL_law_1026 : decode cL_law 1026 = .ok (.iconst 1, 1) := by decide +kernel
theorem dL_law_1027 : decode cL_law 1027 = .ok (.iadd, 1) := by decide +kernel
theorem dL_law_1028 : decode cL_law 1028 = .ok (.iaload, 1) := by decide +kernel
theorem dL_law_1029 : decode cL_law 1029 = .ok (.aload_n 0, 1) := by decide +kernel
theorem dL_law_1030 : decode cL_law 1030 = .ok (.iload_n 3, 1) := by decide +kernel
theorem dL_law_1031 : decode cL_law 1031 = .ok (.iconst 2, 1) := by decide +kernel
theorem dL_law_1032 : decode cL_law 1032 = .ok (.iadd, 1) := by decide +kernel
theorem dL_law_1033 : decode cL_law 1033 = .ok (.iaload, 1) := by decide +kernel
theorem dL_law_1034 : decode cL_law 1034 = .ok (.invokevirtual 134, 3) := by decide +kernel
theorem dL_law_1037 : decode cL_law 1037 = .ok (.aload_n 2, 1) := by decide +kernel
theorem dL_law_1038 : decode cL_law 1038 = .ok (.aload_n 0, 1) := by decide +kernel
theorem dL_law_1039 : decode cL_law 1039 = .ok (.iload_n 3, 1) := by decide +kernel
theorem dL_law_1040 : decode cL_law 1040 = .ok (.iconst 1, 1) := by decide +kernel
theorem dL_law_1041 : decode cL_law 1041 = .ok (.iadd, 1) := by decide +kernel
theorem dL_law_1042 : decode cL_law 1042 = .ok (.iaload, 1) := by decide +kernel
theorem dL_law_1043 : decode cL_law 1043 = .ok (.aload_n 0, 1) := by decide +kernel
theorem dL_law_1044 : decode cL_law 1044 = .ok (.iload_n 3, 1) := by decide +kernel
theorem dL_law_1045 : decode cL_law 1045 = .ok (.iconst 2, 1) := by decide +kernel
theorem dL_law_1046 : decode cL_law 1046 = .ok (.iadd, 1) := by decide +kernel
theorem dL_law_1047 : decode cL_law 1047 = .ok (.iaload, 1) := by decide +kernel
theorem dL_law_1048 : decode cL_law 1048 = .ok (.invokevirtual 137, 3) := by decide +kernel
theorem dL_law_1051 : decode cL_law 1051 = .ok (.if_icmp .eq 329, 3) := by decide +kernel
theorem dL_law_1054 : decode cL_law 1054 = .ok (.iconst 0, 1) := by decide +kernel
theorem dL_law_1055 : decode cL_law 1055 = .ok (.ireturn, 1) := by decide +kernel
theorem dL_law_1056 : decode cL_law 1056 = .ok (.aload_n 1, 1) := by decide +kernel
theorem dL_law_1057 : decode cL_law 1057 = .ok (.aload_n 0, 1) := by decide +kernel
theorem dL_law_1058 : decode cL_law 1058 = .ok (.iload_n 3, 1) := by decide +kernel
theorem dL_law_1059 : decode cL_law 1059 = .ok (.iconst 1, 1) := by decide +kernel
theorem dL_law_1060 : decode cL_law 1060 = .ok (.iadd, 1) := by decide +kernel
theorem dL_law_1061 : decode cL_law 1061 = .ok (.iaload, 1) := by decide +kernel
theorem dL_law_1062 : decode cL_law 1062 = .ok (.aload_n 0, 1) := by decide +kernel
theorem dL_law_1063 : decode cL_law 1063 = .ok (.iload_n 3, 1) := by decide +kernel
theorem dL_law_1064 : decode cL_law 1064 = .ok (.iconst 2, 1) := by decide +kernel
theorem dL_law_1065 : decode cL_law 1065 = .ok (.iadd, 1) := by decide +kernel
theorem dL_law_1066 : decode cL_law 1066 = .ok (.iaload, 1) := by decide +kernel
theorem dL_law_1067 : decode cL_law 1067 = .ok (.invokevirtual 138, 3) := by decide +kernel
theorem dL_law_1070 : decode cL_law 1070 = .ok (.aload_n 2, 1) := by decide +kernel
theorem dL_law_1071 : decode cL_law 1071 = .ok (.aload_n 0, 1) := by decide +kernel
theorem dL_law_1072 : decode cL_law 1072 = .ok (.iload_n 3, 1) := by decide +kernel
theorem dL_law_1073 : decode cL_law 1073 = .ok (.iconst 1, 1) := by decide +kernel
theorem dL_law_1074 : decode cL_law 1074 = .ok (.iadd, 1) := by decide +kernel
theorem dL_law_1075 : decode cL_law 1075 = .ok (.iaload, 1) := by decide +kernel
theorem dL_law_1076 : decode cL_law 1076 = .ok (.aload_n 0, 1) := by decide +kernel
theorem dL_law_1077 : decode cL_law 1077 = .ok (.iload_n 3, 1) := by decide +kernel
theorem dL_law_1078 : decode cL_law 1078 = .ok (.iconst 2, 1) := by decide +kernel
theorem dL_law_1079 : decode cL_law 1079 = .ok (.iadd, 1) := by decide +kernel
theorem dL_law_1080 : decode cL_law 1080 = .ok (.iaload, 1) := by decide +kernel
theorem dL_law_1081 : decode cL_law 1081 = .ok (.invokevirtual 141, 3) := by decide +kernel
theorem dL_law_1084 : decode cL_law 1084 = .ok (.if_icmp .eq 296, 3) := by decide +kernel
theorem dL_law_1087 : decode cL_law 1087 = .ok (.iconst 0, 1) := by decide +kernel
theorem dL_law_1088 : decode cL_law 1088 = .ok (.ireturn, 1) := by decide +kernel
theorem dL_law_1089 : decode cL_law 1089 = .ok (.aload_n 1, 1) := by decide +kernel
theorem dL_law_1090 : decode cL_law 1090 = .ok (.invokevirtual 142, 3) := by decide +kernel
theorem dL_law_1093 : decode cL_law 1093 = .ok (.aload_n 2, 1) := by decide +kernel
theorem dL_law_1094 : decode cL_law 1094 = .ok (.invokevirtual 145, 3) := by decide +kernel
theorem dL_law_1097 : decode cL_law 1097 = .ok (.if_icmp .eq 283, 3) := by decide +kernel
theorem dL_law_1100 : decode cL_law 1100 = .ok (.iconst 0, 1) := by decide +kernel
theorem dL_law_1101 : decode cL_law 1101 = .ok (.ireturn, 1) := by decide +kernel
theorem dL_law_1102 : decode cL_law 1102 = .ok (.aload_n 1, 1) := by decide +kernel
theorem dL_law_1103 : decode cL_law 1103 = .ok (.invokevirtual 146, 3) := by decide +kernel
theorem dL_law_1106 : decode cL_law 1106 = .ok (.aload_n 2, 1) := by decide +kernel
theorem dL_law_1107 : decode cL_law 1107 = .ok (.invokevirtual 149, 3) := by decide +kernel
theorem dL_law_1110 : decode cL_law 1110 = .ok (.if_icmp .eq 270, 3) := by decide +kernel
theorem dL_law_1113 : decode cL_law 1113 = .ok (.iconst 0, 1) := by decide +kernel
theorem dL_law_1114 : decode cL_law 1114 = .ok (.ireturn, 1) := by decide +kernel
theorem dL_law_1115 : decode cL_law 1115 = .ok (.aload_n 1, 1) := by decide +kernel
theorem dL_law_1116 : decode cL_law 1116 = .ok (.invokevirtual 150, 3) := by decide +kernel
theorem dL_law_1119 : decode cL_law 1119 = .ok (.aload_n 2, 1) := by decide +kernel
theorem dL_law_1120 : decode cL_law 1120 = .ok (.invokevirtual 153, 3) := by decide +kernel
theorem dL_law_1123 : decode cL_law 1123 = .ok (.if_icmp .eq 257, 3) := by decide +kernel
theorem dL_law_1126 : decode cL_law 1126 = .ok (.iconst 0, 1) := by decide +kernel
theorem dL_law_1127 : decode cL_law 1127 = .ok (.ireturn, 1) := by decide +kernel
theorem dL_law_1128 : decode cL_law 1128 = .ok (.aload_n 1, 1) := by decide +kernel
theorem dL_law_1129 : decode cL_law 1129 = .ok (.invokevirtual 154, 3) := by decide +kernel
theorem dL_law_1132 : decode cL_law 1132 = .ok (.aload_n 2, 1) := by decide +kernel
theorem dL_law_1133 : decode cL_law 1133 = .ok (.invokevirtual 157, 3) := by decide +kernel
theorem dL_law_1136 : decode cL_law 1136 = .ok (.if_icmp .eq 244, 3) := by decide +kernel
theorem dL_law_1139 : decode cL_law 1139 = .ok (.iconst 0, 1) := by decide +kernel
theorem dL_law_1140 : decode cL_law 1140 = .ok (.ireturn, 1) := by decide +kernel
theorem dL_law_1141 : decode cL_law 1141 = .ok (.aload_n 1, 1) := by decide +kernel
theorem dL_law_1142 : decode cL_law 1142 = .ok (.aload_n 0, 1) := by decide +kernel
theorem dL_law_1143 : decode cL_law 1143 = .ok (.iload_n 3, 1) := by decide +kernel
theorem dL_law_1144 : decode cL_law 1144 = .ok (.iconst 1, 1) := by decide +kernel
theorem dL_law_1145 : decode cL_law 1145 = .ok (.iadd, 1) := by decide +kernel
theorem dL_law_1146 : decode cL_law 1146 = .ok (.iaload, 1) := by decide +kernel
theorem dL_law_1147 : decode cL_law 1147 = .ok (.invokevirtual 158, 3) := by decide +kernel
theorem dL_law_1150 : decode cL_law 1150 = .ok (.aload_n 2, 1) := by decide +kernel
theorem dL_law_1151 : decode cL_law 1151 = .ok (.aload_n 0, 1) := by decide +kernel
theorem dL_law_1152 : decode cL_law 1152 = .ok (.iload_n 3, 1) := by decide +kernel
theorem dL_law_1153 : decode cL_law 1153 = .ok (.iconst 1, 1) := by decide +kernel
theorem dL_law_1154 : decode cL_law 1154 = .ok (.iadd, 1) := by decide +kernel
theorem dL_law_1155 : decode cL_law 1155 = .ok (.iaload, 1) := by decide +kernel
theorem dL_law_1156 : decode cL_law 1156 = .ok (.invokevirtual 161, 3) := by decide +kernel
theorem dL_law_1159 : decode cL_law 1159 = .ok (.if_icmp .eq 221, 3) := by decide +kernel
theorem dL_law_1162 : decode cL_law 1162 = .ok (.iconst 0, 1) := by decide +kernel
theorem dL_law_1163 : decode cL_law 1163 = .ok (.ireturn, 1) := by decide +kernel
theorem dL_law_1164 : decode cL_law 1164 = .ok (.aload_n 1, 1) := by decide +kernel
theorem dL_law_1165 : decode cL_law 1165 = .ok (.aload_n 0, 1) := by decide +kernel
theorem dL_law_1166 : decode cL_law 1166 = .ok (.iload_n 3, 1) := by decide +kernel
theorem dL_law_1167 : decode cL_law 1167 = .ok (.iconst 1, 1) := by decide +kernel
theorem dL_law_1168 : decode cL_law 1168 = .ok (.iadd, 1) := by decide +kernel
theorem dL_law_1169 : decode cL_law 1169 = .ok (.iaload, 1) := by decide +kernel
theorem dL_law_1170 : decode cL_law 1170 = .ok (.invokevirtual 162, 3) := by decide +kernel
theorem dL_law_1173 : decode cL_law 1173 = .ok (.aload_n 2, 1) := by decide +kernel
theorem dL_law_1174 : decode cL_law 1174 = .ok (.aload_n 0, 1) := by decide +kernel
theorem dL_law_1175 : decode cL_law 1175 = .ok (.iload_n 3, 1) := by decide +kernel
theorem dL_law_1176 : decode cL_law 1176 = .ok (.iconst 1, 1) := by decide +kernel
theorem dL_law_1177 : decode cL_law 1177 = .ok (.iadd, 1) := by decide +kernel
theorem dL_law_1178 : decode cL_law 1178 = .ok (.iaload, 1) := by decide +kernel
theorem dL_law_1179 : decode cL_law 1179 = .ok (.invokevirtual 165, 3) := by decide +kernel
theorem dL_law_1182 : decode cL_law 1182 = .ok (.if_icmp .eq 198, 3) := by decide +kernel
theorem dL_law_1185 : decode cL_law 1185 = .ok (.iconst 0, 1) := by decide +kernel
theorem dL_law_1186 : decode cL_law 1186 = .ok (.ireturn, 1) := by decide +kernel
theorem dL_law_1187 : decode cL_law 1187 = .ok (.aload_n 1, 1) := by decide +kernel
theorem dL_law_1188 : decode cL_law 1188 = .ok (.aload_n 0, 1) := by decide +kernel
theorem dL_law_1189 : decode cL_law 1189 = .ok (.iload_n 3, 1) := by decide +kernel
theorem dL_law_1190 : decode cL_law 1190 = .ok (.iconst 1, 1) := by decide +kernel
theorem dL_law_1191 : decode cL_law 1191 = .ok (.iadd, 1) := by decide +kernel
theorem dL_law_1192 : decode cL_law 1192 = .ok (.iaload, 1) := by decide +kernel
theorem dL_law_1193 : decode cL_law 1193 = .ok (.aload_n 0, 1) := by decide +kernel
theorem dL_law_1194 : decode cL_law 1194 = .ok (.iload_n 3, 1) := by decide +kernel
theorem dL_law_1195 : decode cL_law 1195 = .ok (.iconst 2, 1) := by decide +kernel
theorem dL_law_1196 : decode cL_law 1196 = .ok (.iadd, 1) := by decide +kernel
theorem dL_law_1197 : decode cL_law 1197 = .ok (.iaload, 1) := by decide +kernel
theorem dL_law_1198 : decode cL_law 1198 = .ok (.invokevirtual 166, 3) := by decide +kernel
theorem dL_law_1201 : decode cL_law 1201 = .ok (.aload_n 2, 1) := by decide +kernel
theorem dL_law_1202 : decode cL_law 1202 = .ok (.aload_n 0, 1) := by decide +kernel
theorem dL_law_1203 : decode cL_law 1203 = .ok (.iload_n 3, 1) := by decide +kernel
theorem dL_law_1204 : decode cL_law 1204 = .ok (.iconst 1, 1) := by decide +kernel
theorem dL_law_1205 : decode cL_law 1205 = .ok (.iadd, 1) := by decide +kernel
theorem dL_law_1206 : decode cL_law 1206 = .ok (.iaload, 1) := by decide +kernel
theorem dL_law_1207 : decode cL_law 1207 = .ok (.aload_n 0, 1) := by decide +kernel
theorem dL_law_1208 : decode cL_law 1208 = .ok (.iload_n 3, 1) := by decide +kernel
theorem dL_law_1209 : decode cL_law 1209 = .ok (.iconst 2, 1) := by decide +kernel
theorem dL_law_1210 : decode cL_law 1210 = .ok (.iadd, 1) := by decide +kernel
theorem dL_law_1211 : decode cL_law 1211 = .ok (.iaload, 1) := by decide +kernel
theorem dL_law_1212 : decode cL_law 1212 = .ok (.invokevirtual 169, 3) := by decide +kernel
theorem dL_law_1215 : decode cL_law 1215 = .ok (.if_icmp .eq 165, 3) := by decide +kernel
theorem dL_law_1218 : decode cL_law 1218 = .ok (.iconst 0, 1) := by decide +kernel
theorem dL_law_1219 : decode cL_law 1219 = .ok (.ireturn, 1) := by decide +kernel
theorem dL_law_1220 : decode cL_law 1220 = .ok (.aload_n 1, 1) := by decide +kernel
theorem dL_law_1221 : decode cL_law 1221 = .ok (.invokevirtual 170, 3) := by decide +kernel
theorem dL_law_1224 : decode cL_law 1224 = .ok (.aload_n 2, 1) := by decide +kernel
theorem dL_law_1225 : decode cL_law 1225 = .ok (.invokevirtual 173, 3) := by decide +kernel
theorem dL_law_1228 : decode cL_law 1228 = .ok (.if_icmp .eq 152, 3) := by decide +kernel
theorem dL_law_1231 : decode cL_law 1231 = .ok (.iconst 0, 1) := by decide +kernel
theorem dL_law_1232 : decode cL_law 1232 = .ok (.ireturn, 1) := by decide +kernel
theorem dL_law_1233 : decode cL_law 1233 = .ok (.aload_n 1, 1) := by decide +kernel
theorem dL_law_1234 : decode cL_law 1234 = .ok (.aload_n 0, 1) := by decide +kernel
theorem dL_law_1235 : decode cL_law 1235 = .ok (.iload_n 3, 1) := by decide +kernel
theorem dL_law_1236 : decode cL_law 1236 = .ok (.iconst 1, 1) := by decide +kernel
theorem dL_law_1237 : decode cL_law 1237 = .ok (.iadd, 1) := by decide +kernel
theorem dL_law_1238 : decode cL_law 1238 = .ok (.iaload, 1) := by decide +kernel
theorem dL_law_1239 : decode cL_law 1239 = .ok (.aload_n 0, 1) := by decide +kernel
theorem dL_law_1240 : decode cL_law 1240 = .ok (.iload_n 3, 1) := by decide +kernel
theorem dL_law_1241 : decode cL_law 1241 = .ok (.iconst 2, 1) := by decide +kernel
theorem dL_law_1242 : decode cL_law 1242 = .ok (.iadd, 1) := by decide +kernel
theorem dL_law_1243 : decode cL_law 1243 = .ok (.iaload, 1) := by decide +kernel
theorem dL_law_1244 : decode cL_law 1244 = .ok (.invokevirtual 174, 3) := by decide +kernel
theorem dL_law_1247 : decode cL_law 1247 = .ok (.aload_n 2, 1) := by decide +kernel
theorem dL_law_1248 : decode cL_law 1248 = .ok (.aload_n 0, 1) := by decide +kernel
theorem dL_law_1249 : decode cL_law 1249 = .ok (.iload_n 3, 1) := by decide +kernel
theorem dL_law_1250 : decode cL_law 1250 = .ok (.iconst 1, 1) := by decide +kernel
theorem dL_law_1251 : decode cL_law 1251 = .ok (.iadd, 1) := by decide +kernel
theorem dL_law_1252 : decode cL_law 1252 = .ok (.iaload, 1) := by decide +kernel
theorem dL_law_1253 : decode cL_law 1253 = .ok (.aload_n 0, 1) := by decide +kernel
theorem dL_law_1254 : decode cL_law 1254 = .ok (.iload_n 3, 1) := by decide +kernel
theorem dL_law_1255 : decode cL_law 1255 = .ok (.iconst 2, 1) := by decide +kernel
theorem dL_law_1256 : decode cL_law 1256 = .ok (.iadd, 1) := by decide +kernel
theorem dL_law_1257 : decode cL_law 1257 = .ok (.iaload, 1) := by decide +kernel
theorem dL_law_1258 : decode cL_law 1258 = .ok (.invokevirtual 177, 3) := by decide +kernel
theorem dL_law_1261 : decode cL_law 1261 = .ok (.if_icmp .eq 119, 3) := by decide +kernel
theorem dL_law_1264 : decode cL_law 1264 = .ok (.iconst 0, 1) := by decide +kernel
theorem dL_law_1265 : decode cL_law 1265 = .ok (.ireturn, 1) := by decide +kernel
theorem dL_law_1266 : decode cL_law 1266 = .ok (.aload_n 1, 1) := by decide +kernel
theorem dL_law_1267 : decode cL_law 1267 = .ok (.invokevirtual 178, 3) := by decide +kernel
theorem dL_law_1270 : decode cL_law 1270 = .ok (.aload_n 2, 1) := by decide +kernel
theorem dL_law_1271 : decode cL_law 1271 = .ok (.invokevirtual 181, 3) := by decide +kernel
theorem dL_law_1274 : decode cL_law 1274 = .ok (.if_icmp .eq 106, 3) := by decide +kernel
theorem dL_law_1277 : decode cL_law 1277 = .ok (.iconst 0, 1) := by decide +kernel
theorem dL_law_1278 : decode cL_law 1278 = .ok (.ireturn, 1) := by decide +kernel
theorem dL_law_1279 : decode cL_law 1279 = .ok (.aload_n 1, 1) := by decide +kernel
theorem dL_law_1280 : decode cL_law 1280 = .ok (.invokevirtual 182, 3) := by decide +kernel
theorem dL_law_1283 : decode cL_law 1283 = .ok (.aload_n 2, 1) := by decide +kernel
theorem dL_law_1284 : decode cL_law 1284 = .ok (.invokevirtual 186, 3) := by decide +kernel
theorem dL_law_1287 : decode cL_law 1287 = .ok (.lcmp, 1) := by decide +kernel
theorem dL_law_1288 : decode cL_law 1288 = .ok (.ifCond .eq 92, 3) := by decide +kernel
theorem dL_law_1291 : decode cL_law 1291 = .ok (.iconst 0, 1) := by decide +kernel
theorem dL_law_1292 : decode cL_law 1292 = .ok (.ireturn, 1) := by decide +kernel
theorem dL_law_1293 : decode cL_law 1293 = .ok (.aload_n 1, 1) := by decide +kernel
theorem dL_law_1294 : decode cL_law 1294 = .ok (.invokevirtual 187, 3) := by decide +kernel
theorem dL_law_1297 : decode cL_law 1297 = .ok (.aload_n 2, 1) := by decide +kernel
theorem dL_law_1298 : decode cL_law 1298 = .ok (.invokevirtual 190, 3) := by decide +kernel
theorem dL_law_1301 : decode cL_law 1301 = .ok (.lcmp, 1) := by decide +kernel
theorem dL_law_1302 : decode cL_law 1302 = .ok (.ifCond .eq 78, 3) := by decide +kernel
theorem dL_law_1305 : decode cL_law 1305 = .ok (.iconst 0, 1) := by decide +kernel
theorem dL_law_1306 : decode cL_law 1306 = .ok (.ireturn, 1) := by decide +kernel
theorem dL_law_1307 : decode cL_law 1307 = .ok (.aload_n 1, 1) := by decide +kernel
theorem dL_law_1308 : decode cL_law 1308 = .ok (.aload_n 0, 1) := by decide +kernel
theorem dL_law_1309 : decode cL_law 1309 = .ok (.iload_n 3, 1) := by decide +kernel
theorem dL_law_1310 : decode cL_law 1310 = .ok (.iconst 1, 1) := by decide +kernel
theorem dL_law_1311 : decode cL_law 1311 = .ok (.iadd, 1) := by decide +kernel
theorem dL_law_1312 : decode cL_law 1312 = .ok (.iaload, 1) := by decide +kernel
theorem dL_law_1313 : decode cL_law 1313 = .ok (.invokevirtual 191, 3) := by decide +kernel
theorem dL_law_1316 : decode cL_law 1316 = .ok (.aload_n 2, 1) := by decide +kernel
theorem dL_law_1317 : decode cL_law 1317 = .ok (.aload_n 0, 1) := by decide +kernel
theorem dL_law_1318 : decode cL_law 1318 = .ok (.iload_n 3, 1) := by decide +kernel
theorem dL_law_1319 : decode cL_law 1319 = .ok (.iconst 1, 1) := by decide +kernel
theorem dL_law_1320 : decode cL_law 1320 = .ok (.iadd, 1) := by decide +kernel
theorem dL_law_1321 : decode cL_law 1321 = .ok (.iaload, 1) := by decide +kernel
theorem dL_law_1322 : decode cL_law 1322 = .ok (.invokevirtual 194, 3) := by decide +kernel
theorem dL_law_1325 : decode cL_law 1325 = .ok (.if_icmp .eq 55, 3) := by decide +kernel
theorem dL_law_1328 : decode cL_law 1328 = .ok (.iconst 0, 1) := by decide +kernel
theorem dL_law_1329 : decode cL_law 1329 = .ok (.ireturn, 1) := by decide +kernel
theorem dL_law_1330 : decode cL_law 1330 = .ok (.aload_n 1, 1) := by decide +kernel
theorem dL_law_1331 : decode cL_law 1331 = .ok (.invokevirtual 195, 3) := by decide +kernel
theorem dL_law_1334 : decode cL_law 1334 = .ok (.aload_n 2, 1) := by decide +kernel
theorem dL_law_1335 : decode cL_law 1335 = .ok (.invokevirtual 198, 3) := by decide +kernel
theorem dL_law_1338 : decode cL_law 1338 = .ok (.if_icmp .eq 42, 3) := by decide +kernel
theorem dL_law_1341 : decode cL_law 1341 = .ok (.iconst 0, 1) := by decide +kernel
theorem dL_law_1342 : decode cL_law 1342 = .ok (.ireturn, 1) := by decide +kernel
theorem dL_law_1343 : decode cL_law 1343 = .ok (.aload_n 1, 1) := by decide +kernel
theorem dL_law_1344 : decode cL_law 1344 = .ok (.aload_n 0, 1) := by decide +kernel
theorem dL_law_1345 : decode cL_law 1345 = .ok (.iload_n 3, 1) := by decide +kernel
theorem dL_law_1346 : decode cL_law 1346 = .ok (.iconst 1, 1) := by decide +kernel
theorem dL_law_1347 : decode cL_law 1347 = .ok (.iadd, 1) := by decide +kernel
theorem dL_law_1348 : decode cL_law 1348 = .ok (.iaload, 1) := by decide +kernel
theorem dL_law_1349 : decode cL_law 1349 = .ok (.invokevirtual 199, 3) := by decide +kernel
theorem dL_law_1352 : decode cL_law 1352 = .ok (.aload_n 2, 1) := by decide +kernel
theorem dL_law_1353 : decode cL_law 1353 = .ok (.aload_n 0, 1) := by decide +kernel
theorem dL_law_1354 : decode cL_law 1354 = .ok (.iload_n 3, 1) := by decide +kernel
theorem dL_law_1355 : decode cL_law 1355 = .ok (.iconst 1, 1) := by decide +kernel
theorem dL_law_1356 : decode cL_law 1356 = .ok (.iadd, 1) := by decide +kernel
theorem dL_law_1357 : decode cL_law 1357 = .ok (.iaload, 1) := by decide +kernel
theorem dL_law_1358 : decode cL_law 1358 = .ok (.invokevirtual 202, 3) := by decide +kernel
theorem dL_law_1361 : decode cL_law 1361 = .ok (.if_icmp .eq 19, 3) := by decide +kernel
theorem dL_law_1364 : decode cL_law 1364 = .ok (.iconst 0, 1) := by decide +kernel
theorem dL_law_1365 : decode cL_law 1365 = .ok (.ireturn, 1) := by decide +kernel
theorem dL_law_1366 : decode cL_law 1366 = .ok (.aload_n 1, 1) := by decide +kernel
theorem dL_law_1367 : decode cL_law 1367 = .ok (.invokevirtual 203, 3) := by decide +kernel
theorem dL_law_1370 : decode cL_law 1370 = .ok (.aload_n 2, 1) := by decide +kernel
theorem dL_law_1371 : decode cL_law 1371 = .ok (.invokevirtual 206, 3) := by decide +kernel
theorem dL_law_1374 : decode cL_law 1374 = .ok (.lcmp, 1) := by decide +kernel
theorem dL_law_1375 : decode cL_law 1375 = .ok (.ifCond .eq 5, 3) := by decide +kernel
theorem dL_law_1378 : decode cL_law 1378 = .ok (.iconst 0, 1) := by decide +kernel
theorem dL_law_1379 : decode cL_law 1379 = .ok (.ireturn, 1) := by decide +kernel
theorem dL_law_1380 : decode cL_law 1380 = .ok (.iinc 3 6, 3) := by decide +kernel
theorem dL_law_1383 : decode cL_law 1383 = .ok (.goto (-1365), 3) := by decide +kernel
theorem dL_law_1386 : decode cL_law 1386 = .ok (.iconst 1, 1) := by decide +kernel
theorem dL_law_1387 : decode cL_law 1387 = .ok (.ireturn, 1) := by decide +kernel
