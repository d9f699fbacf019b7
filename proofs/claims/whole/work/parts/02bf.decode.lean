theorem dX10_findPlacements_147 : decode cX10_findPlacements 147 = .ok (.invokevirtual 194, 3) := by decide +kernel
theorem dX10_findPlacements_150 : decode cX10_findPlacements 150 = .ok (.iadd, 1) := by decide +kernel
theorem dX10_findPlacements_151 : decode cX10_findPlacements 151 = .ok (.istore 7, 2) := by decide +kernel
theorem dX10_findPlacements_153 : decode cX10_findPlacements 153 = .ok (.iload 7, 2) := by decide +kernel
theorem dX10_findPlacements_155 : decode cX10_findPlacements 155 = .ok (.aload_n 0, 1) := by decide +kernel
theorem dX10_findPlacements_156 : decode cX10_findPlacements 156 = .ok (.iload_n 1, 1) := by decide +kernel
theorem dX10_findPlacements_157 : decode cX10_findPlacements 157 = .ok (.invokevirtual 209, 3) := by decide +kernel
theorem dX10_findPlacements_160 : decode cX10_findPlacements 160 = .ok (.iconst 2, 1) := by decide +kernel
theorem dX10_findPlacements_161 : decode cX10_findPlacements 161 = .ok (.if_icmp .le 13, 3) := by decide +kernel
theorem dX10_findPlacements_164 : decode cX10_findPlacements 164 = .ok (.aload_n 0, 1) := by decide +kernel
theorem dX10_findPlacements_165 : decode cX10_findPlacements 165 = .ok (.iload_n 1, 1) := by decide +kernel
theorem dX10_findPlacements_166 : decode cX10_findPlacements 166 = .ok (.iconst 2, 1) := by decide +kernel
theorem dX10_findPlacements_167 : decode cX10_findPlacements 167 = .ok (.iconst 4, 1) := by decide +kernel
theorem dX10_findPlacements_168 : decode cX10_findPlacements 168 = .ok (.invokevirtual 194, 3) := by decide +kernel
theorem dX10_findPlacements_171 : decode cX10_findPlacements 171 = .ok (.goto 4, 3) := by decide +kernel
theorem dX10_findPlacements_174 : decode cX10_findPlacements 174 = .ok (.iconst 0, 1) := by decide +kernel
theorem dX10_findPlacements_175 : decode cX10_findPlacements 175 = .ok (.iadd, 1) := by decide +kernel
theorem dX10_findPlacements_176 : decode cX10_findPlacements 176 = .ok (.istore 8, 2) := by decide +kernel
theorem dX10_findPlacements_178 : decode cX10_findPlacements 178 = .ok (.iload 6, 2) := by decide +kernel
theorem dX10_findPlacements_180 : decode cX10_findPlacements 180 = .ok (.ifCond .eq 60, 3) := by decide +kernel
theorem dX10_findPlacements_183 : decode cX10_findPlacements 183 = .ok (.aload_n 0, 1) := by decide +kernel
theorem dX10_findPlacements_184 : decode cX10_findPlacements 184 = .ok (.iload_n 1, 1) := by decide +kernel
theorem dX10_findPlacements_185 : decode cX10_findPlacements 185 = .ok (.invokevirtual 209, 3) := by decide +kernel
theorem dX10_findPlacements_188 : decode cX10_findPlacements 188 = .ok (.iconst 2, 1) := by decide +kernel
theorem dX10_findPlacements_189 : decode cX10_findPlacements 189 = .ok (.if_icmp .le 51, 3) := by decide +kernel
theorem dX10_findPlacements_192 : decode cX10_findPlacements 192 = .ok (.iload 8, 2) := by decide +kernel
theorem dX10_findPlacements_194 : decode cX10_findPlacements 194 = .ok (.iload 7, 2) := by decide +kernel
theorem dX10_findPlacements_196 : decode cX10_findPlacements 196 = .ok (.aload_n 0, 1) := by decide +kernel
theorem dX10_findPlacements_197 : decode cX10_findPlacements 197 = .ok (.iload_n 1, 1) := by decide +kernel
theorem dX10_findPlacements_198 : decode cX10_findPlacements 198 = .ok (.iconst 2, 1) := by decide +kernel
theorem dX10_findPlacements_199 : decode cX10_findPlacements 199 = .ok (.iconst 5, 1) := by decide +kernel
theorem dX10_findPlacements_200 : decode cX10_findPlacements 200 = .ok (.invokevirtual 194, 3) := by decide +kernel
theorem dX10_findPlacements_203 : decode cX10_findPlacements 203 = .ok (.iadd, 1) := by decide +kernel
theorem dX10_findPlacements_204 : decode cX10_findPlacements 204 = .ok (.if_icmp .gt 36, 3) := by decide +kernel
theorem dX10_findPlacements_207 : decode cX10_findPlacements 207 = .ok (.aload_n 0, 1) := by decide +kernel
theorem dX10_findPlacements_208 : decode cX10_findPlacements 208 = .ok (.iload_n 1, 1) := by decide +kernel
theorem dX10_findPlacements_209 : decode cX10_findPlacements 209 = .ok (.iconst 2, 1) := by decide +kernel
theorem dX10_findPlacements_210 : decode cX10_findPlacements 210 = .ok (.iload 8, 2) := by decide +kernel
theorem dX10_findPlacements_212 : decode cX10_findPlacements 212 = .ok (.invokevirtual 206, 3) := by decide +kernel
theorem dX10_findPlacements_215 : decode cX10_findPlacements 215 = .ok (.istore 9, 2) := by decide +kernel
theorem dX10_findPlacements_217 : decode cX10_findPlacements 217 = .ok (.iload 9, 2) := by decide +kernel
theorem dX10_findPlacements_219 : decode cX10_findPlacements 219 = .ok (.ifCond .eq 15, 3) := by decide +kernel
theorem dX10_findPlacements_222 : decode cX10_findPlacements 222 = .ok (.aload_n 0, 1) := by decide +kernel
theorem dX10_findPlacements_223 : decode cX10_findPlacements 223 = .ok (.iload_n 1, 1) := by decide +kernel
theorem dX10_findPlacements_224 : decode cX10_findPlacements 224 = .ok (.iload_n 3, 1) := by decide +kernel
theorem dX10_findPlacements_225 : decode cX10_findPlacements 225 = .ok (.iload 6, 2) := by decide +kernel
theorem dX10_findPlacements_227 : decode cX10_findPlacements 227 = .ok (.ior, 1) := by decide +kernel
theorem dX10_findPlacements_228 : decode cX10_findPlacements 228 = .ok (.iload 9, 2) := by decide +kernel
theorem dX10_findPlacements_230 : decode cX10_findPlacements 230 = .ok (.ior, 1) := by decide +kernel
theorem dX10_findPlacements_231 : decode cX10_findPlacements 231 = .ok (.invokevirtual 212, 3) := by decide +kernel
theorem dX10_findPlacements_234 : decode cX10_findPlacements 234 = .ok (.iinc 8 1, 3) := by decide +kernel
theorem dX10_findPlacements_237 : decode cX10_findPlacements 237 = .ok (.goto (-59), 3) := by decide +kernel
theorem dX10_findPlacements_240 : decode cX10_findPlacements 240 = .ok (.iinc 5 1, 3) := by decide +kernel
theorem dX10_findPlacements_243 : decode cX10_findPlacements 243 = .ok (.goto (-163), 3) := by decide +kernel
theorem dX10_findPlacements_246 : decode cX10_findPlacements 246 = .ok (.iinc 2 1, 3) := by decide +kernel
theorem dX10_findPlacements_249 : decode cX10_findPlacements 249 = .ok (.goto (-240), 3) := by decide +kernel
theorem dX10_findPlacements_252 : decode cX10_findPlacements 252 = .ok (.return_, 1) := by decide +kernel
theorem dX10_placements_0 : decode cX10_placements 0 = .ok (.aload_n 0, 1) := by decide +kernel
theorem dX10_placements_1 : decode cX10_placements 1 = .ok (.iload_n 1, 1) := by decide +kernel
theorem dX10_placements_2 : decode cX10_placements 2 = .ok (.invokevirtual 187, 3) := by decide +kernel
theorem dX10_placements_5 : decode cX10_placements 5 = .ok (.ifCond .ne 6, 3) := by decide +kernel
theorem dX10_placements_8 : decode cX10_placements 8 = .ok (.bipush (-2), 2) := by decide +kernel
theorem dX10_placements_10 : decode cX10_placements 10 = .ok (.ireturn, 1) := by decide +kernel
theorem dX10_placements_11 : decode cX10_placements 11 = .ok (.aload_n 0, 1) := by decide +kernel
theorem dX10_placements_12 : decode cX10_placements 12 = .ok (.iload_n 1, 1) := by decide +kernel
theorem dX10_placements_13 : decode cX10_placements 13 = .ok (.invokevirtual 216, 3) := by decide +kernel
theorem dX10_placements_16 : decode cX10_placements 16 = .ok (.aload_n 0, 1) := by decide +kernel
theorem dX10_placements_17 : decode cX10_placements 17 = .ok (.getfield 50, 3) := by decide +kernel
theorem dX10_placements_20 : decode cX10_placements 20 = .ok (.iload_n 1, 1) := by decide +kernel
theorem dX10_placements_21 : decode cX10_placements 21 = .ok (.iaload, 1) := by decide +kernel
theorem dX10_placements_22 : decode cX10_placements 22 = .ok (.ireturn, 1) := by decide +kernel
theorem dX10_placement_0 : decode cX10_placement 0 = .ok (.aload_n 0, 1) := by decide +kernel
theorem dX10_placement_1 : decode cX10_placement 1 = .ok (.iload_n 1, 1) := by decide +kernel
theorem dX10_placement_2 : decode cX10_placement 2 = .ok (.invokevirtual 187, 3) := by decide +kernel
theorem dX10_placement_5 : decode cX10_placement 5 = .ok (.ifCond .ne 6, 3) := by decide +kernel
theorem dX10_placement_8 : decode cX10_placement 8 = .ok (.bipush (-2), 2) := by decide +kernel
theorem dX10_placement_10 : decode cX10_placement 10 = .ok (.ireturn, 1) := by decide +kernel
theorem dX10_placement_11 : decode cX10_placement 11 = .ok (.aload_n 0, 1) := by decide +kernel
theorem dX10_placement_12 : decode cX10_placement 12 = .ok (.iload_n 1, 1) := by decide +kernel
theorem dX10_placement_13 : decode cX10_placement 13 = .ok (.invokevirtual 216, 3) := by decide +kernel
theorem dX10_placement_16 : decode cX10_placement 16 = .ok (.iload_n 2, 1) := by decide +kernel
theorem dX10_placement_17 : decode cX10_placement 17 = .ok (.iconst 0, 1) := by decide +kernel
theorem dX10_placement_18 : decode cX10_placement 18 = .ok (.aload_n 0, 1) := by decide +kernel
theorem dX10_placement_19 : decode cX10_placement 19 = .ok (.getfield 50, 3) := by decide +kernel
theorem dX10_placement_22 : decode cX10_placement 22 = .ok (.iload_n 1, 1) := by decide +kernel
theorem dX10_placement_23 : decode cX10_placement 23 = .ok (.iaload, 1) := by decide +kernel
theorem dX10_placement_24 : decode cX10_placement 24 = .ok (.iconst 1, 1) := by decide +kernel
theorem dX10_placement_25 : decode cX10_placement 25 = .ok (.isub, 1) := by decide +kernel
theorem dX10_placement_26 : decode cX10_placement 26 = .ok (.invokestatic 87, 3) := by decide +kernel
theorem dX10_placement_29 : decode cX10_placement 29 = .ok (.ifCond .eq 18, 3) := by decide +kernel
theorem dX10_placement_32 : decode cX10_placement 32 = .ok (.aload_n 0, 1) := by decide +kernel
theorem dX10_placement_33 : decode cX10_placement 33 = .ok (.getfield 53, 3) := by decide +kernel
theorem dX10_placement_36 : decode cX10_placement 36 = .ok (.sipush 200, 3) := by decide +kernel
theorem dX10_placement_39 : decode cX10_placement 39 = .ok (.iload_n 1, 1) := by decide +kernel
theorem dX10_placement_40 : decode cX10_placement 40 = .ok (.imul, 1) := by decide +kernel
theorem dX10_placement_41 : decode cX10_placement 41 = .ok (.iload_n 2, 1) := by decide +kernel
theorem dX10_placement_42 : decode cX10_placement 42 = .ok (.iadd, 1) := by decide +kernel
theorem dX10_placement_43 : decode cX10_placement 43 = .ok (.iaload, 1) := by decide +kernel
theorem dX10_placement_44 : decode cX10_placement 44 = .ok (.goto 5, 3) := by decide +kernel
theorem dX10_placement_47 : decode cX10_placement 47 = .ok (.bipush (-3), 2) := by decide +kernel
theorem dX10_placement_49 : decode cX10_placement 49 = .ok (.ireturn, 1) := by decide +kernel
theorem dX10_goWith_0 : decode cX10_goWith 0 = .ok (.aload_n 0, 1) := by decide +kernel
theorem dX10_goWith_1 : decode cX10_goWith 1 = .ok (.getfield 47, 3) := by decide +kernel
theorem dX10_goWith_4 : decode cX10_goWith 4 = .ok (.bipush 23, 2) := by decide +kernel
theorem dX10_goWith_6 : decode cX10_goWith 6 = .ok (.iload_n 1, 1) := by decide +kernel
theorem dX10_goWith_7 : decode cX10_goWith 7 = .ok (.imul, 1) := by decide +kernel
theorem dX10_goWith_8 : decode cX10_goWith 8 = .ok (.iconst 1, 1) := by decide +kernel
theorem dX10_goWith_9 : decode cX10_goWith 9 = .ok (.iadd, 1) := by decide +kernel
theorem dX10_goWith_10 : decode cX10_goWith 10 = .ok (.iaload, 1) := by decide +kernel
theorem dX10_goWith_11 : decode cX10_goWith 11 = .ok (.iload 4, 2) := by decide +kernel
theorem dX10_goWith_13 : decode cX10_goWith 13 = .ok (.if_icmp .ne 18, 3) := by decide +kernel
theorem dX10_goWith_16 : decode cX10_goWith 16 = .ok (.aload_n 0, 1) := by decide +kernel
theorem dX10_goWith_17 : decode cX10_goWith 17 = .ok (.getfield 53, 3) := by decide +kernel
theorem dX10_goWith_20 : decode cX10_goWith 20 = .ok (.sipush 200, 3) := by decide +kernel
theorem dX10_goWith_23 : decode cX10_goWith 23 = .ok (.iload_n 1, 1) := by decide +kernel
theorem dX10_goWith_24 : decode cX10_goWith 24 = .ok (.imul, 1) := by decide +kernel
theorem dX10_goWith_25 : decode cX10_goWith 25 = .ok (.iload_n 2, 1) := by decide +kernel
theorem dX10_goWith_26 : decode cX10_goWith 26 = .ok (.iadd, 1) := by decide +kernel
theorem dX10_goWith_27 : decode cX10_goWith 27 = .ok (.iaload, 1) := by decide +kernel
theorem dX10_goWith_28 : decode cX10_goWith 28 = .ok (.goto 15, 3) := by decide +kernel
theorem dX10_goWith_31 : decode cX10_goWith 31 = .ok (.aload_n 0, 1) := by decide +kernel
theorem dX10_goWith_32 : decode cX10_goWith 32 = .ok (.getfield 56, 3) := by decide +kernel
theorem dX10_goWith_35 : decode cX10_goWith 35 = .ok (.sipush 200, 3) := by decide +kernel
theorem dX10_goWith_38 : decode cX10_goWith 38 = .ok (.iload_n 1, 1) := by decide +kernel
theorem dX10_goWith_39 : decode cX10_goWith 39 = .ok (.imul, 1) := by decide +kernel
theorem dX10_goWith_40 : decode cX10_goWith 40 = .ok (.iload_n 2, 1) := by decide +kernel
theorem dX10_goWith_41 : decode cX10_goWith 41 = .ok (.iadd, 1) := by decide +kernel
theorem dX10_goWith_42 : decode cX10_goWith 42 = .ok (.iaload, 1) := by decide +kernel
theorem dX10_goWith_43 : decode cX10_goWith 43 = .ok (.iload_n 3, 1) := by decide +kernel
theorem dX10_goWith_44 : decode cX10_goWith 44 = .ok (.iand, 1) := by decide +kernel
theorem dX10_goWith_45 : decode cX10_goWith 45 = .ok (.ifCond .ne 7, 3) := by decide +kernel
theorem dX10_goWith_48 : decode cX10_goWith 48 = .ok (.iconst 1, 1) := by decide +kernel
theorem dX10_goWith_49 : decode cX10_goWith 49 = .ok (.goto 4, 3) := by decide +kernel
theorem dX10_goWith_52 : decode cX10_goWith 52 = .ok (.iconst 0, 1) := by decide +kernel
theorem dX10_goWith_53 : decode cX10_goWith 53 = .ok (.ireturn, 1) := by decide +kernel
theorem dX10_goWithAll_0 : decode cX10_goWithAll 0 = .ok (.aload_n 0, 1) := by decide +kernel
theorem dX10_goWithAll_1 : decode cX10_goWithAll 1 = .ok (.getfield 59, 3) := by decide +kernel
theorem dX10_goWithAll_4 : decode cX10_goWithAll 4 = .ok (.sipush 200, 3) := by decide +kernel
theorem dX10_goWithAll_7 : decode cX10_goWithAll 7 = .ok (.iload_n 1, 1) := by decide +kernel
theorem dX10_goWithAll_8 : decode cX10_goWithAll 8 = .ok (.imul, 1) := by decide +kernel
theorem dX10_goWithAll_9 : decode cX10_goWithAll 9 = .ok (.iload_n 2, 1) := by decide +kernel
theorem dX10_goWithAll_10 : decode cX10_goWithAll 10 = .ok (.iadd, 1) := by decide +kernel
theorem dX10_goWithAll_11 : decode cX10_goWithAll 11 = .ok (.baload, 1) := by decide +kernel
theorem dX10_goWithAll_12 : decode cX10_goWithAll 12 = .ok (.ifCond .ne 7, 3) := by decide +kernel
theorem dX10_goWithAll_15 : decode cX10_goWithAll 15 = .ok (.iconst 1, 1) := by decide +kernel
theorem dX10_goWithAll_16 : decode cX10_goWithAll 16 = .ok (.goto 4, 3) := by decide +kernel
theorem dX10_goWithAll_19 : decode cX10_goWithAll 19 = .ok (.iconst 0, 1) := by decide +kernel
theorem dX10_goWithAll_20 : decode cX10_goWithAll 20 = .ok (.istore_n 3, 1) := by decide +kernel
theorem dX10_goWithAll_21 : decode cX10_goWithAll 21 = .ok (.iconst 0, 1) := by decide +kernel
theorem dX10_goWithAll_22 : decode cX10_goWithAll 22 = .ok (.istore 4, 2) := by decide +kernel
theorem dX10_goWithAll_24 : decode cX10_goWithAll 24 = .ok (.iload 4, 2) := by decide +kernel
theorem dX10_goWithAll_26 : decode cX10_goWithAll 26 = .ok (.iload_n 1, 1) := by decide +kernel
theorem dX10_goWithAll_27 : decode cX10_goWithAll 27 = .ok (.if_icmp .ge 76, 3) := by decide +kernel
theorem dX10_goWithAll_30 : decode cX10_goWithAll 30 = .ok (.iload_n 3, 1) := by decide +kernel
theorem dX10_goWithAll_31 : decode cX10_goWithAll 31 = .ok (.ifCond .eq 72, 3) := by decide +kernel
theorem dX10_goWithAll_34 : decode cX10_goWithAll 34 = .ok (.aload_n 0, 1) := by decide +kernel
theorem dX10_goWithAll_35 : decode cX10_goWithAll 35 = .ok (.getfield 63, 3) := by decide +kernel
theorem dX10_goWithAll_38 : decode cX10_goWithAll 38 = .ok (.iload 4, 2) := by decide +kernel
theorem dX10_goWithAll_40 : decode cX10_goWithAll 40 = .ok (.iaload, 1) := by decide +kernel
theorem dX10_goWithAll_41 : decode cX10_goWithAll 41 = .ok (.aload_n 0, 1) := by decide +kernel
theorem dX10_goWithAll_42 : decode cX10_goWithAll 42 = .ok (.getfield 50, 3) := by decide +kernel
theorem dX10_goWithAll_45 : decode cX10_goWithAll 45 = .ok (.iload 4, 2) := by decide +kernel
theorem dX10_goWithAll_47 : decode cX10_goWithAll 47 = .ok (.iaload, 1) := by decide +kernel
theorem dX10_goWithAll_48 : decode cX10_goWithAll 48 = .ok (.if_icmp .ge 43, 3) := by decide +kernel
theorem dX10_goWithAll_51 : decode cX10_goWithAll 51 = .ok (.aload_n 0, 1) := by decide +kernel
theorem dX10_goWithAll_52 : decode cX10_goWithAll 52 = .ok (.iload_n 1, 1) := by decide +kernel
theorem dX10_goWithAll_53 : decode cX10_goWithAll 53 = .ok (.iload_n 2, 1) := by decide +kernel
theorem dX10_goWithAll_54 : decode cX10_goWithAll 54 = .ok (.aload_n 0, 1) := by decide +kernel
theorem dX10_goWithAll_55 : decode cX10_goWithAll 55 = .ok (.getfield 53, 3) := by decide +kernel
theorem dX10_goWithAll_58 : decode cX10_goWithAll 58 = .ok (.sipush 200, 3) := by decide +kernel
theorem dX10_goWithAll_61 : decode cX10_goWithAll 61 = .ok (.iload 4, 2) := by decide +kernel
theorem dX10_goWithAll_63 : decode cX10_goWithAll 63 = .ok (.imul, 1) := by decide +kernel
theorem dX10_goWithAll_64 : decode cX10_goWithAll 64 = .ok (.aload_n 0, 1) := by decide +kernel
theorem dX10_goWithAll_65 : decode cX10_goWithAll 65 = .ok (.getfield 63, 3) := by decide +kernel
theorem dX10_goWithAll_68 : decode cX10_goWithAll 68 = .ok (.iload 4, 2) := by decide +kernel
theorem dX10_goWithAll_70 : decode cX10_goWithAll 70 = .ok (.iaload, 1) := by decide +kernel
theorem dX10_goWithAll_71 : decode cX10_goWithAll 71 = .ok (.iadd, 1) := by decide +kernel
theorem dX10_goWithAll_72 : decode cX10_goWithAll 72 = .ok (.iaload, 1) := by decide +kernel
theorem dX10_goWithAll_73 : decode cX10_goWithAll 73 = .ok (.aload_n 0, 1) := by decide +kernel
theorem dX10_goWithAll_74 : decode cX10_goWithAll 74 = .ok (.getfield 47, 3) := by decide +kernel
theorem dX10_goWithAll_77 : decode cX10_goWithAll 77 = .ok (.bipush 23, 2) := by decide +kernel
theorem dX10_goWithAll_79 : decode cX10_goWithAll 79 = .ok (.iload 4, 2) := by decide +kernel
theorem dX10_goWithAll_81 : decode cX10_goWithAll 81 = .ok (.imul, 1) := by decide +kernel
theorem dX10_goWithAll_82 : decode cX10_goWithAll 82 = .ok (.iconst 1, 1) := by decide +kernel
theorem dX10_goWithAll_83 : decode cX10_goWithAll 83 = .ok (.iadd, 1) := by decide +kernel
theorem dX10_goWithAll_84 : decode cX10_goWithAll 84 = .ok (.iaload, 1) := by decide +kernel
theorem dX10_goWithAll_85 : decode cX10_goWithAll 85 = .ok (.invokevirtual 219, 3) := by decide +kernel
theorem dX10_goWithAll_88 : decode cX10_goWithAll 88 = .ok (.ifCond .eq 7, 3) := by decide +kernel
theorem dX10_goWithAll_91 : decode cX10_goWithAll 91 = .ok (.iconst 1, 1) := by decide +kernel
theorem dX10_goWithAll_92 : decode cX10_goWithAll 92 = .ok (.goto 4, 3) := by decide +kernel
theorem dX10_goWithAll_95 : decode cX10_goWithAll 95 = .ok (.iconst 0, 1) := by decide +kernel
theorem dX10_goWithAll_96 : decode cX10_goWithAll 96 = .ok (.istore_n 3, 1) := by decide +kernel
theorem dX10_goWithAll_97 : decode cX10_goWithAll 97 = .ok (.iinc 4 1, 3) := by decide +kernel
theorem dX10_goWithAll_100 : decode cX10_goWithAll 100 = .ok (.goto (-76), 3) := by decide +kernel
theorem dX10_goWithAll_103 : decode cX10_goWithAll 103 = .ok (.iload_n 3, 1) := by decide +kernel
theorem dX10_goWithAll_104 : decode cX10_goWithAll 104 = .ok (.ireturn, 1) := by decide +kernel
theorem dX10_findAll_0 : decode cX10_findAll 0 = .ok (.iconst 0, 1) := by decide +kernel
theorem dX10_findAll_1 : decode cX10_findAll 1 = .ok (.istore_n 1, 1) := by decide +kernel
theorem dX10_findAll_2 : decode cX10_findAll 2 = .ok (.iload_n 1, 1) := by decide +kernel
theorem dX10_findAll_3 : decode cX10_findAll 3 = .ok (.aload_n 0, 1) := by decide +kernel
theorem dX10_findAll_4 : decode cX10_findAll 4 = .ok (.getfield 94, 3) := by decide +kernel
theorem dX10_findAll_7 : decode cX10_findAll 7 = .ok (.if_icmp .ge 45, 3) := by decide +kernel
theorem dX10_findAll_10 : decode cX10_findAll 10 = .ok (.aload_n 0, 1) := by decide +kernel
theorem dX10_findAll_11 : decode cX10_findAll 11 = .ok (.iload_n 1, 1) := by decide +kernel
theorem dX10_findAll_12 : decode cX10_findAll 12 = .ok (.invokevirtual 216, 3) := by decide +kernel
theorem dX10_findAll_15 : decode cX10_findAll 15 = .ok (.iconst 0, 1) := by decide +kernel
theorem dX10_findAll_16 : decode cX10_findAll 16 = .ok (.istore_n 2, 1) := by decide +kernel
theorem dX10_findAll_17 : decode cX10_findAll 17 = .ok (.iload_n 2, 1) := by decide +kernel
theorem dX10_findAll_18 : decode cX10_findAll 18 = .ok (.aload_n 0, 1) := by decide +kernel
theorem dX10_findAll_19 : decode cX10_findAll 19 = .ok (.getfield 50, 3) := by decide +kernel
theorem dX10_findAll_22 : decode cX10_findAll 22 = .ok (.iload_n 1, 1) := by decide +kernel
theorem dX10_findAll_23 : decode cX10_findAll 23 = .ok (.iaload, 1) := by decide +kernel
theorem dX10_findAll_24 : decode cX10_findAll 24 = .ok (.if_icmp .ge 22, 3) := by decide +kernel
theorem dX10_findAll_27 : decode cX10_findAll 27 = .ok (.aload_n 0, 1) := by decide +kernel
theorem dX10_findAll_28 : decode cX10_findAll 28 = .ok (.getfield 59, 3) := by decide +kernel
theorem dX10_findAll_31 : decode cX10_findAll 31 = .ok (.sipush 200, 3) := by decide +kernel
theorem dX10_findAll_34 : decode cX10_findAll 34 = .ok (.iload_n 1, 1) := by decide +kernel
theorem dX10_findAll_35 : decode cX10_findAll 35 = .ok (.imul, 1) := by decide +kernel
theorem dX10_findAll_36 : decode cX10_findAll 36 = .ok (.iload_n 2, 1) := by decide +kernel
theorem dX10_findAll_37 : decode cX10_findAll 37 = .ok (.iadd, 1) := by decide +kernel
theorem dX10_findAll_38 : decode cX10_findAll 38 = .ok (.iconst 0, 1) := by decide +kernel
theorem dX10_findAll_39 : decode cX10_findAll 39 = .ok (.bastore, 1) := by decide +kernel
theorem dX10_findAll_40 : decode cX10_findAll 40 = .ok (.iinc 2 1, 3) := by decide +kernel
theorem dX10_findAll_43 : decode cX10_findAll 43 = .ok (.goto (-26), 3) := by decide +kernel
theorem dX10_findAll_46 : decode cX10_findAll 46 = .ok (.iinc 1 1, 3) := by decide +kernel
theorem dX10_findAll_49 : decode cX10_findAll 49 = .ok (.goto (-47), 3) := by decide +kernel
theorem dX10_findAll_52 : decode cX10_findAll 52 = .ok (.return_, 1) := by decide +kernel
theorem dX10_findBest_0 : decode cX10_findBest 0 = .ok (.iconst 0, 1) := by decide +kernel
theorem dX10_findBest_1 : decode cX10_findBest 1 = .ok (.istore_n 1, 1) := by decide +kernel
theorem dX10_findBest_2 : decode cX10_findBest 2 = .ok (.iconst 0, 1) := by decide +kernel
theorem dX10_findBest_3 : decode cX10_findBest 3 = .ok (.istore_n 2, 1) := by decide +kernel
theorem dX10_findBest_4 : decode cX10_findBest 4 = .ok (.iconst 0, 1) := by decide +kernel
theorem dX10_findBest_5 : decode cX10_findBest 5 = .ok (.istore_n 3, 1) := by decide +kernel
theorem dX10_findBest_6 : decode cX10_findBest 6 = .ok (.iload_n 3, 1) := by decide +kernel
theorem dX10_findBest_7 : decode cX10_findBest 7 = .ok (.aload_n 0, 1) := by decide +kernel
theorem dX10_findBest_8 : decode cX10_findBest 8 = .ok (.getfield 94, 3) := by decide +kernel
theorem dX10_findBest_11 : decode cX10_findBest 11 = .ok (.if_icmp .ge 39, 3) := by decide +kernel
theorem dX10_findBest_14 : decode cX10_findBest 14 = .ok (.aload_n 0, 1) := by decide +kernel
theorem dX10_findBest_15 : decode cX10_findBest 15 = .ok (.getfield 63, 3) := by decide +kernel
theorem dX10_findBest_18 : decode cX10_findBest 18 = .ok (.iload_n 3, 1) := by decide +kernel
theorem dX10_findBest_19 : decode cX10_findBest 19 = .ok (.iconst (-1), 1) := by decide +kernel
theorem dX10_findBest_20 : decode cX10_findBest 20 = .ok (.iastore, 1) := by decide +kernel
theorem dX10_findBest_21 : decode cX10_findBest 21 = .ok (.aload_n 0, 1) := by decide +kernel
theorem dX10_findBest_22 : decode cX10_findBest 22 = .ok (.getfield 66, 3) := by decide +kernel
theorem dX10_findBest_25 : decode cX10_findBest 25 = .ok (.iload_n 3, 1) := by decide +kernel
theorem dX10_findBest_26 : decode cX10_findBest 26 = .ok (.iconst (-1), 1) := by decide +kernel
theorem dX10_findBest_27 : decode cX10_findBest 27 = .ok (.iastore, 1) := by decide +kernel
theorem dX10_findBest_28 : decode cX10_findBest 28 = .ok (.iload_n 1, 1) := by decide +kernel
theorem dX10_findBest_29 : decode cX10_findBest 29 = .ok (.aload_n 0, 1) := by decide +kernel
theorem dX10_findBest_30 : decode cX10_findBest 30 = .ok (.iload_n 3, 1) := by decide +kernel
theorem dX10_findBest_31 : decode cX10_findBest 31 = .ok (.invokevirtual 222, 3) := by decide +kernel
theorem dX10_findBest_34 : decode cX10_findBest 34 = .ok (.iadd, 1) := by decide +kernel
theorem dX10_findBest_35 : decode cX10_findBest 35 = .ok (.istore_n 1, 1) := by decide +kernel
theorem dX10_findBest_36 : decode cX10_findBest 36 = .ok (.iload_n 2, 1) := by decide +kernel
theorem dX10_findBest_37 : decode cX10_findBest 37 = .ok (.aload_n 0, 1) := by decide +kernel
theorem dX10_findBest_38 : decode cX10_findBest 38 = .ok (.iload_n 3, 1) := by decide +kernel
theorem dX10_findBest_39 : decode cX10_findBest 39 = .ok (.invokevirtual 225, 3) := by decide +kernel
theorem dX10_findBest_42 : decode cX10_findBest 42 = .ok (.iadd, 1) := by decide +kernel
theorem dX10_findBest_43 : decode cX10_findBest 43 = .ok (.istore_n 2, 1) := by decide +kernel
theorem dX10_findBest_44 : decode cX10_findBest 44 = .ok (.iinc 3 1, 3) := by decide +kernel
theorem dX10_findBest_47 : decode cX10_findBest 47 = .ok (.goto (-41), 3) := by decide +kernel
theorem dX10_findBest_50 : decode cX10_findBest 50 = .ok (.aload_n 0, 1) := by decide +kernel
theorem dX10_findBest_51 : decode cX10_findBest 51 = .ok (.iconst (-1), 1) := by decide +kernel
theorem dX10_findBest_52 : decode cX10_findBest 52 = .ok (.putfield 228, 3) := by decide +kernel
theorem dX10_findBest_55 : decode cX10_findBest 55 = .ok (.aload_n 0, 1) := by decide +kernel
theorem dX10_findBest_56 : decode cX10_findBest 56 = .ok (.iconst 0, 1) := by decide +kernel
theorem dX10_findBest_57 : decode cX10_findBest 57 = .ok (.putfield 231, 3) := by decide +kernel
theorem dX10_findBest_60 : decode cX10_findBest 60 = .ok (.iconst 0, 1) := by decide +kernel
theorem dX10_findBest_61 : decode cX10_findBest 61 = .ok (.istore_n 3, 1) := by decide +kernel
theorem dX10_findBest_62 : decode cX10_findBest 62 = .ok (.iconst 0, 1) := by decide +kernel
theorem dX10_findBest_63 : decode cX10_findBest 63 = .ok (.istore 4, 2) := by decide +kernel
theorem dX10_findBest_65 : decode cX10_findBest 65 = .ok (.iconst 0, 1) := by decide +kernel
theorem dX10_findBest_66 : decode cX10_findBest 66 = .ok (.istore 5, 2) := by decide +kernel
theorem dX10_findBest_68 : decode cX10_findBest 68 = .ok (.iload 5, 2) := by decide +kernel
theorem dX10_findBest_70 : decode cX10_findBest 70 = .ok (.ifCond .lt 514, 3) := by decide +kernel
theorem dX10_findBest_73 : decode cX10_findBest 73 = .ok (.iload 5, 2) := by decide +kernel
theorem dX10_findBest_75 : decode cX10_findBest 75 = .ok (.aload_n 0, 1) := by decide +kernel
theorem dX10_findBest_76 : decode cX10_findBest 76 = .ok (.getfield 94, 3) := by decide +kernel
theorem dX10_findBest_79 : decode cX10_findBest 79 = .ok (.if_icmp .ne 7, 3) := by decide +kernel
theorem dX10_findBest_82 : decode cX10_findBest 82 = .ok (.iconst 1, 1) := by decide +kernel
theorem dX10_findBest_83 : decode cX10_findBest 83 = .ok (.goto 4, 3) := by decide +kernel
theorem dX10_findBest_86 : decode cX10_findBest 86 = .ok (.iconst 0, 1) := by decide +kernel
theorem dX10_findBest_87 : decode cX10_findBest 87 = .ok (.istore 6, 2) := by decide +kernel
theorem dX10_findBest_89 : decode cX10_findBest 89 = .ok (.iload 6, 2) := by decide +kernel
theorem dX10_findBest_91 : decode cX10_findBest 91 = .ok (.ifCond .eq 95, 3) := by decide +kernel
theorem dX10_findBest_94 : decode cX10_findBest 94 = .ok (.iload_n 3, 1) := by decide +kernel
theorem dX10_findBest_95 : decode cX10_findBest 95 = .ok (.aload_n 0, 1) := by decide +kernel
theorem dX10_findBest_96 : decode cX10_findBest 96 = .ok (.getfield 228, 3) := by decide +kernel
theorem dX10_findBest_99 : decode cX10_findBest 99 = .ok (.if_icmp .gt 20, 3) := by decide +kernel
theorem dX10_findBest_102 : decode cX10_findBest 102 = .ok (.iload_n 3, 1) := by decide +kernel
theorem dX10_findBest_103 : decode cX10_findBest 103 = .ok (.aload_n 0, 1) := by decide +kernel
theorem dX10_findBest_104 : decode cX10_findBest 104 = .ok (.getfield 228, 3) := by decide +kernel
theorem dX10_findBest_107 : decode cX10_findBest 107 = .ok (.if_icmp .ne 459, 3) := by decide +kernel
theorem dX10_findBest_110 : decode cX10_findBest 110 = .ok (.iload 4, 2) := by decide +kernel
theorem dX10_findBest_112 : decode cX10_findBest 112 = .ok (.aload_n 0, 1) := by decide +kernel
theorem dX10_findBest_113 : decode cX10_findBest 113 = .ok (.getfield 231, 3) := by decide +kernel
theorem dX10_findBest_116 : decode cX10_findBest 116 = .ok (.if_icmp .ge 450, 3) := by decide +kernel
theorem dX10_findBest_119 : decode cX10_findBest 119 = .ok (.aload_n 0, 1) := by decide +kernel
theorem dX10_findBest_120 : decode cX10_findBest 120 = .ok (.iload_n 3, 1) := by decide +kernel
theorem dX10_findBest_121 : decode cX10_findBest 121 = .ok (.putfield 228, 3) := by decide +kernel
theorem dX10_findBest_124 : decode cX10_findBest 124 = .ok (.aload_n 0, 1) := by decide +kernel
theorem dX10_findBest_125 : decode cX10_findBest 125 = .ok (.iload 4, 2) := by decide +kernel
theorem dX10_findBest_127 : decode cX10_findBest 127 = .ok (.putfield 231, 3) := by decide +kernel
theorem dX10_findBest_130 : decode cX10_findBest 130 = .ok (.iconst 0, 1) := by decide +kernel
theorem dX10_findBest_131 : decode cX10_findBest 131 = .ok (.istore 7, 2) := by decide +kernel
theorem dX10_findBest_133 : decode cX10_findBest 133 = .ok (.iload 7, 2) := by decide +kernel
theorem dX10_findBest_135 : decode cX10_findBest 135 = .ok (.aload_n 0, 1) := by decide +kernel
theorem dX10_findBest_136 : decode cX10_findBest 136 = .ok (.getfield 94, 3) := by decide +kernel
theorem dX10_findBest_139 : decode cX10_findBest 139 = .ok (.if_icmp .ge 44, 3) := by decide +kernel
theorem dX10_findBest_142 : decode cX10_findBest 142 = .ok (.aload_n 0, 1) := by decide +kernel
theorem dX10_findBest_143 : decode cX10_findBest 143 = .ok (.getfield 66, 3) := by decide +kernel
theorem dX10_findBest_146 : decode cX10_findBest 146 = .ok (.iload 7, 2) := by decide +kernel
theorem dX10_findBest_148 : decode cX10_findBest 148 = .ok (.aload_n 0, 1) := by decide +kernel
theorem dX10_findBest_149 : decode cX10_findBest 149 = .ok (.getfield 63, 3) := by decide +kernel
theorem dX10_findBest_152 : decode cX10_findBest 152 = .ok (.iload 7, 2) := by decide +kernel
theorem dX10_findBest_154 : decode cX10_findBest 154 = .ok (.iaload, 1) := by decide +kernel
theorem dX10_findBest_155 : decode cX10_findBest 155 = .ok (.aload_n 0, 1) := by decide +kernel
theorem dX10_findBest_156 : decode cX10_findBest 156 = .ok (.getfield 50, 3) := by decide +kernel
theorem dX10_findBest_159 : decode cX10_findBest 159 = .ok (.iload 7, 2) := by decide +kernel
theorem dX10_findBest_161 : decode cX10_findBest 161 = .ok (.iaload, 1) := by decide +kernel
theorem dX10_findBest_162 : decode cX10_findBest 162 = .ok (.if_icmp .ge 13, 3) := by decide +kernel
theorem dX10_findBest_165 : decode cX10_findBest 165 = .ok (.aload_n 0, 1) := by decide +kernel
theorem dX10_findBest_166 : decode cX10_findBest 166 = .ok (.getfield 63, 3) := by decide +kernel
theorem dX10_findBest_169 : decode cX10_findBest 169 = .ok (.iload 7, 2) := by decide +kernel
theorem dX10_findBest_171 : decode cX10_findBest 171 = .ok (.iaload, 1) := by decide +kernel
theorem dX10_findBest_172 : decode cX10_findBest 172 = .ok (.goto 4, 3) := by decide +kernel
theorem dX10_findBest_175 : decode cX10_findBest 175 = .ok (.iconst (-1), 1) := by decide +kernel
theorem dX10_findBest_176 : decode cX10_findBest 176 = .ok (.iastore, 1) := by decide +kernel
theorem dX10_findBest_177 : decode cX10_findBest 177 = .ok (.iinc 7 1, 3) := by decide +kernel
theorem dX10_findBest_180 : decode cX10_findBest 180 = .ok (.goto (-47), 3) := by decide +kernel
theorem dX10_findBest_183 : decode cX10_findBest 183 = .ok (.goto 383, 3) := by decide +kernel
theorem dX10_findBest_186 : decode cX10_findBest 186 = .ok (.aload_n 0, 1) := by decide +kernel
theorem dX10_findBest_187 : decode cX10_findBest 187 = .ok (.getfield 63, 3) := by decide +kernel
theorem dX10_findBest_190 : decode cX10_findBest 190 = .ok (.iload 5, 2) := by decide +kernel
theorem dX10_findBest_192 : decode cX10_findBest 192 = .ok (.iaload, 1) := by decide +kernel
theorem dX10_findBest_193 : decode cX10_findBest 193 = .ok (.istore 7, 2) := by decide +kernel
theorem dX10_findBest_195 : decode cX10_findBest 195 = .ok (.iload 7, 2) := by decide +kernel
theorem dX10_findBest_197 : decode cX10_findBest 197 = .ok (.iconst (-1), 1) := by decide +kernel
theorem dX10_findBest_198 : decode cX10_findBest 198 = .ok (.if_icmp .ne 24, 3) := by decide +kernel
theorem dX10_findBest_201 : decode cX10_findBest 201 = .ok (.iload_n 1, 1) := by decide +kernel
theorem dX10_findBest_202 : decode cX10_findBest 202 = .ok (.aload_n 0, 1) := by decide +kernel
theorem dX10_findBest_203 : decode cX10_findBest 203 = .ok (.iload 5, 2) := by decide +kernel
theorem dX10_findBest_205 : decode cX10_findBest 205 = .ok (.invokevirtual 222, 3) := by decide +kernel
theorem dX10_findBest_208 : decode cX10_findBest 208 = .ok (.isub, 1) := by decide +kernel
theorem dX10_findBest_209 : decode cX10_findBest 209 = .ok (.istore_n 1, 1) := by decide +kernel
theorem dX10_findBest_210 : decode cX10_findBest 210 = .ok (.iload_n 2, 1) := by decide +kernel
theorem dX10_findBest_211 : decode cX10_findBest 211 = .ok (.aload_n 0, 1) := by decide +kernel
theorem dX10_findBest_212 : decode cX10_findBest 212 = .ok (.iload 5, 2) := by decide +kernel
theorem dX10_findBest_214 : decode cX10_findBest 214 = .ok (.invokevirtual 225, 3) := by decide +kernel
theorem dX10_findBest_217 : decode cX10_findBest 217 = .ok (.isub, 1) := by decide +kernel
theorem dX10_findBest_218 : decode cX10_findBest 218 = .ok (.istore_n 2, 1) := by decide +kernel
theorem dX10_findBest_219 : decode cX10_findBest 219 = .ok (.goto 35, 3) := by decide +kernel
theorem dX10_findBest_222 : decode cX10_findBest 222 = .ok (.iload 7, 2) := by decide +kernel
theorem dX10_findBest_224 : decode cX10_findBest 224 = .ok (.aload_n 0, 1) := by decide +kernel
theorem dX10_findBest_225 : decode cX10_findBest 225 = .ok (.getfield 50, 3) := by decide +kernel
theorem dX10_findBest_228 : decode cX10_findBest 228 = .ok (.iload 5, 2) := by decide +kernel
theorem dX10_findBest_230 : decode cX10_findBest 230 = .ok (.iaload, 1) := by decide +kernel
theorem dX10_findBest_231 : decode cX10_findBest 231 = .ok (.if_icmp .ge 23, 3) := by decide +kernel
theorem dX10_findBest_234 : decode cX10_findBest 234 = .ok (.iload_n 3, 1) := by decide +kernel
theorem dX10_findBest_235 : decode cX10_findBest 235 = .ok (.aload_n 0, 1) := by decide +kernel
theorem dX10_findBest_236 : decode cX10_findBest 236 = .ok (.iload 5, 2) := by decide +kernel
theorem dX10_findBest_238 : decode cX10_findBest 238 = .ok (.invokevirtual 222, 3) := by decide +kernel
theorem dX10_findBest_241 : decode cX10_findBest 241 = .ok (.isub, 1) := by decide +kernel
theorem dX10_findBest_242 : decode cX10_findBest 242 = .ok (.istore_n 3, 1) := by decide +kernel
theorem dX10_findBest_243 : decode cX10_findBest 243 = .ok (.iload 4, 2) := by decide +kernel
theorem dX10_findBest_245 : decode cX10_findBest 245 = .ok (.aload_n 0, 1) := by decide +kernel
theorem dX10_findBest_246 : decode cX10_findBest 246 = .ok (.iload 5, 2) := by decide +kernel
theorem dX10_findBest_248 : decode cX10_findBest 248 = .ok (.invokevirtual 225, 3) := by decide +kernel
theorem dX10_findBest_251 : decode cX10_findBest 251 = .ok (.isub, 1) := by decide +kernel
theorem dX10_findBest_252 : decode cX10_findBest 252 = .ok (.istore 4, 2) := by decide +kernel
theorem dX10_findBest_254 : decode cX10_findBest 254 = .ok (.iload 7, 2) := by decide +kernel
theorem dX10_findBest_256 : decode cX10_findBest 256 = .ok (.iconst 1, 1) := by decide +kernel
theorem dX10_findBest_257 : decode cX10_findBest 257 = .ok (.iadd, 1) := by decide +kernel
theorem dX10_findBest_258 : decode cX10_findBest 258 = .ok (.istore 8, 2) := by decide +kernel
theorem dX10_findBest_260 : decode cX10_findBest 260 = .ok (.iload_n 3, 1) := by decide +kernel
theorem dX10_findBest_261 : decode cX10_findBest 261 = .ok (.aload_n 0, 1) := by decide +kernel
theorem dX10_findBest_262 : decode cX10_findBest 262 = .ok (.iload 5, 2) := by decide +kernel
theorem dX10_findBest_264 : decode cX10_findBest 264 = .ok (.invokevirtual 222, 3) := by decide +kernel
theorem dX10_findBest_267 : decode cX10_findBest 267 = .ok (.iadd, 1) := by decide +kernel
theorem dX10_findBest_268 : decode cX10_findBest 268 = .ok (.iload_n 1, 1) := by decide +kernel
theorem dX10_findBest_269 : decode cX10_findBest 269 = .ok (.iadd, 1) := by decide +kernel
theorem dX10_findBest_270 : decode cX10_findBest 270 = .ok (.aload_n 0, 1) := by decide +kernel
theorem dX10_findBest_271 : decode cX10_findBest 271 = .ok (.getfield 228, 3) := by decide +kernel
theorem dX10_findBest_274 : decode cX10_findBest 274 = .ok (.if_icmp .lt 45, 3) := by decide +kernel
theorem dX10_findBest_277 : decode cX10_findBest 277 = .ok (.iload_n 3, 1) := by decide +kernel
theorem dX10_findBest_278 : decode cX10_findBest 278 = .ok (.aload_n 0, 1) := by decide +kernel
theorem dX10_findBest_279 : decode cX10_findBest 279 = .ok (.iload 5, 2) := by decide +kernel
theorem dX10_findBest_281 : decode cX10_findBest 281 = .ok (.invokevirtual 222, 3) := by decide +kernel
theorem dX10_findBest_284 : decode cX10_findBest 284 = .ok (.iadd, 1) := by decide +kernel
theorem dX10_findBest_285 : decode cX10_findBest 285 = .ok (.iload_n 1, 1) := by decide +kernel
theorem dX10_findBest_286 : decode cX10_findBest 286 = .ok (.iadd, 1) := by decide +kernel
theorem dX10_findBest_287 : decode cX10_findBest 287 = .ok (.aload_n 0, 1) := by decide +kernel
theorem dX10_findBest_288 : decode cX10_findBest 288 = .ok (.getfield 228, 3) := by decide +kernel
theorem dX10_findBest_291 : decode cX10_findBest 291 = .ok (.if_icmp .ne 32, 3) := by decide +kernel
theorem dX10_findBest_294 : decode cX10_findBest 294 = .ok (.iload 4, 2) := by decide +kernel
theorem dX10_findBest_296 : decode cX10_findBest 296 = .ok (.aload_n 0, 1) := by decide +kernel
theorem dX10_findBest_297 : decode cX10_findBest 297 = .ok (.iload 5, 2) := by decide +kernel
theorem dX10_findBest_299 : decode cX10_findBest 299 = .ok (.invokevirtual 225, 3) := by decide +kernel
theorem dX10_findBest_302 : decode cX10_findBest 302 = .ok (.iadd, 1) := by decide +kernel
theorem dX10_findBest_303 : decode cX10_findBest 303 = .ok (.iload_n 2, 1) := by decide +kernel
theorem dX10_findBest_304 : decode cX10_findBest 304 = .ok (.iadd, 1) := by decide +kernel
theorem dX10_findBest_305 : decode cX10_findBest 305 = .ok (.aload_n 0, 1) := by decide +kernel
theorem dX10_findBest_306 : decode cX10_findBest 306 = .ok (.getfield 231, 3) := by decide +kernel
theorem dX10_findBest_309 : decode cX10_findBest 309 = .ok (.if_icmp .lt 14, 3) := by decide +kernel
theorem dX10_findBest_312 : decode cX10_findBest 312 = .ok (.aload_n 0, 1) := by decide +kernel
theorem dX10_findBest_313 : decode cX10_findBest 313 = .ok (.getfield 228, 3) := by decide +kernel
theorem dX10_findBest_316 : decode cX10_findBest 316 = .ok (.ifCond .lt 7, 3) := by decide +kernel
theorem dX10_findBest_319 : decode cX10_findBest 319 = .ok (.iconst 1, 1) := by decide +kernel
theorem dX10_findBest_320 : decode cX10_findBest 320 = .ok (.goto 4, 3) := by decide +kernel
theorem dX10_findBest_323 : decode cX10_findBest 323 = .ok (.iconst 0, 1) := by decide +kernel
theorem dX10_findBest_324 : decode cX10_findBest 324 = .ok (.istore 9, 2) := by decide +kernel
theorem dX10_findBest_326 : decode cX10_findBest 326 = .ok (.iload_n 3, 1) := by decide +kernel
theorem dX10_findBest_327 : decode cX10_findBest 327 = .ok (.iload_n 1, 1) := by decide +kernel
theorem dX10_findBest_328 : decode cX10_findBest 328 = .ok (.iadd, 1) := by decide +kernel
theorem dX10_findBest_329 : decode cX10_findBest 329 = .ok (.aload_n 0, 1) := by decide +kernel
theorem dX10_findBest_330 : decode cX10_findBest 330 = .ok (.getfield 228, 3) := by decide +kernel
theorem dX10_findBest_333 : decode cX10_findBest 333 = .ok (.if_icmp .lt 31, 3) := by decide +kernel
theorem dX10_findBest_336 : decode cX10_findBest 336 = .ok (.iload_n 3, 1) := by decide +kernel
theorem dX10_findBest_337 : decode cX10_findBest 337 = .ok (.iload_n 1, 1) := by decide +kernel
theorem dX10_findBest_338 : decode cX10_findBest 338 = .ok (.iadd, 1) := by decide +kernel
theorem dX10_findBest_339 : decode cX10_findBest 339 = .ok (.aload_n 0, 1) := by decide +kernel
theorem dX10_findBest_340 : decode cX10_findBest 340 = .ok (.getfield 228, 3) := by decide +kernel
theorem dX10_findBest_343 : decode cX10_findBest 343 = .ok (.if_icmp .ne 25, 3) := by decide +kernel
theorem dX10_findBest_346 : decode cX10_findBest 346 = .ok (.iload 4, 2) := by decide +kernel
theorem dX10_findBest_348 : decode cX10_findBest 348 = .ok (.iload_n 2, 1) := by decide +kernel
theorem dX10_findBest_349 : decode cX10_findBest 349 = .ok (.iadd, 1) := by decide +kernel
theorem dX10_findBest_350 : decode cX10_findBest 350 = .ok (.aload_n 0, 1) := by decide +kernel
theorem dX10_findBest_351 : decode cX10_findBest 351 = .ok (.getfield 231, 3) := by decide +kernel
theorem dX10_findBest_354 : decode cX10_findBest 354 = .ok (.if_icmp .lt 14, 3) := by decide +kernel
theorem dX10_findBest_357 : decode cX10_findBest 357 = .ok (.aload_n 0, 1) := by decide +kernel
theorem dX10_findBest_358 : decode cX10_findBest 358 = .ok (.getfield 228, 3) := by decide +kernel
theorem dX10_findBest_361 : decode cX10_findBest 361 = .ok (.ifCond .lt 7, 3) := by decide +kernel
theorem dX10_findBest_364 : decode cX10_findBest 364 = .ok (.iconst 1, 1) := by decide +kernel
theorem dX10_findBest_365 : decode cX10_findBest 365 = .ok (.goto 4, 3) := by decide +kernel
theorem dX10_findBest_368 : decode cX10_findBest 368 = .ok (.iconst 0, 1) := by decide +kernel
theorem dX10_findBest_369 : decode cX10_findBest 369 = .ok (.istore 10, 2) := by decide +kernel
theorem dX10_findBest_371 : decode cX10_findBest 371 = .ok (.iload 9, 2) := by decide +kernel
theorem dX10_findBest_373 : decode cX10_findBest 373 = .ok (.ifCond .eq 25, 3) := by decide +kernel
theorem dX10_findBest_376 : decode cX10_findBest 376 = .ok (.iload 8, 2) := by decide +kernel
theorem dX10_findBest_378 : decode cX10_findBest 378 = .ok (.aload_n 0, 1) := by decide +kernel
theorem dX10_findBest_379 : decode cX10_findBest 379 = .ok (.getfield 50, 3) := by decide +kernel
theorem dX10_findBest_382 : decode cX10_findBest 382 = .ok (.iload 5, 2) := by decide +kernel
theorem dX10_findBest_384 : decode cX10_findBest 384 = .ok (.iaload, 1) := by decide +kernel
theorem dX10_findBest_385 : decode cX10_findBest 385 = .ok (.if_icmp .ge 13, 3) := by decide +kernel
theorem dX10_findBest_388 : decode cX10_findBest 388 = .ok (.aload_n 0, 1) := by decide +kernel
theorem dX10_findBest_389 : decode cX10_findBest 389 = .ok (.getfield 50, 3) := by decide +kernel
theorem dX10_findBest_392 : decode cX10_findBest 392 = .ok (.iload 5, 2) := by decide +kernel
theorem dX10_findBest_394 : decode cX10_findBest 394 = .ok (.iaload, 1) := by decide +kernel
theorem dX10_findBest_395 : decode cX10_findBest 395 = .ok (.goto 5, 3) := by decide +kernel
theorem dX10_findBest_398 : decode cX10_findBest 398 = .ok (.iload 8, 2) := by decide +kernel
theorem dX10_findBest_400 : decode cX10_findBest 400 = .ok (.istore 8, 2) := by decide +kernel
theorem dX10_findBest_402 : decode cX10_findBest 402 = .ok (.iload 8, 2) := by decide +kernel
theorem dX10_findBest_404 : decode cX10_findBest 404 = .ok (.aload_n 0, 1) := by decide +kernel
theorem dX10_findBest_405 : decode cX10_findBest 405 = .ok (.getfield 50, 3) := by decide +kernel
theorem dX10_findBest_408 : decode cX10_findBest 408 = .ok (.iload 5, 2) := by decide +kernel
theorem dX10_findBest_410 : decode cX10_findBest 410 = .ok (.iaload, 1) := by decide +kernel
theorem dX10_findBest_411 : decode cX10_findBest 411 = .ok (.if_icmp .ge 20, 3) := by decide +kernel
theorem dX10_findBest_414 : decode cX10_findBest 414 = .ok (.aload_n 0, 1) := by decide +kernel
theorem dX10_findBest_415 : decode cX10_findBest 415 = .ok (.iload 5, 2) := by decide +kernel
theorem dX10_findBest_417 : decode cX10_findBest 417 = .ok (.iload 8, 2) := by decide +kernel
theorem dX10_findBest_419 : decode cX10_findBest 419 = .ok (.invokevirtual 234, 3) := by decide +kernel
theorem dX10_findBest_422 : decode cX10_findBest 422 = .ok (.ifCond .ne 9, 3) := by decide +kernel
theorem dX10_findBest_425 : decode cX10_findBest 425 = .ok (.iinc 8 1, 3) := by decide +kernel
theorem dX10_findBest_428 : decode cX10_findBest 428 = .ok (.goto (-26), 3) := by decide +kernel
theorem dX10_findBest_431 : decode cX10_findBest 431 = .ok (.iload 8, 2) := by decide +kernel
theorem dX10_findBest_433 : decode cX10_findBest 433 = .ok (.aload_n 0, 1) := by decide +kernel
theorem dX10_findBest_434 : decode cX10_findBest 434 = .ok (.getfield 50, 3) := by decide +kernel
theorem dX10_findBest_437 : decode cX10_findBest 437 = .ok (.iload 5, 2) := by decide +kernel
theorem dX10_findBest_439 : decode cX10_findBest 439 = .ok (.iaload, 1) := by decide +kernel
theorem dX10_findBest_440 : decode cX10_findBest 440 = .ok (.if_icmp .gt 20, 3) := by decide +kernel
theorem dX10_findBest_443 : decode cX10_findBest 443 = .ok (.iload 8, 2) := by decide +kernel
theorem dX10_findBest_445 : decode cX10_findBest 445 = .ok (.aload_n 0, 1) := by decide +kernel
theorem dX10_findBest_446 : decode cX10_findBest 446 = .ok (.getfield 50, 3) := by decide +kernel
theorem dX10_findBest_449 : decode cX10_findBest 449 = .ok (.iload 5, 2) := by decide +kernel
theorem dX10_findBest_451 : decode cX10_findBest 451 = .ok (.iaload, 1) := by decide +kernel
theorem dX10_findBest_452 : decode cX10_findBest 452 = .ok (.if_icmp .ne 12, 3) := by decide +kernel
theorem dX10_findBest_455 : decode cX10_findBest 455 = .ok (.iload 10, 2) := by decide +kernel
theorem dX10_findBest_457 : decode cX10_findBest 457 = .ok (.ifCond .eq 7, 3) := by decide +kernel
theorem dX10_findBest_460 : decode cX10_findBest 460 = .ok (.iconst 1, 1) := by decide +kernel
theorem dX10_findBest_461 : decode cX10_findBest 461 = .ok (.goto 4, 3) := by decide +kernel
theorem dX10_findBest_464 : decode cX10_findBest 464 = .ok (.iconst 0, 1) := by decide +kernel
theorem dX10_findBest_465 : decode cX10_findBest 465 = .ok (.istore 6, 2) := by decide +kernel
theorem dX10_findBest_467 : decode cX10_findBest 467 = .ok (.aload_n 0, 1) := by decide +kernel
theorem dX10_findBest_468 : decode cX10_findBest 468 = .ok (.getfield 63, 3) := by decide +kernel
theorem dX10_findBest_471 : decode cX10_findBest 471 = .ok (.iload 5, 2) := by decide +kernel
theorem dX10_findBest_473 : decode cX10_findBest 473 = .ok (.iload 6, 2) := by decide +kernel
theorem dX10_findBest_475 : decode cX10_findBest 475 = .ok (.ifCond .eq 7, 3) := by decide +kernel
theorem dX10_findBest_478 : decode cX10_findBest 478 = .ok (.iconst (-1), 1) := by decide +kernel
theorem dX10_findBest_479 : decode cX10_findBest 479 = .ok (.goto 5, 3) := by decide +kernel
theorem dX10_findBest_482 : decode cX10_findBest 482 = .ok (.iload 8, 2) := by decide +kernel
theorem dX10_findBest_484 : decode cX10_findBest 484 = .ok (.iastore, 1) := by decide +kernel
theorem dX10_findBest_485 : decode cX10_findBest 485 = .ok (.iload 6, 2) := by decide +kernel
theorem dX10_findBest_487 : decode cX10_findBest 487 = .ok (.ifCond .eq 24, 3) := by decide +kernel
theorem dX10_findBest_490 : decode cX10_findBest 490 = .ok (.iload_n 1, 1) := by decide +kernel
theorem dX10_findBest_491 : decode cX10_findBest 491 = .ok (.aload_n 0, 1) := by decide +kernel
theorem dX10_findBest_492 : decode cX10_findBest 492 = .ok (.iload 5, 2) := by decide +kernel
theorem dX10_findBest_494 : decode cX10_findBest 494 = .ok (.invokevirtual 222, 3) := by decide +kernel
theorem dX10_findBest_497 : decode cX10_findBest 497 = .ok (.iadd, 1) := by decide +kernel
theorem dX10_findBest_498 : decode cX10_findBest 498 = .ok (.istore_n 1, 1) := by decide +kernel
theorem dX10_findBest_499 : decode cX10_findBest 499 = .ok (.iload_n 2, 1) := by decide +kernel
theorem dX10_findBest_500 : decode cX10_findBest 500 = .ok (.aload_n 0, 1) := by decide +kernel
theorem dX10_findBest_501 : decode cX10_findBest 501 = .ok (.iload 5, 2) := by decide +kernel
theorem dX10_findBest_503 : decode cX10_findBest 503 = .ok (.invokevirtual 225, 3) := by decide +kernel
theorem dX10_findBest_506 : decode cX10_findBest 506 = .ok (.iadd, 1) := by decide +kernel
theorem dX10_findBest_507 : decode cX10_findBest 507 = .ok (.istore_n 2, 1) := by decide +kernel
theorem dX10_findBest_508 : decode cX10_findBest 508 = .ok (.goto 58, 3) := by decide +kernel
theorem dX10_findBest_511 : decode cX10_findBest 511 = .ok (.iload_n 3, 1) := by decide +kernel
theorem dX10_findBest_512 : decode cX10_findBest 512 = .ok (.iload 8, 2) := by decide +kernel
theorem dX10_findBest_514 : decode cX10_findBest 514 = .ok (.aload_n 0, 1) := by decide +kernel
theorem dX10_findBest_515 : decode cX10_findBest 515 = .ok (.getfield 50, 3) := by decide +kernel
theorem dX10_findBest_518 : decode cX10_findBest 518 = .ok (.iload 5, 2) := by decide +kernel
theorem dX10_findBest_520 : decode cX10_findBest 520 = .ok (.iaload, 1) := by decide +kernel
theorem dX10_findBest_521 : decode cX10_findBest 521 = .ok (.if_icmp .ge 12, 3) := by decide +kernel
theorem dX10_findBest_524 : decode cX10_findBest 524 = .ok (.aload_n 0, 1) := by decide +kernel
theorem dX10_findBest_525 : decode cX10_findBest 525 = .ok (.iload 5, 2) := by decide +kernel
theorem dX10_findBest_527 : decode cX10_findBest 527 = .ok (.invokevirtual 222, 3) := by decide +kernel
theorem dX10_findBest_530 : decode cX10_findBest 530 = .ok (.goto 4, 3) := by decide +kernel
theorem dX10_findBest_533 : decode cX10_findBest 533 = .ok (.iconst 0, 1) := by decide +kernel
theorem dX10_findBest_534 : decode cX10_findBest 534 = .ok (.iadd, 1) := by decide +kernel
theorem dX10_findBest_535 : decode cX10_findBest 535 = .ok (.istore_n 3, 1) := by decide +kernel
theorem dX10_findBest_536 : decode cX10_findBest 536 = .ok (.iload 4, 2) := by decide +kernel
theorem dX10_findBest_538 : decode cX10_findBest 538 = .ok (.iload 8, 2) := by decide +kernel
theorem dX10_findBest_540 : decode cX10_findBest 540 = .ok (.aload_n 0, 1) := by decide +kernel
theorem dX10_findBest_541 : decode cX10_findBest 541 = .ok (.getfield 50, 3) := by decide +kernel
theorem dX10_findBest_544 : decode cX10_findBest 544 = .ok (.iload 5, 2) := by decide +kernel
theorem dX10_findBest_546 : decode cX10_findBest 546 = .ok (.iaload, 1) := by decide +kernel
theorem dX10_findBest_547 : decode cX10_findBest 547 = .ok (.if_icmp .ge 12, 3) := by decide +kernel
theorem dX10_findBest_550 : decode cX10_findBest 550 = .ok (.aload_n 0, 1) := by decide +kernel
theorem dX10_findBest_551 : decode cX10_findBest 551 = .ok (.iload 5, 2) := by decide +kernel
theorem dX10_findBest_553 : decode cX10_findBest 553 = .ok (.invokevirtual 225, 3) := by decide +kernel
theorem dX10_findBest_556 : decode cX10_findBest 556 = .ok (.goto 4, 3) := by decide +kernel
theorem dX10_findBest_559 : decode cX10_findBest 559 = .ok (.iconst 0, 1) := by decide +kernel
theorem dX10_findBest_560 : decode cX10_findBest 560 = .ok (.iadd, 1) := by decide +kernel
theorem dX10_findBest_561 : decode cX10_findBest 561 = .ok (.istore 4, 2) := by decide +kernel
theorem dX10_findBest_563 : decode cX10_findBest 563 = .ok (.iinc 5 1, 3) := by decide +kernel
theorem dX10_findBest_566 : decode cX10_findBest 566 = .ok (.iload 5, 2) := by decide +kernel
theorem dX10_findBest_568 : decode cX10_findBest 568 = .ok (.iload 6, 2) := by decide +kernel
theorem dX10_findBest_570 : decode cX10_findBest 570 = .ok (.ifCond .eq 7, 3) := by decide +kernel
theorem dX10_findBest_573 : decode cX10_findBest 573 = .ok (.iconst 1, 1) := by decide +kernel
theorem dX10_findBest_574 : decode cX10_findBest 574 = .ok (.goto 4, 3) := by decide +kernel
theorem dX10_findBest_577 : decode cX10_findBest 577 = .ok (.iconst 0, 1) := by decide +kernel
theorem dX10_findBest_578 : decode cX10_findBest 578 = .ok (.isub, 1) := by decide +kernel
theorem dX10_findBest_579 : decode cX10_findBest 579 = .ok (.istore 5, 2) := by decide +kernel
theorem dX10_findBest_581 : decode cX10_findBest 581 = .ok (.goto (-513), 3) := by decide +kernel
theorem dX10_findBest_584 : decode cX10_findBest 584 = .ok (.return_, 1) := by decide +kernel
theorem dX10_slotsNeeded_0 : decode cX10_slotsNeeded 0 = .ok (.iconst 0, 1) := by decide +kernel
theorem dX10_slotsNeeded_1 : decode cX10_slotsNeeded 1 = .ok (.istore_n 2, 1) := by decide +kernel
theorem dX10_slotsNeeded_2 : decode cX10_slotsNeeded 2 = .ok (.iconst 0, 1) := by decide +kernel
theorem dX10_slotsNeeded_3 : decode cX10_slotsNeeded 3 = .ok (.istore_n 3, 1) := by decide +kernel
theorem dX10_slotsNeeded_4 : decode cX10_slotsNeeded 4 = .ok (.iload_n 3, 1) := by decide +kernel
theorem dX10_slotsNeeded_5 : decode cX10_slotsNeeded 5 = .ok (.aload_n 0, 1) := by decide +kernel
theorem dX10_slotsNeeded_6 : decode cX10_slotsNeeded 6 = .ok (.iload_n 1, 1) := by decide +kernel
theorem dX10_slotsNeeded_7 : decode cX10_slotsNeeded 7 = .ok (.invokevirtual 209, 3) := by decide +kernel
theorem dX10_slotsNeeded_10 : decode cX10_slotsNeeded 10 = .ok (.if_icmp .ge 19, 3) := by decide +kernel
theorem dX10_slotsNeeded_13 : decode cX10_slotsNeeded 13 = .ok (.iload_n 2, 1) := by decide +kernel
theorem dX10_slotsNeeded_14 : decode cX10_slotsNeeded 14 = .ok (.aload_n 0, 1) := by decide +kernel
theorem dX10_slotsNeeded_15 : decode cX10_slotsNeeded 15 = .ok (.iload_n 1, 1) := by decide +kernel
theorem dX10_slotsNeeded_16 : decode cX10_slotsNeeded 16 = .ok (.iload_n 3, 1) := by decide +kernel
theorem dX10_slotsNeeded_17 : decode cX10_slotsNeeded 17 = .ok (.iconst 0, 1) := by decide +kernel
theorem dX10_slotsNeeded_18 : decode cX10_slotsNeeded 18 = .ok (.invokevirtual 194, 3) := by decide +kernel
theorem dX10_slotsNeeded_21 : decode cX10_slotsNeeded 21 = .ok (.iadd, 1) := by decide +kernel
theorem dX10_slotsNeeded_22 : decode cX10_slotsNeeded 22 = .ok (.istore_n 2, 1) := by decide +kernel
theorem dX10_slotsNeeded_23 : decode cX10_slotsNeeded 23 = .ok (.iinc 3 1, 3) := by decide +kernel
theorem dX10_slotsNeeded_26 : decode cX10_slotsNeeded 26 = .ok (.goto (-22), 3) := by decide +kernel
theorem dX10_slotsNeeded_29 : decode cX10_slotsNeeded 29 = .ok (.iload_n 2, 1) := by decide +kernel
theorem dX10_slotsNeeded_30 : decode cX10_slotsNeeded 30 = .ok (.ireturn, 1) := by decide +kernel
theorem dX10_bestSet_0 : decode cX10_bestSet 0 = .ok (.iconst 0, 1) := by decide +kernel
theorem dX10_bestSet_1 : decode cX10_bestSet 1 = .ok (.istore_n 1, 1) := by decide +kernel
theorem dX10_bestSet_2 : decode cX10_bestSet 2 = .ok (.iconst 0, 1) := by decide +kernel
theorem dX10_bestSet_3 : decode cX10_bestSet 3 = .ok (.istore_n 2, 1) := by decide +kernel
theorem dX10_bestSet_4 : decode cX10_bestSet 4 = .ok (.iload_n 2, 1) := by decide +kernel
theorem dX10_bestSet_5 : decode cX10_bestSet 5 = .ok (.aload_n 0, 1) := by decide +kernel
theorem dX10_bestSet_6 : decode cX10_bestSet 6 = .ok (.getfield 94, 3) := by decide +kernel
theorem dX10_bestSet_9 : decode cX10_bestSet 9 = .ok (.if_icmp .ge 43, 3) := by decide +kernel
theorem dX10_bestSet_12 : decode cX10_bestSet 12 = .ok (.iload_n 1, 1) := by decide +kernel
theorem dX10_bestSet_13 : decode cX10_bestSet 13 = .ok (.aload_n 0, 1) := by decide +kernel
theorem dX10_bestSet_14 : decode cX10_bestSet 14 = .ok (.getfield 66, 3) := by decide +kernel
theorem dX10_bestSet_17 : decode cX10_bestSet 17 = .ok (.iload_n 2, 1) := by decide +kernel
theorem dX10_bestSet_18 : decode cX10_bestSet 18 = .ok (.iaload, 1) := by decide +kernel
theorem dX10_bestSet_19 : decode cX10_bestSet 19 = .ok (.iconst (-1), 1) := by decide +kernel
theorem dX10_bestSet_20 : decode cX10_bestSet 20 = .ok (.if_icmp .ne 7, 3) := by decide +kernel
theorem dX10_bestSet_23 : decode cX10_bestSet 23 = .ok (.iconst 0, 1) := by decide +kernel
theorem dX10_bestSet_24 : decode cX10_bestSet 24 = .ok (.goto 20, 3) := by decide +kernel
theorem dX10_bestSet_27 : decode cX10_bestSet 27 = .ok (.aload_n 0, 1) := by decide +kernel
theorem dX10_bestSet_28 : decode cX10_bestSet 28 = .ok (.getfield 53, 3) := by decide +kernel
theorem dX10_bestSet_31 : decode cX10_bestSet 31 = .ok (.sipush 200, 3) := by decide +kernel
theorem dX10_bestSet_34 : decode cX10_bestSet 34 = .ok (.iload_n 2, 1) := by decide +kernel
theorem dX10_bestSet_35 : decode cX10_bestSet 35 = .ok (.imul, 1) := by decide +kernel
theorem dX10_bestSet_36 : decode cX10_bestSet 36 = .ok (.aload_n 0, 1) := by decide +kernel
theorem dX10_bestSet_37 : decode cX10_bestSet 37 = .ok (.getfield 66, 3) := by decide +kernel
theorem dX10_bestSet_40 : decode cX10_bestSet 40 = .ok (.iload_n 2, 1) := by decide +kernel
theorem dX10_bestSet_41 : decode cX10_bestSet 41 = .ok (.iaload, 1) := by decide +kernel
theorem dX10_bestSet_42 : decode cX10_bestSet 42 = .ok (.iadd, 1) := by decide +kernel
theorem dX10_bestSet_43 : decode cX10_bestSet 43 = .ok (.iaload, 1) := by decide +kernel
theorem dX10_bestSet_44 : decode cX10_bestSet 44 = .ok (.ior, 1) := by decide +kernel
theorem dX10_bestSet_45 : decode cX10_bestSet 45 = .ok (.istore_n 1, 1) := by decide +kernel
theorem dX10_bestSet_46 : decode cX10_bestSet 46 = .ok (.iinc 2 1, 3) := by decide +kernel
theorem dX10_bestSet_49 : decode cX10_bestSet 49 = .ok (.goto (-45), 3) := by decide +kernel
theorem dX10_bestSet_52 : decode cX10_bestSet 52 = .ok (.iload_n 1, 1) := by decide +kernel
theorem dX10_bestSet_53 : decode cX10_bestSet 53 = .ok (.ireturn, 1) := by decide +kernel
theorem dX10_best_0 : decode cX10_best 0 = .ok (.iload_n 1, 1) := by decide +kernel
theorem dX10_best_1 : decode cX10_best 1 = .ok (.iconst 0, 1) := by decide +kernel
theorem dX10_best_2 : decode cX10_best 2 = .ok (.iconst 1, 1) := by decide +kernel
theorem dX10_best_3 : decode cX10_best 3 = .ok (.invokestatic 87, 3) := by decide +kernel
theorem dX10_best_6 : decode cX10_best 6 = .ok (.ifCond .ne 6, 3) := by decide +kernel
theorem dX10_best_9 : decode cX10_best 9 = .ok (.bipush (-3), 2) := by decide +kernel
theorem dX10_best_11 : decode cX10_best 11 = .ok (.ireturn, 1) := by decide +kernel
theorem dX10_best_12 : decode cX10_best 12 = .ok (.aload_n 0, 1) := by decide +kernel
theorem dX10_best_13 : decode cX10_best 13 = .ok (.invokevirtual 237, 3) := by decide +kernel
theorem dX10_best_16 : decode cX10_best 16 = .ok (.aload_n 0, 1) := by decide +kernel
theorem dX10_best_17 : decode cX10_best 17 = .ok (.invokevirtual 240, 3) := by decide +kernel
theorem dX10_best_20 : decode cX10_best 20 = .ok (.iload_n 1, 1) := by decide +kernel
theorem dX10_best_21 : decode cX10_best 21 = .ok (.ifCond .ne 10, 3) := by decide +kernel
theorem dX10_best_24 : decode cX10_best 24 = .ok (.aload_n 0, 1) := by decide +kernel
theorem dX10_best_25 : decode cX10_best 25 = .ok (.getfield 228, 3) := by decide +kernel
theorem dX10_best_28 : decode cX10_best 28 = .ok (.goto 7, 3) := by decide +kernel
theorem dX10_best_31 : decode cX10_best 31 = .ok (.aload_n 0, 1) := by decide +kernel
theorem dX10_best_32 : decode cX10_best 32 = .ok (.invokevirtual 243, 3) := by decide +kernel
theorem dX10_best_35 : decode cX10_best 35 = .ok (.ireturn, 1) := by decide +kernel
theorem dX10_placed_0 : decode cX10_placed 0 = .ok (.aload_n 0, 1) := by decide +kernel
theorem dX10_placed_1 : decode cX10_placed 1 = .ok (.iload_n 1, 1) := by decide +kernel
theorem dX10_placed_2 : decode cX10_placed 2 = .ok (.invokevirtual 187, 3) := by decide +kernel
theorem dX10_placed_5 : decode cX10_placed 5 = .ok (.ifCond .ne 6, 3) := by decide +kernel
theorem dX10_placed_8 : decode cX10_placed 8 = .ok (.bipush (-2), 2) := by decide +kernel
theorem dX10_placed_10 : decode cX10_placed 10 = .ok (.ireturn, 1) := by decide +kernel
theorem dX10_placed_11 : decode cX10_placed 11 = .ok (.aload_n 0, 1) := by decide +kernel
theorem dX10_placed_12 : decode cX10_placed 12 = .ok (.invokevirtual 237, 3) := by decide +kernel
theorem dX10_placed_15 : decode cX10_placed 15 = .ok (.aload_n 0, 1) := by decide +kernel
theorem dX10_placed_16 : decode cX10_placed 16 = .ok (.invokevirtual 240, 3) := by decide +kernel
theorem dX10_placed_19 : decode cX10_placed 19 = .ok (.aload_n 0, 1) := by decide +kernel
theorem dX10_placed_20 : decode cX10_placed 20 = .ok (.getfield 66, 3) := by decide +kernel
theorem dX10_placed_23 : decode cX10_placed 23 = .ok (.iload_n 1, 1) := by decide +kernel
theorem dX10_placed_24 : decode cX10_placed 24 = .ok (.iaload, 1) := by decide +kernel
theorem dX10_placed_25 : decode cX10_placed 25 = .ok (.ireturn, 1) := by decide +kernel
theorem dX10_isInAt_0 : decode cX10_isInAt 0 = .ok (.aload_n 0, 1) := by decide +kernel
theorem dX10_isInAt_1 : decode cX10_isInAt 1 = .ok (.getfield 47, 3) := by decide +kernel
theorem dX10_isInAt_4 : decode cX10_isInAt 4 = .ok (.bipush 23, 2) := by decide +kernel
theorem dX10_isInAt_6 : decode cX10_isInAt 6 = .ok (.iload_n 1, 1) := by decide +kernel
theorem dX10_isInAt_7 : decode cX10_isInAt 7 = .ok (.imul, 1) := by decide +kernel
theorem dX10_isInAt_8 : decode cX10_isInAt 8 = .ok (.iconst 3, 1) := by decide +kernel
theorem dX10_isInAt_9 : decode cX10_isInAt 9 = .ok (.iadd, 1) := by decide +kernel
theorem dX10_isInAt_10 : decode cX10_isInAt 10 = .ok (.iaload, 1) := by decide +kernel
theorem dX10_isInAt_11 : decode cX10_isInAt 11 = .ok (.istore_n 3, 1) := by decide +kernel
theorem dX10_isInAt_12 : decode cX10_isInAt 12 = .ok (.aload_n 0, 1) := by decide +kernel
theorem dX10_isInAt_13 : decode cX10_isInAt 13 = .ok (.getfield 47, 3) := by decide +kernel
theorem dX10_isInAt_16 : decode cX10_isInAt 16 = .ok (.bipush 23, 2) := by decide +kernel
theorem dX10_isInAt_18 : decode cX10_isInAt 18 = .ok (.iload_n 1, 1) := by decide +kernel
theorem dX10_isInAt_19 : decode cX10_isInAt 19 = .ok (.imul, 1) := by decide +kernel
theorem dX10_isInAt_20 : decode cX10_isInAt 20 = .ok (.iconst 3, 1) := by decide +kernel
theorem dX10_isInAt_21 : decode cX10_isInAt 21 = .ok (.iadd, 1) := by decide +kernel
theorem dX10_isInAt_22 : decode cX10_isInAt 22 = .ok (.iload_n 2, 1) := by decide +kernel
theorem dX10_isInAt_23 : decode cX10_isInAt 23 = .ok (.iastore, 1) := by decide +kernel
theorem dX10_isInAt_24 : decode cX10_isInAt 24 = .ok (.aload_n 0, 1) := by decide +kernel
theorem dX10_isInAt_25 : decode cX10_isInAt 25 = .ok (.invokevirtual 240, 3) := by decide +kernel
theorem dX10_isInAt_28 : decode cX10_isInAt 28 = .ok (.aload_n 0, 1) := by decide +kernel
theorem dX10_isInAt_29 : decode cX10_isInAt 29 = .ok (.getfield 47, 3) := by decide +kernel
theorem dX10_isInAt_32 : decode cX10_isInAt 32 = .ok (.bipush 23, 2) := by decide +kernel
theorem dX10_isInAt_34 : decode cX10_isInAt 34 = .ok (.iload_n 1, 1) := by decide +kernel
theorem dX10_isInAt_35 : decode cX10_isInAt 35 = .ok (.imul, 1) := by decide +kernel
theorem dX10_isInAt_36 : decode cX10_isInAt 36 = .ok (.iconst 3, 1) := by decide +kernel
theorem dX10_isInAt_37 : decode cX10_isInAt 37 = .ok (.iadd, 1) := by decide +kernel
theorem dX10_isInAt_38 : decode cX10_isInAt 38 = .ok (.iload_n 3, 1) := by decide +kernel
theorem dX10_isInAt_39 : decode cX10_isInAt 39 = .ok (.iastore, 1) := by decide +kernel
theorem dX10_isInAt_40 : decode cX10_isInAt 40 = .ok (.aload_n 0, 1) := by decide +kernel
theorem dX10_isInAt_41 : decode cX10_isInAt 41 = .ok (.getfield 66, 3) := by decide +kernel
theorem dX10_isInAt_44 : decode cX10_isInAt 44 = .ok (.iload_n 1, 1) := by decide +kernel
theorem dX10_isInAt_45 : decode cX10_isInAt 45 = .ok (.iaload, 1) := by decide +kernel
theorem dX10_isInAt_46 : decode cX10_isInAt 46 = .ok (.iconst (-1), 1) := by decide +kernel
theorem dX10_isInAt_47 : decode cX10_isInAt 47 = .ok (.if_icmp .eq 7, 3) := by decide +kernel
theorem dX10_isInAt_50 : decode cX10_isInAt 50 = .ok (.iconst 1, 1) := by decide +kernel
theorem dX10_isInAt_51 : decode cX10_isInAt 51 = .ok (.goto 4, 3) := by decide +kernel
theorem dX10_isInAt_54 : decode cX10_isInAt 54 = .ok (.iconst 0, 1) := by decide +kernel
theorem dX10_isInAt_55 : decode cX10_isInAt 55 = .ok (.ireturn, 1) := by decide +kernel
theorem dX10_price_0 : decode cX10_price 0 = .ok (.aload_n 0, 1) := by decide +kernel
theorem dX10_price_1 : decode cX10_price 1 = .ok (.iload_n 1, 1) := by decide +kernel
theorem dX10_price_2 : decode cX10_price 2 = .ok (.invokevirtual 187, 3) := by decide +kernel
theorem dX10_price_5 : decode cX10_price 5 = .ok (.ifCond .ne 6, 3) := by decide +kernel
theorem dX10_price_8 : decode cX10_price 8 = .ok (.bipush (-2), 2) := by decide +kernel
theorem dX10_price_10 : decode cX10_price 10 = .ok (.ireturn, 1) := by decide +kernel
theorem dX10_price_11 : decode cX10_price 11 = .ok (.aload_n 0, 1) := by decide +kernel
theorem dX10_price_12 : decode cX10_price 12 = .ok (.invokevirtual 237, 3) := by decide +kernel
theorem dX10_price_15 : decode cX10_price 15 = .ok (.aload_n 0, 1) := by decide +kernel
theorem dX10_price_16 : decode cX10_price 16 = .ok (.iload_n 1, 1) := by decide +kernel
theorem dX10_price_17 : decode cX10_price 17 = .ok (.bipush 99, 2) := by decide +kernel
theorem dX10_price_19 : decode cX10_price 19 = .ok (.invokevirtual 247, 3) := by decide +kernel
theorem dX10_price_22 : decode cX10_price 22 = .ok (.ifCond .ne 5, 3) := by decide +kernel
theorem dX10_price_25 : decode cX10_price 25 = .ok (.iconst (-1), 1) := by decide +kernel
theorem dX10_price_26 : decode cX10_price 26 = .ok (.ireturn, 1) := by decide +kernel
theorem dX10_price_27 : decode cX10_price 27 = .ok (.iconst 1, 1) := by decide +kernel
theorem dX10_price_28 : decode cX10_price 28 = .ok (.istore_n 2, 1) := by decide +kernel
theorem dX10_price_29 : decode cX10_price 29 = .ok (.bipush 99, 2) := by decide +kernel
theorem dX10_price_31 : decode cX10_price 31 = .ok (.istore_n 3, 1) := by decide +kernel
theorem dX10_price_32 : decode cX10_price 32 = .ok (.iload_n 2, 1) := by decide +kernel
theorem dX10_price_33 : decode cX10_price 33 = .ok (.iload_n 3, 1) := by decide +kernel
theorem dX10_price_34 : decode cX10_price 34 = .ok (.if_icmp .ge 34, 3) := by decide +kernel
theorem dX10_price_37 : decode cX10_price 37 = .ok (.iload_n 2, 1) := by decide +kernel
theorem dX10_price_38 : decode cX10_price 38 = .ok (.iload_n 3, 1) := by decide +kernel
theorem dX10_price_39 : decode cX10_price 39 = .ok (.iadd, 1) := by decide +kernel
theorem dX10_price_40 : decode cX10_price 40 = .ok (.iconst 2, 1) := by decide +kernel
theorem dX10_price_41 : decode cX10_price 41 = .ok (.idiv, 1) := by decide +kernel
theorem dX10_price_42 : decode cX10_price 42 = .ok (.istore 4, 2) := by decide +kernel
theorem dX10_price_44 : decode cX10_price 44 = .ok (.aload_n 0, 1) := by decide +kernel
theorem dX10_price_45 : decode cX10_price 45 = .ok (.iload_n 1, 1) := by decide +kernel
theorem dX10_price_46 : decode cX10_price 46 = .ok (.iload 4, 2) := by decide +kernel
theorem dX10_price_48 : decode cX10_price 48 = .ok (.invokevirtual 247, 3) := by decide +kernel
theorem dX10_price_51 : decode cX10_price 51 = .ok (.ifCond .eq 9, 3) := by decide +kernel
theorem dX10_price_54 : decode cX10_price 54 = .ok (.iload 4, 2) := by decide +kernel
theorem dX10_price_56 : decode cX10_price 56 = .ok (.istore_n 3, 1) := by decide +kernel
theorem dX10_price_57 : decode cX10_price 57 = .ok (.goto 8, 3) := by decide +kernel
theorem dX10_price_60 : decode cX10_price 60 = .ok (.iload 4, 2) := by decide +kernel
theorem dX10_price_62 : decode cX10_price 62 = .ok (.iconst 1, 1) := by decide +kernel
theorem dX10_price_63 : decode cX10_price 63 = .ok (.iadd, 1) := by decide +kernel
theorem dX10_price_64 : decode cX10_price 64 = .ok (.istore_n 2, 1) := by decide +kernel
theorem dX10_price_65 : decode cX10_price 65 = .ok (.goto (-33), 3) := by decide +kernel
theorem dX10_price_68 : decode cX10_price 68 = .ok (.iload_n 2, 1) := by decide +kernel
theorem dX10_price_69 : decode cX10_price 69 = .ok (.ireturn, 1) := by decide +kernel
theorem dX10_empty_0 : decode cX10_empty 0 = .ok (.aload_n 0, 1) := by decide +kernel
theorem dX10_empty_1 : decode cX10_empty 1 = .ok (.iload_n 1, 1) := by decide +kernel
theorem dX10_empty_2 : decode cX10_empty 2 = .ok (.invokevirtual 111, 3) := by decide +kernel
theorem dX10_empty_5 : decode cX10_empty 5 = .ok (.ifCond .ne 6, 3) := by decide +kernel
theorem dX10_empty_8 : decode cX10_empty 8 = .ok (.bipush (-2), 2) := by decide +kernel
theorem dX10_empty_10 : decode cX10_empty 10 = .ok (.ireturn, 1) := by decide +kernel
theorem dX10_empty_11 : decode cX10_empty 11 = .ok (.aload_n 0, 1) := by decide +kernel
theorem dX10_empty_12 : decode cX10_empty 12 = .ok (.invokevirtual 237, 3) := by decide +kernel
theorem dX10_empty_15 : decode cX10_empty 15 = .ok (.aload_n 0, 1) := by decide +kernel
theorem dX10_empty_16 : decode cX10_empty 16 = .ok (.invokevirtual 240, 3) := by decide +kernel
theorem dX10_empty_19 : decode cX10_empty 19 = .ok (.aload_n 0, 1) := by decide +kernel
theorem dX10_empty_20 : decode cX10_empty 20 = .ok (.invokevirtual 243, 3) := by decide +kernel
theorem dX10_empty_23 : decode cX10_empty 23 = .ok (.iload_n 1, 1) := by decide +kernel
theorem dX10_empty_24 : decode cX10_empty 24 = .ok (.ishr, 1) := by decide +kernel
theorem dX10_empty_25 : decode cX10_empty 25 = .ok (.iconst 1, 1) := by decide +kernel
theorem dX10_empty_26 : decode cX10_empty 26 = .ok (.iand, 1) := by decide +kernel
theorem dX10_empty_27 : decode cX10_empty 27 = .ok (.iconst 1, 1) := by decide +kernel
theorem dX10_empty_28 : decode cX10_empty 28 = .ok (.if_icmp .ne 5, 3) := by decide +kernel
theorem dX10_empty_31 : decode cX10_empty 31 = .ok (.iconst 0, 1) := by decide +kernel
theorem dX10_empty_32 : decode cX10_empty 32 = .ok (.ireturn, 1) := by decide +kernel
theorem dX10_empty_33 : decode cX10_empty 33 = .ok (.iconst 1, 1) := by decide +kernel
theorem dX10_empty_34 : decode cX10_empty 34 = .ok (.istore_n 2, 1) := by decide +kernel
theorem dX10_empty_35 : decode cX10_empty 35 = .ok (.iconst 0, 1) := by decide +kernel
theorem dX10_empty_36 : decode cX10_empty 36 = .ok (.istore_n 3, 1) := by decide +kernel
theorem dX10_empty_37 : decode cX10_empty 37 = .ok (.iload_n 3, 1) := by decide +kernel
theorem dX10_empty_38 : decode cX10_empty 38 = .ok (.aload_n 0, 1) := by decide +kernel
theorem dX10_empty_39 : decode cX10_empty 39 = .ok (.getfield 94, 3) := by decide +kernel
theorem dX10_empty_42 : decode cX10_empty 42 = .ok (.if_icmp .ge 165, 3) := by decide +kernel
theorem dX10_empty_45 : decode cX10_empty 45 = .ok (.iconst 0, 1) := by decide +kernel
theorem dX10_empty_46 : decode cX10_empty 46 = .ok (.istore 4, 2) := by decide +kernel
theorem dX10_empty_48 : decode cX10_empty 48 = .ok (.iload 4, 2) := by decide +kernel
theorem dX10_empty_50 : decode cX10_empty 50 = .ok (.aload_n 0, 1) := by decide +kernel
theorem dX10_empty_51 : decode cX10_empty 51 = .ok (.getfield 50, 3) := by decide +kernel
theorem dX10_empty_54 : decode cX10_empty 54 = .ok (.iload_n 3, 1) := by decide +kernel
theorem dX10_empty_55 : decode cX10_empty 55 = .ok (.iaload, 1) := by decide +kernel
theorem dX10_empty_56 : decode cX10_empty 56 = .ok (.if_icmp .ge 145, 3) := by decide +kernel
theorem dX10_empty_59 : decode cX10_empty 59 = .ok (.aload_n 0, 1) := by decide +kernel
theorem dX10_empty_60 : decode cX10_empty 60 = .ok (.getfield 66, 3) := by decide +kernel
theorem dX10_empty_63 : decode cX10_empty 63 = .ok (.iload_n 3, 1) := by decide +kernel
theorem dX10_empty_64 : decode cX10_empty 64 = .ok (.iaload, 1) := by decide +kernel
theorem dX10_empty_65 : decode cX10_empty 65 = .ok (.iconst (-1), 1) := by decide +kernel
theorem dX10_empty_66 : decode cX10_empty 66 = .ok (.if_icmp .ne 135, 3) := by decide +kernel
theorem dX10_empty_69 : decode cX10_empty 69 = .ok (.aload_n 0, 1) := by decide +kernel
theorem dX10_empty_70 : decode cX10_empty 70 = .ok (.getfield 53, 3) := by decide +kernel
theorem dX10_empty_73 : decode cX10_empty 73 = .ok (.sipush 200, 3) := by decide +kernel
theorem dX10_empty_76 : decode cX10_empty 76 = .ok (.iload_n 3, 1) := by decide +kernel
theorem dX10_empty_77 : decode cX10_empty 77 = .ok (.imul, 1) := by decide +kernel
theorem dX10_empty_78 : decode cX10_empty 78 = .ok (.iload 4, 2) := by decide +kernel
theorem dX10_empty_80 : decode cX10_empty 80 = .ok (.iadd, 1) := by decide +kernel
theorem dX10_empty_81 : decode cX10_empty 81 = .ok (.iaload, 1) := by decide +kernel
theorem dX10_empty_82 : decode cX10_empty 82 = .ok (.iload_n 1, 1) := by decide +kernel
theorem dX10_empty_83 : decode cX10_empty 83 = .ok (.ishr, 1) := by decide +kernel
theorem dX10_empty_84 : decode cX10_empty 84 = .ok (.iconst 1, 1) := by decide +kernel
theorem dX10_empty_85 : decode cX10_empty 85 = .ok (.iand, 1) := by decide +kernel
theorem dX10_empty_86 : decode cX10_empty 86 = .ok (.iconst 1, 1) := by decide +kernel
theorem dX10_empty_87 : decode cX10_empty 87 = .ok (.if_icmp .ne 108, 3) := by decide +kernel
theorem dX10_empty_90 : decode cX10_empty 90 = .ok (.iconst 1, 1) := by decide +kernel
theorem dX10_empty_91 : decode cX10_empty 91 = .ok (.istore 5, 2) := by decide +kernel
theorem dX10_empty_93 : decode cX10_empty 93 = .ok (.iconst 0, 1) := by decide +kernel
theorem dX10_empty_94 : decode cX10_empty 94 = .ok (.istore 6, 2) := by decide +kernel
theorem dX10_empty_96 : decode cX10_empty 96 = .ok (.iload 6, 2) := by decide +kernel
theorem dX10_empty_98 : decode cX10_empty 98 = .ok (.aload_n 0, 1) := by decide +kernel
theorem dX10_empty_99 : decode cX10_empty 99 = .ok (.getfield 94, 3) := by decide +kernel
theorem dX10_empty_102 : decode cX10_empty 102 = .ok (.if_icmp .ge 73, 3) := by decide +kernel
theorem dX10_empty_105 : decode cX10_empty 105 = .ok (.iload 5, 2) := by decide +kernel
theorem dX10_empty_107 : decode cX10_empty 107 = .ok (.ifCond .eq 59, 3) := by decide +kernel
theorem dX10_empty_110 : decode cX10_empty 110 = .ok (.aload_n 0, 1) := by decide +kernel
theorem dX10_empty_111 : decode cX10_empty 111 = .ok (.getfield 66, 3) := by decide +kernel
theorem dX10_empty_114 : decode cX10_empty 114 = .ok (.iload 6, 2) := by decide +kernel
theorem dX10_empty_116 : decode cX10_empty 116 = .ok (.iaload, 1) := by decide +kernel
theorem dX10_empty_117 : decode cX10_empty 117 = .ok (.iconst (-1), 1) := by decide +kernel
theorem dX10_empty_118 : decode cX10_empty 118 = .ok (.if_icmp .eq 44, 3) := by decide +kernel
theorem dX10_empty_121 : decode cX10_empty 121 = .ok (.aload_n 0, 1) := by decide +kernel
theorem dX10_empty_122 : decode cX10_empty 122 = .ok (.iload_n 3, 1) := by decide +kernel
theorem dX10_empty_123 : decode cX10_empty 123 = .ok (.iload 4, 2) := by decide +kernel
theorem dX10_empty_125 : decode cX10_empty 125 = .ok (.aload_n 0, 1) := by decide +kernel
theorem dX10_empty_126 : decode cX10_empty 126 = .ok (.getfield 53, 3) := by decide +kernel
theorem dX10_empty_129 : decode cX10_empty 129 = .ok (.sipush 200, 3) := by decide +kernel
theorem dX10_empty_132 : decode cX10_empty 132 = .ok (.iload 6, 2) := by decide +kernel
theorem dX10_empty_134 : decode cX10_empty 134 = .ok (.imul, 1) := by decide +kernel
theorem dX10_empty_135 : decode cX10_empty 135 = .ok (.aload_n 0, 1) := by decide +kernel
theorem dX10_empty_136 : decode cX10_empty 136 = .ok (.getfield 66, 3) := by decide +kernel
theorem dX10_empty_139 : decode cX10_empty 139 = .ok (.iload 6, 2) := by decide +kernel
theorem dX10_empty_141 : decode cX10_empty 141 = .ok (.iaload, 1) := by decide +kernel
theorem dX10_empty_142 : decode cX10_empty 142 = .ok (.iadd, 1) := by decide +kernel
theorem dX10_empty_143 : decode cX10_empty 143 = .ok (.iaload, 1) := by decide +kernel
theorem dX10_empty_144 : decode cX10_empty 144 = .ok (.aload_n 0, 1) := by decide +kernel
theorem dX10_empty_145 : decode cX10_empty 145 = .ok (.getfield 47, 3) := by decide +kernel
theorem dX10_empty_148 : decode cX10_empty 148 = .ok (.bipush 23, 2) := by decide +kernel
theorem dX10_empty_150 : decode cX10_empty 150 = .ok (.iload 6, 2) := by decide +kernel
theorem dX10_empty_152 : decode cX10_empty 152 = .ok (.imul, 1) := by decide +kernel
theorem dX10_empty_153 : decode cX10_empty 153 = .ok (.iconst 1, 1) := by decide +kernel
theorem dX10_empty_154 : decode cX10_empty 154 = .ok (.iadd, 1) := by decide +kernel
theorem dX10_empty_155 : decode cX10_empty 155 = .ok (.iaload, 1) := by decide +kernel
theorem dX10_empty_156 : decode cX10_empty 156 = .ok (.invokevirtual 219, 3) := by decide +kernel
theorem dX10_empty_159 : decode cX10_empty 159 = .ok (.ifCond .eq 7, 3) := by decide +kernel
theorem dX10_empty_162 : decode cX10_empty 162 = .ok (.iconst 1, 1) := by decide +kernel
theorem dX10_empty_163 : decode cX10_empty 163 = .ok (.goto 4, 3) := by decide +kernel
theorem dX10_empty_166 : decode cX10_empty 166 = .ok (.iconst 0, 1) := by decide +kernel
theorem dX10_empty_167 : decode cX10_empty 167 = .ok (.istore 5, 2) := by decide +kernel
theorem dX10_empty_169 : decode cX10_empty 169 = .ok (.iinc 6 1, 3) := by decide +kernel
theorem dX10_empty_172 : decode cX10_empty 172 = .ok (.goto (-76), 3) := by decide +kernel
theorem dX10_empty_175 : decode cX10_empty 175 = .ok (.iload 5, 2) := by decide +kernel
theorem dX10_empty_177 : decode cX10_empty 177 = .ok (.ifCond .eq 7, 3) := by decide +kernel
theorem dX10_empty_180 : decode cX10_empty 180 = .ok (.iconst 3, 1) := by decide +kernel
theorem dX10_empty_181 : decode cX10_empty 181 = .ok (.goto 13, 3) := by decide +kernel
theorem dX10_empty_184 : decode cX10_empty 184 = .ok (.iload_n 2, 1) := by decide +kernel
theorem dX10_empty_185 : decode cX10_empty 185 = .ok (.iconst 1, 1) := by decide +kernel
theorem dX10_empty_186 : decode cX10_empty 186 = .ok (.if_icmp .ne 7, 3) := by decide +kernel
theorem dX10_empty_189 : decode cX10_empty 189 = .ok (.iconst 2, 1) := by decide +kernel
theorem dX10_empty_190 : decode cX10_empty 190 = .ok (.goto 4, 3) := by decide +kernel
theorem dX10_empty_193 : decode cX10_empty 193 = .ok (.iload_n 2, 1) := by decide +kernel
theorem dX10_empty_194 : decode cX10_empty 194 = .ok (.istore_n 2, 1) := by decide +kernel
theorem dX10_empty_195 : decode cX10_empty 195 = .ok (.iinc 4 1, 3) := by decide +kernel
theorem dX10_empty_198 : decode cX10_empty 198 = .ok (.goto (-150), 3) := by decide +kernel
theorem dX10_empty_201 : decode cX10_empty 201 = .ok (.iinc 3 1, 3) := by decide +kernel
theorem dX10_empty_204 : decode cX10_empty 204 = .ok (.goto (-167), 3) := by decide +kernel
theorem dX10_empty_207 : decode cX10_empty 207 = .ok (.iload_n 2, 1) := by decide +kernel
theorem dX10_empty_208 : decode cX10_empty 208 = .ok (.ireturn, 1) := by decide +kernel
theorem dX10_again_0 : decode cX10_again 0 = .ok (.iload_n 1, 1) := by decide +kernel
theorem dX10_again_1 : decode cX10_again 1 = .ok (.iconst 0, 1) := by decide +kernel
theorem dX10_again_2 : decode cX10_again 2 = .ok (.iconst 1, 1) := by decide +kernel
theorem dX10_again_3 : decode cX10_again 3 = .ok (.invokestatic 87, 3) := by decide +kernel
theorem dX10_again_6 : decode cX10_again 6 = .ok (.ifCond .ne 6, 3) := by decide +kernel
theorem dX10_again_9 : decode cX10_again 9 = .ok (.bipush (-3), 2) := by decide +kernel
theorem dX10_again_11 : decode cX10_again 11 = .ok (.ireturn, 1) := by decide +kernel
theorem dX10_again_12 : decode cX10_again 12 = .ok (.aload_n 0, 1) := by decide +kernel
theorem dX10_again_13 : decode cX10_again 13 = .ok (.getfield 250, 3) := by decide +kernel
theorem dX10_again_16 : decode cX10_again 16 = .ok (.istore_n 2, 1) := by decide +kernel
theorem dX10_again_17 : decode cX10_again 17 = .ok (.aload_n 0, 1) := by decide +kernel
theorem dX10_again_18 : decode cX10_again 18 = .ok (.iload_n 1, 1) := by decide +kernel
theorem dX10_again_19 : decode cX10_again 19 = .ok (.putfield 250, 3) := by decide +kernel
theorem dX10_again_22 : decode cX10_again 22 = .ok (.iload_n 2, 1) := by decide +kernel
theorem dX10_again_23 : decode cX10_again 23 = .ok (.ireturn, 1) := by decide +kernel
theorem dX10_breakChain_0 : decode cX10_breakChain 0 = .ok (.aload_n 0, 1) := by decide +kernel
theorem dX10_breakChain_1 : decode cX10_breakChain 1 = .ok (.getfield 250, 3) := by decide +kernel
theorem dX10_breakChain_4 : decode cX10_breakChain 4 = .ok (.iconst 1, 1) := by decide +kernel
theorem dX10_breakChain_5 : decode cX10_breakChain 5 = .ok (.if_icmp .ne 16, 3) := by decide +kernel
theorem dX10_breakChain_8 : decode cX10_breakChain 8 = .ok (.aload_n 0, 1) := by decide +kernel
theorem dX10_breakChain_9 : decode cX10_breakChain 9 = .ok (.getfield 75, 3) := by decide +kernel
theorem dX10_breakChain_12 : decode cX10_breakChain 12 = .ok (.iload_n 1, 1) := by decide +kernel
theorem dX10_breakChain_13 : decode cX10_breakChain 13 = .ok (.baload, 1) := by decide +kernel
theorem dX10_breakChain_14 : decode cX10_breakChain 14 = .ok (.ifCond .ne 7, 3) := by decide +kernel
theorem dX10_breakChain_17 : decode cX10_breakChain 17 = .ok (.iconst 1, 1) := by decide +kernel
theorem dX10_breakChain_18 : decode cX10_breakChain 18 = .ok (.goto 4, 3) := by decide +kernel
theorem dX10_breakChain_21 : decode cX10_breakChain 21 = .ok (.iconst 0, 1) := by decide +kernel
theorem dX10_breakChain_22 : decode cX10_breakChain 22 = .ok (.istore_n 2, 1) := by decide +kernel
theorem dX10_breakChain_23 : decode cX10_breakChain 23 = .ok (.aload_n 0, 1) := by decide +kernel
theorem dX10_breakChain_24 : decode cX10_breakChain 24 = .ok (.getfield 75, 3) := by decide +kernel
theorem dX10_breakChain_27 : decode cX10_breakChain 27 = .ok (.iload_n 1, 1) := by decide +kernel
theorem dX10_breakChain_28 : decode cX10_breakChain 28 = .ok (.iconst 1, 1) := by decide +kernel
theorem dX10_breakChain_29 : decode cX10_breakChain 29 = .ok (.bastore, 1) := by decide +kernel
theorem dX10_breakChain_30 : decode cX10_breakChain 30 = .ok (.aload_n 0, 1) := by decide +kernel
theorem dX10_breakChain_31 : decode cX10_breakChain 31 = .ok (.getfield 69, 3) := by decide +kernel
theorem dX10_breakChain_34 : decode cX10_breakChain 34 = .ok (.iload_n 1, 1) := by decide +kernel
theorem dX10_breakChain_35 : decode cX10_breakChain 35 = .ok (.iload_n 2, 1) := by decide +kernel
theorem dX10_breakChain_36 : decode cX10_breakChain 36 = .ok (.ifCond .eq 7, 3) := by decide +kernel
theorem dX10_breakChain_39 : decode cX10_breakChain 39 = .ok (.iconst 0, 1) := by decide +kernel
theorem dX10_breakChain_40 : decode cX10_breakChain 40 = .ok (.goto 5, 3) := by decide +kernel
theorem dX10_breakChain_43 : decode cX10_breakChain 43 = .ok (.bipush 9, 2) := by decide +kernel
theorem dX10_breakChain_45 : decode cX10_breakChain 45 = .ok (.iastore, 1) := by decide +kernel
theorem dX10_breakChain_46 : decode cX10_breakChain 46 = .ok (.return_, 1) := by decide +kernel
theorem dX10_lastVisible_0 : decode cX10_lastVisible 0 = .ok (.iconst (-1), 1) := by decide +kernel
theorem dX10_lastVisible_1 : decode cX10_lastVisible 1 = .ok (.istore_n 2, 1) := by decide +kernel
theorem dX10_lastVisible_2 : decode cX10_lastVisible 2 = .ok (.iconst 0, 1) := by decide +kernel
theorem dX10_lastVisible_3 : decode cX10_lastVisible 3 = .ok (.istore_n 3, 1) := by decide +kernel
theorem dX10_lastVisible_4 : decode cX10_lastVisible 4 = .ok (.iload_n 3, 1) := by decide +kernel
theorem dX10_lastVisible_5 : decode cX10_lastVisible 5 = .ok (.aload_n 0, 1) := by decide +kernel
theorem dX10_lastVisible_6 : decode cX10_lastVisible 6 = .ok (.getfield 7, 3) := by decide +kernel
theorem dX10_lastVisible_9 : decode cX10_lastVisible 9 = .ok (.if_icmp .ge 34, 3) := by decide +kernel
theorem dX10_lastVisible_12 : decode cX10_lastVisible 12 = .ok (.aload_n 0, 1) := by decide +kernel
theorem dX10_lastVisible_13 : decode cX10_lastVisible 13 = .ok (.aload_n 0, 1) := by decide +kernel
theorem dX10_lastVisible_14 : decode cX10_lastVisible 14 = .ok (.getfield 47, 3) := by decide +kernel
theorem dX10_lastVisible_17 : decode cX10_lastVisible 17 = .ok (.bipush 23, 2) := by decide +kernel
theorem dX10_lastVisible_19 : decode cX10_lastVisible 19 = .ok (.iload_n 1, 1) := by decide +kernel
theorem dX10_lastVisible_20 : decode cX10_lastVisible 20 = .ok (.imul, 1) := by decide +kernel
theorem dX10_lastVisible_21 : decode cX10_lastVisible 21 = .ok (.iconst 2, 1) := by decide +kernel
theorem dX10_lastVisible_22 : decode cX10_lastVisible 22 = .ok (.iadd, 1) := by decide +kernel
theorem dX10_lastVisible_23 : decode cX10_lastVisible 23 = .ok (.iaload, 1) := by decide +kernel
theorem dX10_lastVisible_24 : decode cX10_lastVisible 24 = .ok (.iload_n 3, 1) := by decide +kernel
theorem dX10_lastVisible_25 : decode cX10_lastVisible 25 = .ok (.invokevirtual 114, 3) := by decide +kernel
theorem dX10_lastVisible_28 : decode cX10_lastVisible 28 = .ok (.ifCond .eq 7, 3) := by decide +kernel
theorem dX10_lastVisible_31 : decode cX10_lastVisible 31 = .ok (.iload_n 3, 1) := by decide +kernel
theorem dX10_lastVisible_32 : decode cX10_lastVisible 32 = .ok (.goto 4, 3) := by decide +kernel
theorem dX10_lastVisible_35 : decode cX10_lastVisible 35 = .ok (.iload_n 2, 1) := by decide +kernel
theorem dX10_lastVisible_36 : decode cX10_lastVisible 36 = .ok (.istore_n 2, 1) := by decide +kernel
theorem dX10_lastVisible_37 : decode cX10_lastVisible 37 = .ok (.iinc 3 1, 3) := by decide +kernel
theorem dX10_lastVisible_40 : decode cX10_lastVisible 40 = .ok (.goto (-36), 3) := by decide +kernel
theorem dX10_lastVisible_43 : decode cX10_lastVisible 43 = .ok (.iload_n 2, 1) := by decide +kernel
theorem dX10_lastVisible_44 : decode cX10_lastVisible 44 = .ok (.ireturn, 1) := by decide +kernel
theorem dX10_mayBegin_0 : decode cX10_mayBegin 0 = .ok (.aload_n 0, 1) := by decide +kernel
theorem dX10_mayBegin_1 : decode cX10_mayBegin 1 = .ok (.getfield 69, 3) := by decide +kernel
theorem dX10_mayBegin_4 : decode cX10_mayBegin 4 = .ok (.iload_n 1, 1) := by decide +kernel
theorem dX10_mayBegin_5 : decode cX10_mayBegin 5 = .ok (.iaload, 1) := by decide +kernel
theorem dX10_mayBegin_6 : decode cX10_mayBegin 6 = .ok (.iconst 2, 1) := by decide +kernel
theorem dX10_mayBegin_7 : decode cX10_mayBegin 7 = .ok (.if_icmp .gt 40, 3) := by decide +kernel
theorem dX10_mayBegin_10 : decode cX10_mayBegin 10 = .ok (.iload_n 2, 1) := by decide +kernel
theorem dX10_mayBegin_11 : decode cX10_mayBegin 11 = .ok (.aload_n 0, 1) := by decide +kernel
theorem dX10_mayBegin_12 : decode cX10_mayBegin 12 = .ok (.iload_n 1, 1) := by decide +kernel
theorem dX10_mayBegin_13 : decode cX10_mayBegin 13 = .ok (.aload_n 0, 1) := by decide +kernel
theorem dX10_mayBegin_14 : decode cX10_mayBegin 14 = .ok (.getfield 69, 3) := by decide +kernel
theorem dX10_mayBegin_17 : decode cX10_mayBegin 17 = .ok (.iload_n 1, 1) := by decide +kernel
theorem dX10_mayBegin_18 : decode cX10_mayBegin 18 = .ok (.iaload, 1) := by decide +kernel
theorem dX10_mayBegin_19 : decode cX10_mayBegin 19 = .ok (.iconst 0, 1) := by decide +kernel
theorem dX10_mayBegin_20 : decode cX10_mayBegin 20 = .ok (.invokevirtual 194, 3) := by decide +kernel
theorem dX10_mayBegin_23 : decode cX10_mayBegin 23 = .ok (.iadd, 1) := by decide +kernel
theorem dX10_mayBegin_24 : decode cX10_mayBegin 24 = .ok (.aload_n 0, 1) := by decide +kernel
theorem dX10_mayBegin_25 : decode cX10_mayBegin 25 = .ok (.getfield 7, 3) := by decide +kernel
theorem dX10_mayBegin_28 : decode cX10_mayBegin 28 = .ok (.if_icmp .gt 19, 3) := by decide +kernel
theorem dX10_mayBegin_31 : decode cX10_mayBegin 31 = .ok (.aload_n 0, 1) := by decide +kernel
theorem dX10_mayBegin_32 : decode cX10_mayBegin 32 = .ok (.iload_n 1, 1) := by decide +kernel
theorem dX10_mayBegin_33 : decode cX10_mayBegin 33 = .ok (.aload_n 0, 1) := by decide +kernel
theorem dX10_mayBegin_34 : decode cX10_mayBegin 34 = .ok (.getfield 69, 3) := by decide +kernel
theorem dX10_mayBegin_37 : decode cX10_mayBegin 37 = .ok (.iload_n 1, 1) := by decide +kernel
theorem dX10_mayBegin_38 : decode cX10_mayBegin 38 = .ok (.iaload, 1) := by decide +kernel
theorem dX10_mayBegin_39 : decode cX10_mayBegin 39 = .ok (.iload_n 2, 1) := by decide +kernel
theorem dX10_mayBegin_40 : decode cX10_mayBegin 40 = .ok (.iload_n 3, 1) := by decide +kernel
theorem dX10_mayBegin_41 : decode cX10_mayBegin 41 = .ok (.invokevirtual 202, 3) := by decide +kernel
theorem dX10_mayBegin_44 : decode cX10_mayBegin 44 = .ok (.ifCond .ne 5, 3) := by decide +kernel
theorem dX10_mayBegin_47 : decode cX10_mayBegin 47 = .ok (.iconst 0, 1) := by decide +kernel
theorem dX10_mayBegin_48 : decode cX10_mayBegin 48 = .ok (.ireturn, 1) := by decide +kernel
theorem dX10_mayBegin_49 : decode cX10_mayBegin 49 = .ok (.aload_n 0, 1) := by decide +kernel
theorem dX10_mayBegin_50 : decode cX10_mayBegin 50 = .ok (.getfield 69, 3) := by decide +kernel
theorem dX10_mayBegin_53 : decode cX10_mayBegin 53 = .ok (.iload_n 1, 1) := by decide +kernel
theorem dX10_mayBegin_54 : decode cX10_mayBegin 54 = .ok (.iaload, 1) := by decide +kernel
theorem dX10_mayBegin_55 : decode cX10_mayBegin 55 = .ok (.ifCond .eq 26, 3) := by decide +kernel
theorem dX10_mayBegin_58 : decode cX10_mayBegin 58 = .ok (.iload_n 2, 1) := by decide +kernel
theorem dX10_mayBegin_59 : decode cX10_mayBegin 59 = .ok (.aload_n 0, 1) := by decide +kernel
theorem dX10_mayBegin_60 : decode cX10_mayBegin 60 = .ok (.getfield 72, 3) := by decide +kernel
theorem dX10_mayBegin_63 : decode cX10_mayBegin 63 = .ok (.iload_n 1, 1) := by decide +kernel
theorem dX10_mayBegin_64 : decode cX10_mayBegin 64 = .ok (.iaload, 1) := by decide +kernel
theorem dX10_mayBegin_65 : decode cX10_mayBegin 65 = .ok (.isub, 1) := by decide +kernel
theorem dX10_mayBegin_66 : decode cX10_mayBegin 66 = .ok (.aload_n 0, 1) := by decide +kernel
theorem dX10_mayBegin_67 : decode cX10_mayBegin 67 = .ok (.iload_n 1, 1) := by decide +kernel
theorem dX10_mayBegin_68 : decode cX10_mayBegin 68 = .ok (.aload_n 0, 1) := by decide +kernel
theorem dX10_mayBegin_69 : decode cX10_mayBegin 69 = .ok (.getfield 69, 3) := by decide +kernel
theorem dX10_mayBegin_72 : decode cX10_mayBegin 72 = .ok (.iload_n 1, 1) := by decide +kernel
theorem dX10_mayBegin_73 : decode cX10_mayBegin 73 = .ok (.iaload, 1) := by decide +kernel
theorem dX10_mayBegin_74 : decode cX10_mayBegin 74 = .ok (.iconst 4, 1) := by decide +kernel
theorem dX10_mayBegin_75 : decode cX10_mayBegin 75 = .ok (.invokevirtual 194, 3) := by decide +kernel
theorem dX10_mayBegin_78 : decode cX10_mayBegin 78 = .ok (.if_icmp .lt 7, 3) := by decide +kernel
theorem dX10_mayBegin_81 : decode cX10_mayBegin 81 = .ok (.iconst 1, 1) := by decide +kernel
theorem dX10_mayBegin_82 : decode cX10_mayBegin 82 = .ok (.goto 4, 3) := by decide +kernel
theorem dX10_mayBegin_85 : decode cX10_mayBegin 85 = .ok (.iconst 0, 1) := by decide +kernel
theorem dX10_mayBegin_86 : decode cX10_mayBegin 86 = .ok (.ireturn, 1) := by decide +kernel
theorem dX10_isAhead_0 : decode cX10_isAhead 0 = .ok (.iload_n 1, 1) := by decide +kernel
theorem dX10_isAhead_1 : decode cX10_isAhead 1 = .ok (.ifCond .ne 22, 3) := by decide +kernel
theorem dX10_isAhead_4 : decode cX10_isAhead 4 = .ok (.aload_n 0, 1) := by decide +kernel
theorem dX10_isAhead_5 : decode cX10_isAhead 5 = .ok (.iload_n 2, 1) := by decide +kernel
theorem dX10_isAhead_6 : decode cX10_isAhead 6 = .ok (.invokevirtual 222, 3) := by decide +kernel
theorem dX10_isAhead_9 : decode cX10_isAhead 9 = .ok (.aload_n 0, 1) := by decide +kernel
theorem dX10_isAhead_10 : decode cX10_isAhead 10 = .ok (.iload_n 3, 1) := by decide +kernel
theorem dX10_isAhead_11 : decode cX10_isAhead 11 = .ok (.invokevirtual 222, 3) := by decide +kernel
theorem dX10_isAhead_14 : decode cX10_isAhead 14 = .ok (.if_icmp .le 7, 3) := by decide +kernel
theorem dX10_isAhead_17 : decode cX10_isAhead 17 = .ok (.iconst 1, 1) := by decide +kernel
theorem dX10_isAhead_18 : decode cX10_isAhead 18 = .ok (.goto 4, 3) := by decide +kernel
theorem dX10_isAhead_21 : decode cX10_isAhead 21 = .ok (.iconst 0, 1) := by decide +kernel
theorem dX10_isAhead_22 : decode cX10_isAhead 22 = .ok (.ireturn, 1) := by decide +kernel
theorem dX10_isAhead_23 : decode cX10_isAhead 23 = .ok (.iload_n 1, 1) := by decide +kernel
theorem dX10_isAhead_24 : decode cX10_isAhead 24 = .ok (.iconst 1, 1) := by decide +kernel
theorem dX10_isAhead_25 : decode cX10_isAhead 25 = .ok (.if_icmp .ne 46, 3) := by decide +kernel
theorem dX10_isAhead_28 : decode cX10_isAhead 28 = .ok (.aload_n 0, 1) := by decide +kernel
theorem dX10_isAhead_29 : decode cX10_isAhead 29 = .ok (.aload_n 0, 1) := by decide +kernel
theorem dX10_isAhead_30 : decode cX10_isAhead 30 = .ok (.getfield 47, 3) := by decide +kernel
theorem dX10_isAhead_33 : decode cX10_isAhead 33 = .ok (.bipush 23, 2) := by decide +kernel
theorem dX10_isAhead_35 : decode cX10_isAhead 35 = .ok (.iload_n 2, 1) := by decide +kernel
theorem dX10_isAhead_36 : decode cX10_isAhead 36 = .ok (.imul, 1) := by decide +kernel
theorem dX10_isAhead_37 : decode cX10_isAhead 37 = .ok (.iconst 2, 1) := by decide +kernel
theorem dX10_isAhead_38 : decode cX10_isAhead 38 = .ok (.iadd, 1) := by decide +kernel
theorem dX10_isAhead_39 : decode cX10_isAhead 39 = .ok (.iaload, 1) := by decide +kernel
theorem dX10_isAhead_40 : decode cX10_isAhead 40 = .ok (.iload 4, 2) := by decide +kernel
theorem dX10_isAhead_42 : decode cX10_isAhead 42 = .ok (.invokevirtual 103, 3) := by decide +kernel
theorem dX10_isAhead_45 : decode cX10_isAhead 45 = .ok (.aload_n 0, 1) := by decide +kernel
theorem dX10_isAhead_46 : decode cX10_isAhead 46 = .ok (.aload_n 0, 1) := by decide +kernel
theorem dX10_isAhead_47 : decode cX10_isAhead 47 = .ok (.getfield 47, 3) := by decide +kernel
theorem dX10_isAhead_50 : decode cX10_isAhead 50 = .ok (.bipush 23, 2) := by decide +kernel
theorem dX10_isAhead_52 : decode cX10_isAhead 52 = .ok (.iload_n 3, 1) := by decide +kernel
theorem dX10_isAhead_53 : decode cX10_isAhead 53 = .ok (.imul, 1) := by decide +kernel
theorem dX10_isAhead_54 : decode cX10_isAhead 54 = .ok (.iconst 2, 1) := by decide +kernel
theorem dX10_isAhead_55 : decode cX10_isAhead 55 = .ok (.iadd, 1) := by decide +kernel
theorem dX10_isAhead_56 : decode cX10_isAhead 56 = .ok (.iaload, 1) := by decide +kernel
theorem dX10_isAhead_57 : decode cX10_isAhead 57 = .ok (.iload 4, 2) := by decide +kernel
theorem dX10_isAhead_59 : decode cX10_isAhead 59 = .ok (.invokevirtual 103, 3) := by decide +kernel
theorem dX10_isAhead_62 : decode cX10_isAhead 62 = .ok (.if_icmp .ge 7, 3) := by decide +kernel
theorem dX10_isAhead_65 : decode cX10_isAhead 65 = .ok (.iconst 1, 1) := by decide +kernel
theorem dX10_isAhead_66 : decode cX10_isAhead 66 = .ok (.goto 4, 3) := by decide +kernel
theorem dX10_isAhead_69 : decode cX10_isAhead 69 = .ok (.iconst 0, 1) := by decide +kernel
theorem dX10_isAhead_70 : decode cX10_isAhead 70 = .ok (.ireturn, 1) := by decide +kernel
theorem dX10_isAhead_71 : decode cX10_isAhead 71 = .ok (.aload_n 0, 1) := by decide +kernel
theorem dX10_isAhead_72 : decode cX10_isAhead 72 = .ok (.iload_n 2, 1) := by decide +kernel
theorem dX10_isAhead_73 : decode cX10_isAhead 73 = .ok (.invokevirtual 253, 3) := by decide +kernel
theorem dX10_isAhead_76 : decode cX10_isAhead 76 = .ok (.aload_n 0, 1) := by decide +kernel
theorem dX10_isAhead_77 : decode cX10_isAhead 77 = .ok (.iload_n 3, 1) := by decide +kernel
theorem dX10_isAhead_78 : decode cX10_isAhead 78 = .ok (.invokevirtual 253, 3) := by decide +kernel
theorem dX10_isAhead_81 : decode cX10_isAhead 81 = .ok (.if_icmp .ge 7, 3) := by decide +kernel
theorem dX10_isAhead_84 : decode cX10_isAhead 84 = .ok (.iconst 1, 1) := by decide +kernel
theorem dX10_isAhead_85 : decode cX10_isAhead 85 = .ok (.goto 4, 3) := by decide +kernel
theorem dX10_isAhead_88 : decode cX10_isAhead 88 = .ok (.iconst 0, 1) := by decide +kernel
theorem dX10_isAhead_89 : decode cX10_isAhead 89 = .ok (.ireturn, 1) := by decide +kernel
theorem dX10_watchTo_0 : decode cX10_watchTo 0 = .ok (.iconst 0, 1) := by decide +kernel
theorem dX10_watchTo_1 : decode cX10_watchTo 1 = .ok (.istore 4, 2) := by decide +kernel
theorem dX10_watchTo_3 : decode cX10_watchTo 3 = .ok (.iload 4, 2) := by decide +kernel
theorem dX10_watchTo_5 : decode cX10_watchTo 5 = .ok (.aload_n 0, 1) := by decide +kernel
theorem dX10_watchTo_6 : decode cX10_watchTo 6 = .ok (.getfield 94, 3) := by decide +kernel
theorem dX10_watchTo_9 : decode cX10_watchTo 9 = .ok (.if_icmp .ge 33, 3) := by decide +kernel
theorem dX10_watchTo_12 : decode cX10_watchTo 12 = .ok (.aload_n 0, 1) := by decide +kernel
theorem dX10_watchTo_13 : decode cX10_watchTo 13 = .ok (.getfield 69, 3) := by decide +kernel
theorem dX10_watchTo_16 : decode cX10_watchTo 16 = .ok (.iload 4, 2) := by decide +kernel
theorem dX10_watchTo_18 : decode cX10_watchTo 18 = .ok (.iconst 0, 1) := by decide +kernel
theorem dX10_watchTo_19 : decode cX10_watchTo 19 = .ok (.iastore, 1) := by decide +kernel
theorem dX10_watchTo_20 : decode cX10_watchTo 20 = .ok (.aload_n 0, 1) := by decide +kernel
theorem dX10_watchTo_21 : decode cX10_watchTo 21 = .ok (.getfield 72, 3) := by decide +kernel
theorem dX10_watchTo_24 : decode cX10_watchTo 24 = .ok (.iload 4, 2) := by decide +kernel
theorem dX10_watchTo_26 : decode cX10_watchTo 26 = .ok (.iconst 0, 1) := by decide +kernel
theorem dX10_watchTo_27 : decode cX10_watchTo 27 = .ok (.iastore, 1) := by decide +kernel
theorem dX10_watchTo_28 : decode cX10_watchTo 28 = .ok (.aload_n 0, 1) := by decide +kernel
theorem dX10_watchTo_29 : decode cX10_watchTo 29 = .ok (.getfield 75, 3) := by decide +kernel
theorem dX10_watchTo_32 : decode cX10_watchTo 32 = .ok (.iload 4, 2) := by decide +kernel
theorem dX10_watchTo_34 : decode cX10_watchTo 34 = .ok (.iconst 0, 1) := by decide +kernel
theorem dX10_watchTo_35 : decode cX10_watchTo 35 = .ok (.bastore, 1) := by decide +kernel
theorem dX10_watchTo_36 : decode cX10_watchTo 36 = .ok (.iinc 4 1, 3) := by decide +kernel
theorem dX10_watchTo_39 : decode cX10_watchTo 39 = .ok (.goto (-36), 3) := by decide +kernel
theorem dX10_watchTo_42 : decode cX10_watchTo 42 = .ok (.aload_n 0, 1) := by decide +kernel
theorem dX10_watchTo_43 : decode cX10_watchTo 43 = .ok (.iconst 0, 1) := by decide +kernel
theorem dX10_watchTo_44 : decode cX10_watchTo 44 = .ok (.putfield 256, 3) := by decide +kernel
theorem dX10_watchTo_47 : decode cX10_watchTo 47 = .ok (.iconst 0, 1) := by decide +kernel
theorem dX10_watchTo_48 : decode cX10_watchTo 48 = .ok (.istore 4, 2) := by decide +kernel
theorem dX10_watchTo_50 : decode cX10_watchTo 50 = .ok (.iconst (-1), 1) := by decide +kernel
theorem dX10_watchTo_51 : decode cX10_watchTo 51 = .ok (.istore 5, 2) := by decide +kernel
theorem dX10_watchTo_53 : decode cX10_watchTo 53 = .ok (.iconst 0, 1) := by decide +kernel
theorem dX10_watchTo_54 : decode cX10_watchTo 54 = .ok (.istore 6, 2) := by decide +kernel
theorem dX10_watchTo_56 : decode cX10_watchTo 56 = .ok (.iconst 0, 1) := by decide +kernel
theorem dX10_watchTo_57 : decode cX10_watchTo 57 = .ok (.istore 7, 2) := by decide +kernel
theorem dX10_watchTo_59 : decode cX10_watchTo 59 = .ok (.iload 7, 2) := by decide +kernel
theorem dX10_watchTo_61 : decode cX10_watchTo 61 = .ok (.iload_n 3, 1) := by decide +kernel
theorem dX10_watchTo_62 : decode cX10_watchTo 62 = .ok (.if_icmp .ge 395, 3) := by decide +kernel
theorem dX10_watchTo_65 : decode cX10_watchTo 65 = .ok (.iload 5, 2) := by decide +kernel
theorem dX10_watchTo_67 : decode cX10_watchTo 67 = .ok (.iconst (-1), 1) := by decide +kernel
theorem dX10_watchTo_68 : decode cX10_watchTo 68 = .ok (.if_icmp .ne 233, 3) := by decide +kernel
theorem dX10_watchTo_71 : decode cX10_watchTo 71 = .ok (.iconst 0, 1) := by decide +kernel
theorem dX10_watchTo_72 : decode cX10_watchTo 72 = .ok (.istore 8, 2) := by decide +kernel
theorem dX10_watchTo_74 : decode cX10_watchTo 74 = .ok (.iload 8, 2) := by decide +kernel
theorem dX10_watchTo_76 : decode cX10_watchTo 76 = .ok (.aload_n 0, 1) := by decide +kernel
theorem dX10_watchTo_77 : decode cX10_watchTo 77 = .ok (.getfield 94, 3) := by decide +kernel
theorem dX10_watchTo_80 : decode cX10_watchTo 80 = .ok (.if_icmp .ge 57, 3) := by decide +kernel
theorem dX10_watchTo_83 : decode cX10_watchTo 83 = .ok (.aload_n 0, 1) := by decide +kernel
theorem dX10_watchTo_84 : decode cX10_watchTo 84 = .ok (.getfield 69, 3) := by decide +kernel
theorem dX10_watchTo_87 : decode cX10_watchTo 87 = .ok (.iload 8, 2) := by decide +kernel
theorem dX10_watchTo_89 : decode cX10_watchTo 89 = .ok (.iaload, 1) := by decide +kernel
theorem dX10_watchTo_90 : decode cX10_watchTo 90 = .ok (.iconst 1, 1) := by decide +kernel
theorem dX10_watchTo_91 : decode cX10_watchTo 91 = .ok (.iconst 2, 1) := by decide +kernel
theorem dX10_watchTo_92 : decode cX10_watchTo 92 = .ok (.invokestatic 87, 3) := by decide +kernel
theorem dX10_watchTo_95 : decode cX10_watchTo 95 = .ok (.ifCond .eq 36, 3) := by decide +kernel
theorem dX10_watchTo_98 : decode cX10_watchTo 98 = .ok (.iload 7, 2) := by decide +kernel
theorem dX10_watchTo_100 : decode cX10_watchTo 100 = .ok (.aload_n 0, 1) := by decide +kernel
theorem dX10_watchTo_101 : decode cX10_watchTo 101 = .ok (.getfield 72, 3) := by decide +kernel
theorem dX10_watchTo_104 : decode cX10_watchTo 104 = .ok (.iload 8, 2) := by decide +kernel
theorem dX10_watchTo_106 : decode cX10_watchTo 106 = .ok (.iaload, 1) := by decide +kernel
theorem dX10_watchTo_107 : decode cX10_watchTo 107 = .ok (.isub, 1) := by decide +kernel
theorem dX10_watchTo_108 : decode cX10_watchTo 108 = .ok (.aload_n 0, 1) := by decide +kernel
theorem dX10_watchTo_109 : decode cX10_watchTo 109 = .ok (.iload 8, 2) := by decide +kernel
theorem dX10_watchTo_111 : decode cX10_watchTo 111 = .ok (.aload_n 0, 1) := by decide +kernel
theorem dX10_watchTo_112 : decode cX10_watchTo 112 = .ok (.getfield 69, 3) := by decide +kernel
theorem dX10_watchTo_115 : decode cX10_watchTo 115 = .ok (.iload 8, 2) := by decide +kernel
theorem dX10_watchTo_117 : decode cX10_watchTo 117 = .ok (.iaload, 1) := by decide +kernel
theorem dX10_watchTo_118 : decode cX10_watchTo 118 = .ok (.iconst 5, 1) := by decide +kernel
theorem dX10_watchTo_119 : decode cX10_watchTo 119 = .ok (.invokevirtual 194, 3) := by decide +kernel
theorem dX10_watchTo_122 : decode cX10_watchTo 122 = .ok (.if_icmp .le 9, 3) := by decide +kernel
theorem dX10_watchTo_125 : decode cX10_watchTo 125 = .ok (.aload_n 0, 1) := by decide +kernel
theorem dX10_watchTo_126 : decode cX10_watchTo 126 = .ok (.iload 8, 2) := by decide +kernel
theorem dX10_watchTo_128 : decode cX10_watchTo 128 = .ok (.invokevirtual 259, 3) := by decide +kernel
theorem dX10_watchTo_131 : decode cX10_watchTo 131 = .ok (.iinc 8 1, 3) := by decide +kernel
theorem dX10_watchTo_134 : decode cX10_watchTo 134 = .ok (.goto (-60), 3) := by decide +kernel
theorem dX10_watchTo_137 : decode cX10_watchTo 137 = .ok (.iconst (-1), 1) := by decide +kernel
theorem dX10_watchTo_138 : decode cX10_watchTo 138 = .ok (.istore 8, 2) := by decide +kernel
theorem dX10_watchTo_140 : decode cX10_watchTo 140 = .ok (.iconst 0, 1) := by decide +kernel
theorem dX10_watchTo_141 : decode cX10_watchTo 141 = .ok (.istore 9, 2) := by decide +kernel
theorem dX10_watchTo_143 : decode cX10_watchTo 143 = .ok (.iload 9, 2) := by decide +kernel
theorem dX10_watchTo_145 : decode cX10_watchTo 145 = .ok (.aload_n 0, 1) := by decide +kernel
theorem dX10_watchTo_146 : decode cX10_watchTo 146 = .ok (.getfield 94, 3) := by decide +kernel
theorem dX10_watchTo_149 : decode cX10_watchTo 149 = .ok (.if_icmp .ge 50, 3) := by decide +kernel
theorem dX10_watchTo_152 : decode cX10_watchTo 152 = .ok (.aload_n 0, 1) := by decide +kernel
theorem dX10_watchTo_153 : decode cX10_watchTo 153 = .ok (.iload 9, 2) := by decide +kernel
theorem dX10_watchTo_155 : decode cX10_watchTo 155 = .ok (.iload 7, 2) := by decide +kernel
