theorem dX10_write_34 : decode cX10_write 34 = .ok (.if_icmp .ge 33, 3) := by decide +kernel
theorem dX10_write_37 : decode cX10_write 37 = .ok (.aload_n 0, 1) := by decide +kernel
theorem dX10_write_38 : decode cX10_write 38 = .ok (.getfield 32, 3) := by decide +kernel
theorem dX10_write_41 : decode cX10_write 41 = .ok (.aload_n 0, 1) := by decide +kernel
theorem dX10_write_42 : decode cX10_write 42 = .ok (.getfield 127, 3) := by decide +kernel
theorem dX10_write_45 : decode cX10_write 45 = .ok (.iload 4, 2) := by decide +kernel
theorem dX10_write_47 : decode cX10_write 47 = .ok (.iadd, 1) := by decide +kernel
theorem dX10_write_48 : decode cX10_write 48 = .ok (.lload_n 1, 1) := by decide +kernel
theorem dX10_write_49 : decode cX10_write 49 = .ok (.bipush 8, 2) := by decide +kernel
theorem dX10_write_51 : decode cX10_write 51 = .ok (.iload 4, 2) := by decide +kernel
theorem dX10_write_53 : decode cX10_write 53 = .ok (.imul, 1) := by decide +kernel
theorem dX10_write_54 : decode cX10_write 54 = .ok (.lshr, 1) := by decide +kernel
theorem dX10_write_55 : decode cX10_write 55 = .ok (.ldc2_w 130, 3) := by decide +kernel
theorem dX10_write_58 : decode cX10_write 58 = .ok (.land, 1) := by decide +kernel
theorem dX10_write_59 : decode cX10_write 59 = .ok (.l2i, 1) := by decide +kernel
theorem dX10_write_60 : decode cX10_write 60 = .ok (.iastore, 1) := by decide +kernel
theorem dX10_write_61 : decode cX10_write 61 = .ok (.iinc 4 1, 3) := by decide +kernel
theorem dX10_write_64 : decode cX10_write 64 = .ok (.goto (-33), 3) := by decide +kernel
theorem dX10_write_67 : decode cX10_write 67 = .ok (.aload_n 0, 1) := by decide +kernel
theorem dX10_write_68 : decode cX10_write 68 = .ok (.dup, 1) := by decide +kernel
theorem dX10_write_69 : decode cX10_write 69 = .ok (.getfield 127, 3) := by decide +kernel
theorem dX10_write_72 : decode cX10_write 72 = .ok (.iload_n 3, 1) := by decide +kernel
theorem dX10_write_73 : decode cX10_write 73 = .ok (.iadd, 1) := by decide +kernel
theorem dX10_write_74 : decode cX10_write 74 = .ok (.putfield 127, 3) := by decide +kernel
theorem dX10_write_77 : decode cX10_write 77 = .ok (.aload_n 0, 1) := by decide +kernel
theorem dX10_write_78 : decode cX10_write 78 = .ok (.getfield 127, 3) := by decide +kernel
theorem dX10_write_81 : decode cX10_write 81 = .ok (.ireturn, 1) := by decide +kernel
theorem dX10_erase_0 : decode cX10_erase 0 = .ok (.aload_n 0, 1) := by decide +kernel
theorem dX10_erase_1 : decode cX10_erase 1 = .ok (.getfield 127, 3) := by decide +kernel
theorem dX10_erase_4 : decode cX10_erase 4 = .ok (.istore_n 1, 1) := by decide +kernel
theorem dX10_erase_5 : decode cX10_erase 5 = .ok (.aload_n 0, 1) := by decide +kernel
theorem dX10_erase_6 : decode cX10_erase 6 = .ok (.iconst 0, 1) := by decide +kernel
theorem dX10_erase_7 : decode cX10_erase 7 = .ok (.putfield 127, 3) := by decide +kernel
theorem dX10_erase_10 : decode cX10_erase 10 = .ok (.iload_n 1, 1) := by decide +kernel
theorem dX10_erase_11 : decode cX10_erase 11 = .ok (.ireturn, 1) := by decide +kernel
theorem dX10_wordOf_0 : decode cX10_wordOf 0 = .ok (.lload_n 0, 1) := by decide +kernel
theorem dX10_wordOf_1 : decode cX10_wordOf 1 = .ok (.ldc2_w 132, 3) := by decide +kernel
theorem dX10_wordOf_4 : decode cX10_wordOf 4 = .ok (.lcmp, 1) := by decide +kernel
theorem dX10_wordOf_5 : decode cX10_wordOf 5 = .ok (.ifCond .ne 5, 3) := by decide +kernel
theorem dX10_wordOf_8 : decode cX10_wordOf 8 = .ok (.iconst 0, 1) := by decide +kernel
theorem dX10_wordOf_9 : decode cX10_wordOf 9 = .ok (.ireturn, 1) := by decide +kernel
theorem dX10_wordOf_10 : decode cX10_wordOf 10 = .ok (.lload_n 0, 1) := by decide +kernel
theorem dX10_wordOf_11 : decode cX10_wordOf 11 = .ok (.ldc2_w 134, 3) := by decide +kernel
theorem dX10_wordOf_14 : decode cX10_wordOf 14 = .ok (.lcmp, 1) := by decide +kernel
theorem dX10_wordOf_15 : decode cX10_wordOf 15 = .ok (.ifCond .ne 5, 3) := by decide +kernel
theorem dX10_wordOf_18 : decode cX10_wordOf 18 = .ok (.iconst 1, 1) := by decide +kernel
theorem dX10_wordOf_19 : decode cX10_wordOf 19 = .ok (.ireturn, 1) := by decide +kernel
theorem dX10_wordOf_20 : decode cX10_wordOf 20 = .ok (.lload_n 0, 1) := by decide +kernel
theorem dX10_wordOf_21 : decode cX10_wordOf 21 = .ok (.ldc2_w 136, 3) := by decide +kernel
theorem dX10_wordOf_24 : decode cX10_wordOf 24 = .ok (.lcmp, 1) := by decide +kernel
theorem dX10_wordOf_25 : decode cX10_wordOf 25 = .ok (.ifCond .ne 5, 3) := by decide +kernel
theorem dX10_wordOf_28 : decode cX10_wordOf 28 = .ok (.iconst 2, 1) := by decide +kernel
theorem dX10_wordOf_29 : decode cX10_wordOf 29 = .ok (.ireturn, 1) := by decide +kernel
theorem dX10_wordOf_30 : decode cX10_wordOf 30 = .ok (.lload_n 0, 1) := by decide +kernel
theorem dX10_wordOf_31 : decode cX10_wordOf 31 = .ok (.ldc2_w 138, 3) := by decide +kernel
theorem dX10_wordOf_34 : decode cX10_wordOf 34 = .ok (.lcmp, 1) := by decide +kernel
theorem dX10_wordOf_35 : decode cX10_wordOf 35 = .ok (.ifCond .ne 5, 3) := by decide +kernel
theorem dX10_wordOf_38 : decode cX10_wordOf 38 = .ok (.iconst 3, 1) := by decide +kernel
theorem dX10_wordOf_39 : decode cX10_wordOf 39 = .ok (.ireturn, 1) := by decide +kernel
theorem dX10_wordOf_40 : decode cX10_wordOf 40 = .ok (.lload_n 0, 1) := by decide +kernel
theorem dX10_wordOf_41 : decode cX10_wordOf 41 = .ok (.ldc2_w 140, 3) := by decide +kernel
theorem dX10_wordOf_44 : decode cX10_wordOf 44 = .ok (.lcmp, 1) := by decide +kernel
theorem dX10_wordOf_45 : decode cX10_wordOf 45 = .ok (.ifCond .ne 5, 3) := by decide +kernel
theorem dX10_wordOf_48 : decode cX10_wordOf 48 = .ok (.iconst 4, 1) := by decide +kernel
theorem dX10_wordOf_49 : decode cX10_wordOf 49 = .ok (.ireturn, 1) := by decide +kernel
theorem dX10_wordOf_50 : decode cX10_wordOf 50 = .ok (.lload_n 0, 1) := by decide +kernel
theorem dX10_wordOf_51 : decode cX10_wordOf 51 = .ok (.ldc2_w 142, 3) := by decide +kernel
theorem dX10_wordOf_54 : decode cX10_wordOf 54 = .ok (.lcmp, 1) := by decide +kernel
theorem dX10_wordOf_55 : decode cX10_wordOf 55 = .ok (.ifCond .ne 5, 3) := by decide +kernel
theorem dX10_wordOf_58 : decode cX10_wordOf 58 = .ok (.iconst 5, 1) := by decide +kernel
theorem dX10_wordOf_59 : decode cX10_wordOf 59 = .ok (.ireturn, 1) := by decide +kernel
theorem dX10_wordOf_60 : decode cX10_wordOf 60 = .ok (.lload_n 0, 1) := by decide +kernel
theorem dX10_wordOf_61 : decode cX10_wordOf 61 = .ok (.ldc2_w 144, 3) := by decide +kernel
theorem dX10_wordOf_64 : decode cX10_wordOf 64 = .ok (.lcmp, 1) := by decide +kernel
theorem dX10_wordOf_65 : decode cX10_wordOf 65 = .ok (.ifCond .ne 6, 3) := by decide +kernel
theorem dX10_wordOf_68 : decode cX10_wordOf 68 = .ok (.bipush 6, 2) := by decide +kernel
theorem dX10_wordOf_70 : decode cX10_wordOf 70 = .ok (.ireturn, 1) := by decide +kernel
theorem dX10_wordOf_71 : decode cX10_wordOf 71 = .ok (.lload_n 0, 1) := by decide +kernel
theorem dX10_wordOf_72 : decode cX10_wordOf 72 = .ok (.ldc2_w 146, 3) := by decide +kernel
theorem dX10_wordOf_75 : decode cX10_wordOf 75 = .ok (.lcmp, 1) := by decide +kernel
theorem dX10_wordOf_76 : decode cX10_wordOf 76 = .ok (.ifCond .ne 6, 3) := by decide +kernel
theorem dX10_wordOf_79 : decode cX10_wordOf 79 = .ok (.bipush 7, 2) := by decide +kernel
theorem dX10_wordOf_81 : decode cX10_wordOf 81 = .ok (.ireturn, 1) := by decide +kernel
theorem dX10_wordOf_82 : decode cX10_wordOf 82 = .ok (.lload_n 0, 1) := by decide +kernel
theorem dX10_wordOf_83 : decode cX10_wordOf 83 = .ok (.ldc2_w 148, 3) := by decide +kernel
theorem dX10_wordOf_86 : decode cX10_wordOf 86 = .ok (.lcmp, 1) := by decide +kernel
theorem dX10_wordOf_87 : decode cX10_wordOf 87 = .ok (.ifCond .ne 6, 3) := by decide +kernel
theorem dX10_wordOf_90 : decode cX10_wordOf 90 = .ok (.bipush 8, 2) := by decide +kernel
theorem dX10_wordOf_92 : decode cX10_wordOf 92 = .ok (.ireturn, 1) := by decide +kernel
theorem dX10_wordOf_93 : decode cX10_wordOf 93 = .ok (.lload_n 0, 1) := by decide +kernel
theorem dX10_wordOf_94 : decode cX10_wordOf 94 = .ok (.ldc2_w 150, 3) := by decide +kernel
theorem dX10_wordOf_97 : decode cX10_wordOf 97 = .ok (.lcmp, 1) := by decide +kernel
theorem dX10_wordOf_98 : decode cX10_wordOf 98 = .ok (.ifCond .ne 8, 3) := by decide +kernel
theorem dX10_wordOf_101 : decode cX10_wordOf 101 = .ok (.bipush 20, 2) := by decide +kernel
theorem dX10_wordOf_103 : decode cX10_wordOf 103 = .ok (.goto 5, 3) := by decide +kernel
theorem dX10_wordOf_106 : decode cX10_wordOf 106 = .ok (.bipush 99, 2) := by decide +kernel
theorem dX10_wordOf_108 : decode cX10_wordOf 108 = .ok (.ireturn, 1) := by decide +kernel
theorem dX10_findTokens_0 : decode cX10_findTokens 0 = .ok (.aload_n 0, 1) := by decide +kernel
theorem dX10_findTokens_1 : decode cX10_findTokens 1 = .ok (.iconst 0, 1) := by decide +kernel
theorem dX10_findTokens_2 : decode cX10_findTokens 2 = .ok (.putfield 152, 3) := by decide +kernel
theorem dX10_findTokens_5 : decode cX10_findTokens 5 = .ok (.iconst 0, 1) := by decide +kernel
theorem dX10_findTokens_6 : decode cX10_findTokens 6 = .ok (.istore_n 1, 1) := by decide +kernel
theorem dX10_findTokens_7 : decode cX10_findTokens 7 = .ok (.iload_n 1, 1) := by decide +kernel
theorem dX10_findTokens_8 : decode cX10_findTokens 8 = .ok (.aload_n 0, 1) := by decide +kernel
theorem dX10_findTokens_9 : decode cX10_findTokens 9 = .ok (.getfield 127, 3) := by decide +kernel
theorem dX10_findTokens_12 : decode cX10_findTokens 12 = .ok (.if_icmp .ge 309, 3) := by decide +kernel
theorem dX10_findTokens_15 : decode cX10_findTokens 15 = .ok (.iload_n 1, 1) := by decide +kernel
theorem dX10_findTokens_16 : decode cX10_findTokens 16 = .ok (.istore_n 2, 1) := by decide +kernel
theorem dX10_findTokens_17 : decode cX10_findTokens 17 = .ok (.iconst (-1), 1) := by decide +kernel
theorem dX10_findTokens_18 : decode cX10_findTokens 18 = .ok (.istore_n 3, 1) := by decide +kernel
theorem dX10_findTokens_19 : decode cX10_findTokens 19 = .ok (.iconst 0, 1) := by decide +kernel
theorem dX10_findTokens_20 : decode cX10_findTokens 20 = .ok (.istore 4, 2) := by decide +kernel
theorem dX10_findTokens_22 : decode cX10_findTokens 22 = .ok (.aload_n 0, 1) := by decide +kernel
theorem dX10_findTokens_23 : decode cX10_findTokens 23 = .ok (.getfield 32, 3) := by decide +kernel
theorem dX10_findTokens_26 : decode cX10_findTokens 26 = .ok (.iload_n 1, 1) := by decide +kernel
theorem dX10_findTokens_27 : decode cX10_findTokens 27 = .ok (.iaload, 1) := by decide +kernel
theorem dX10_findTokens_28 : decode cX10_findTokens 28 = .ok (.bipush 97, 2) := by decide +kernel
theorem dX10_findTokens_30 : decode cX10_findTokens 30 = .ok (.bipush 122, 2) := by decide +kernel
theorem dX10_findTokens_32 : decode cX10_findTokens 32 = .ok (.invokestatic 87, 3) := by decide +kernel
theorem dX10_findTokens_35 : decode cX10_findTokens 35 = .ok (.ifCond .eq 91, 3) := by decide +kernel
theorem dX10_findTokens_38 : decode cX10_findTokens 38 = .ok (.lconst 0, 1) := by decide +kernel
theorem dX10_findTokens_39 : decode cX10_findTokens 39 = .ok (.lstore 5, 2) := by decide +kernel
theorem dX10_findTokens_41 : decode cX10_findTokens 41 = .ok (.iload_n 1, 1) := by decide +kernel
theorem dX10_findTokens_42 : decode cX10_findTokens 42 = .ok (.aload_n 0, 1) := by decide +kernel
theorem dX10_findTokens_43 : decode cX10_findTokens 43 = .ok (.getfield 127, 3) := by decide +kernel
theorem dX10_findTokens_46 : decode cX10_findTokens 46 = .ok (.if_icmp .ge 58, 3) := by decide +kernel
theorem dX10_findTokens_49 : decode cX10_findTokens 49 = .ok (.aload_n 0, 1) := by decide +kernel
theorem dX10_findTokens_50 : decode cX10_findTokens 50 = .ok (.getfield 32, 3) := by decide +kernel
theorem dX10_findTokens_53 : decode cX10_findTokens 53 = .ok (.iload_n 1, 1) := by decide +kernel
theorem dX10_findTokens_54 : decode cX10_findTokens 54 = .ok (.iaload, 1) := by decide +kernel
theorem dX10_findTokens_55 : decode cX10_findTokens 55 = .ok (.bipush 97, 2) := by decide +kernel
theorem dX10_findTokens_57 : decode cX10_findTokens 57 = .ok (.bipush 122, 2) := by decide +kernel
theorem dX10_findTokens_59 : decode cX10_findTokens 59 = .ok (.invokestatic 87, 3) := by decide +kernel
theorem dX10_findTokens_62 : decode cX10_findTokens 62 = .ok (.ifCond .eq 42, 3) := by decide +kernel
theorem dX10_findTokens_65 : decode cX10_findTokens 65 = .ok (.iload_n 1, 1) := by decide +kernel
theorem dX10_findTokens_66 : decode cX10_findTokens 66 = .ok (.iload_n 2, 1) := by decide +kernel
theorem dX10_findTokens_67 : decode cX10_findTokens 67 = .ok (.isub, 1) := by decide +kernel
theorem dX10_findTokens_68 : decode cX10_findTokens 68 = .ok (.bipush 9, 2) := by decide +kernel
theorem dX10_findTokens_70 : decode cX10_findTokens 70 = .ok (.if_icmp .ge 24, 3) := by decide +kernel
theorem dX10_findTokens_73 : decode cX10_findTokens 73 = .ok (.ldc2_w 155, 3) := by decide +kernel
theorem dX10_findTokens_76 : decode cX10_findTokens 76 = .ok (.lload 5, 2) := by decide +kernel
theorem dX10_findTokens_78 : decode cX10_findTokens 78 = .ok (.lmul, 1) := by decide +kernel
theorem dX10_findTokens_79 : decode cX10_findTokens 79 = .ok (.aload_n 0, 1) := by decide +kernel
theorem dX10_findTokens_80 : decode cX10_findTokens 80 = .ok (.getfield 32, 3) := by decide +kernel
theorem dX10_findTokens_83 : decode cX10_findTokens 83 = .ok (.iload_n 1, 1) := by decide +kernel
theorem dX10_findTokens_84 : decode cX10_findTokens 84 = .ok (.iaload, 1) := by decide +kernel
theorem dX10_findTokens_85 : decode cX10_findTokens 85 = .ok (.i2l, 1) := by decide +kernel
theorem dX10_findTokens_86 : decode cX10_findTokens 86 = .ok (.ladd, 1) := by decide +kernel
theorem dX10_findTokens_87 : decode cX10_findTokens 87 = .ok (.ldc2_w 157, 3) := by decide +kernel
theorem dX10_findTokens_90 : decode cX10_findTokens 90 = .ok (.lsub, 1) := by decide +kernel
theorem dX10_findTokens_91 : decode cX10_findTokens 91 = .ok (.goto 5, 3) := by decide +kernel
theorem dX10_findTokens_94 : decode cX10_findTokens 94 = .ok (.lload 5, 2) := by decide +kernel
theorem dX10_findTokens_96 : decode cX10_findTokens 96 = .ok (.lstore 5, 2) := by decide +kernel
theorem dX10_findTokens_98 : decode cX10_findTokens 98 = .ok (.iinc 1 1, 3) := by decide +kernel
theorem dX10_findTokens_101 : decode cX10_findTokens 101 = .ok (.goto (-60), 3) := by decide +kernel
theorem dX10_findTokens_104 : decode cX10_findTokens 104 = .ok (.iload_n 1, 1) := by decide +kernel
theorem dX10_findTokens_105 : decode cX10_findTokens 105 = .ok (.iload_n 2, 1) := by decide +kernel
theorem dX10_findTokens_106 : decode cX10_findTokens 106 = .ok (.isub, 1) := by decide +kernel
theorem dX10_findTokens_107 : decode cX10_findTokens 107 = .ok (.bipush 8, 2) := by decide +kernel
theorem dX10_findTokens_109 : decode cX10_findTokens 109 = .ok (.if_icmp .le 8, 3) := by decide +kernel
theorem dX10_findTokens_112 : decode cX10_findTokens 112 = .ok (.bipush 99, 2) := by decide +kernel
theorem dX10_findTokens_114 : decode cX10_findTokens 114 = .ok (.goto 8, 3) := by decide +kernel
theorem dX10_findTokens_117 : decode cX10_findTokens 117 = .ok (.lload 5, 2) := by decide +kernel
theorem dX10_findTokens_119 : decode cX10_findTokens 119 = .ok (.invokestatic 159, 3) := by decide +kernel
theorem dX10_findTokens_122 : decode cX10_findTokens 122 = .ok (.istore_n 3, 1) := by decide +kernel
theorem dX10_findTokens_123 : decode cX10_findTokens 123 = .ok (.goto 149, 3) := by decide +kernel
theorem dX10_findTokens_126 : decode cX10_findTokens 126 = .ok (.aload_n 0, 1) := by decide +kernel
theorem dX10_findTokens_127 : decode cX10_findTokens 127 = .ok (.getfield 32, 3) := by decide +kernel
theorem dX10_findTokens_130 : decode cX10_findTokens 130 = .ok (.iload_n 1, 1) := by decide +kernel
theorem dX10_findTokens_131 : decode cX10_findTokens 131 = .ok (.iaload, 1) := by decide +kernel
theorem dX10_findTokens_132 : decode cX10_findTokens 132 = .ok (.bipush 48, 2) := by decide +kernel
theorem dX10_findTokens_134 : decode cX10_findTokens 134 = .ok (.bipush 57, 2) := by decide +kernel
theorem dX10_findTokens_136 : decode cX10_findTokens 136 = .ok (.invokestatic 87, 3) := by decide +kernel
theorem dX10_findTokens_139 : decode cX10_findTokens 139 = .ok (.ifCond .eq 80, 3) := by decide +kernel
theorem dX10_findTokens_142 : decode cX10_findTokens 142 = .ok (.iload_n 1, 1) := by decide +kernel
theorem dX10_findTokens_143 : decode cX10_findTokens 143 = .ok (.aload_n 0, 1) := by decide +kernel
theorem dX10_findTokens_144 : decode cX10_findTokens 144 = .ok (.getfield 127, 3) := by decide +kernel
theorem dX10_findTokens_147 : decode cX10_findTokens 147 = .ok (.if_icmp .ge 54, 3) := by decide +kernel
theorem dX10_findTokens_150 : decode cX10_findTokens 150 = .ok (.aload_n 0, 1) := by decide +kernel
theorem dX10_findTokens_151 : decode cX10_findTokens 151 = .ok (.getfield 32, 3) := by decide +kernel
theorem dX10_findTokens_154 : decode cX10_findTokens 154 = .ok (.iload_n 1, 1) := by decide +kernel
theorem dX10_findTokens_155 : decode cX10_findTokens 155 = .ok (.iaload, 1) := by decide +kernel
theorem dX10_findTokens_156 : decode cX10_findTokens 156 = .ok (.bipush 48, 2) := by decide +kernel
theorem dX10_findTokens_158 : decode cX10_findTokens 158 = .ok (.bipush 57, 2) := by decide +kernel
theorem dX10_findTokens_160 : decode cX10_findTokens 160 = .ok (.invokestatic 87, 3) := by decide +kernel
theorem dX10_findTokens_163 : decode cX10_findTokens 163 = .ok (.ifCond .eq 38, 3) := by decide +kernel
theorem dX10_findTokens_166 : decode cX10_findTokens 166 = .ok (.iload_n 1, 1) := by decide +kernel
theorem dX10_findTokens_167 : decode cX10_findTokens 167 = .ok (.iload_n 2, 1) := by decide +kernel
theorem dX10_findTokens_168 : decode cX10_findTokens 168 = .ok (.isub, 1) := by decide +kernel
theorem dX10_findTokens_169 : decode cX10_findTokens 169 = .ok (.iconst 2, 1) := by decide +kernel
theorem dX10_findTokens_170 : decode cX10_findTokens 170 = .ok (.if_icmp .ge 21, 3) := by decide +kernel
theorem dX10_findTokens_173 : decode cX10_findTokens 173 = .ok (.bipush 10, 2) := by decide +kernel
theorem dX10_findTokens_175 : decode cX10_findTokens 175 = .ok (.iload 4, 2) := by decide +kernel
theorem dX10_findTokens_177 : decode cX10_findTokens 177 = .ok (.imul, 1) := by decide +kernel
theorem dX10_findTokens_178 : decode cX10_findTokens 178 = .ok (.aload_n 0, 1) := by decide +kernel
theorem dX10_findTokens_179 : decode cX10_findTokens 179 = .ok (.getfield 32, 3) := by decide +kernel
theorem dX10_findTokens_182 : decode cX10_findTokens 182 = .ok (.iload_n 1, 1) := by decide +kernel
theorem dX10_findTokens_183 : decode cX10_findTokens 183 = .ok (.iaload, 1) := by decide +kernel
theorem dX10_findTokens_184 : decode cX10_findTokens 184 = .ok (.iadd, 1) := by decide +kernel
theorem dX10_findTokens_185 : decode cX10_findTokens 185 = .ok (.bipush 48, 2) := by decide +kernel
theorem dX10_findTokens_187 : decode cX10_findTokens 187 = .ok (.isub, 1) := by decide +kernel
theorem dX10_findTokens_188 : decode cX10_findTokens 188 = .ok (.goto 5, 3) := by decide +kernel
theorem dX10_findTokens_191 : decode cX10_findTokens 191 = .ok (.iload 4, 2) := by decide +kernel
theorem dX10_findTokens_193 : decode cX10_findTokens 193 = .ok (.istore 4, 2) := by decide +kernel
theorem dX10_findTokens_195 : decode cX10_findTokens 195 = .ok (.iinc 1 1, 3) := by decide +kernel
theorem dX10_findTokens_198 : decode cX10_findTokens 198 = .ok (.goto (-56), 3) := by decide +kernel
theorem dX10_findTokens_201 : decode cX10_findTokens 201 = .ok (.iload_n 1, 1) := by decide +kernel
theorem dX10_findTokens_202 : decode cX10_findTokens 202 = .ok (.iload_n 2, 1) := by decide +kernel
theorem dX10_findTokens_203 : decode cX10_findTokens 203 = .ok (.isub, 1) := by decide +kernel
theorem dX10_findTokens_204 : decode cX10_findTokens 204 = .ok (.iconst 2, 1) := by decide +kernel
theorem dX10_findTokens_205 : decode cX10_findTokens 205 = .ok (.if_icmp .le 8, 3) := by decide +kernel
theorem dX10_findTokens_208 : decode cX10_findTokens 208 = .ok (.bipush 99, 2) := by decide +kernel
theorem dX10_findTokens_210 : decode cX10_findTokens 210 = .ok (.goto 5, 3) := by decide +kernel
theorem dX10_findTokens_213 : decode cX10_findTokens 213 = .ok (.bipush 40, 2) := by decide +kernel
theorem dX10_findTokens_215 : decode cX10_findTokens 215 = .ok (.istore_n 3, 1) := by decide +kernel
theorem dX10_findTokens_216 : decode cX10_findTokens 216 = .ok (.goto 56, 3) := by decide +kernel
theorem dX10_findTokens_219 : decode cX10_findTokens 219 = .ok (.aload_n 0, 1) := by decide +kernel
theorem dX10_findTokens_220 : decode cX10_findTokens 220 = .ok (.getfield 32, 3) := by decide +kernel
theorem dX10_findTokens_223 : decode cX10_findTokens 223 = .ok (.iload_n 1, 1) := by decide +kernel
theorem dX10_findTokens_224 : decode cX10_findTokens 224 = .ok (.iaload, 1) := by decide +kernel
theorem dX10_findTokens_225 : decode cX10_findTokens 225 = .ok (.bipush 58, 2) := by decide +kernel
theorem dX10_findTokens_227 : decode cX10_findTokens 227 = .ok (.if_icmp .ne 8, 3) := by decide +kernel
theorem dX10_findTokens_230 : decode cX10_findTokens 230 = .ok (.bipush 30, 2) := by decide +kernel
theorem dX10_findTokens_232 : decode cX10_findTokens 232 = .ok (.goto 36, 3) := by decide +kernel
theorem dX10_findTokens_235 : decode cX10_findTokens 235 = .ok (.aload_n 0, 1) := by decide +kernel
theorem dX10_findTokens_236 : decode cX10_findTokens 236 = .ok (.getfield 32, 3) := by decide +kernel
theorem dX10_findTokens_239 : decode cX10_findTokens 239 = .ok (.iload_n 1, 1) := by decide +kernel
theorem dX10_findTokens_240 : decode cX10_findTokens 240 = .ok (.iaload, 1) := by decide +kernel
theorem dX10_findTokens_241 : decode cX10_findTokens 241 = .ok (.bipush 44, 2) := by decide +kernel
theorem dX10_findTokens_243 : decode cX10_findTokens 243 = .ok (.if_icmp .ne 8, 3) := by decide +kernel
theorem dX10_findTokens_246 : decode cX10_findTokens 246 = .ok (.bipush 31, 2) := by decide +kernel
theorem dX10_findTokens_248 : decode cX10_findTokens 248 = .ok (.goto 20, 3) := by decide +kernel
theorem dX10_findTokens_251 : decode cX10_findTokens 251 = .ok (.aload_n 0, 1) := by decide +kernel
theorem dX10_findTokens_252 : decode cX10_findTokens 252 = .ok (.getfield 32, 3) := by decide +kernel
theorem dX10_findTokens_255 : decode cX10_findTokens 255 = .ok (.iload_n 1, 1) := by decide +kernel
theorem dX10_findTokens_256 : decode cX10_findTokens 256 = .ok (.iaload, 1) := by decide +kernel
theorem dX10_findTokens_257 : decode cX10_findTokens 257 = .ok (.bipush 32, 2) := by decide +kernel
theorem dX10_findTokens_259 : decode cX10_findTokens 259 = .ok (.if_icmp .ne 7, 3) := by decide +kernel
theorem dX10_findTokens_262 : decode cX10_findTokens 262 = .ok (.iconst (-1), 1) := by decide +kernel
theorem dX10_findTokens_263 : decode cX10_findTokens 263 = .ok (.goto 5, 3) := by decide +kernel
theorem dX10_findTokens_266 : decode cX10_findTokens 266 = .ok (.bipush 99, 2) := by decide +kernel
theorem dX10_findTokens_268 : decode cX10_findTokens 268 = .ok (.istore_n 3, 1) := by decide +kernel
theorem dX10_findTokens_269 : decode cX10_findTokens 269 = .ok (.iinc 1 1, 3) := by decide +kernel
theorem dX10_findTokens_272 : decode cX10_findTokens 272 = .ok (.iload_n 3, 1) := by decide +kernel
theorem dX10_findTokens_273 : decode cX10_findTokens 273 = .ok (.iconst (-1), 1) := by decide +kernel
theorem dX10_findTokens_274 : decode cX10_findTokens 274 = .ok (.if_icmp .eq 44, 3) := by decide +kernel
theorem dX10_findTokens_277 : decode cX10_findTokens 277 = .ok (.aload_n 0, 1) := by decide +kernel
theorem dX10_findTokens_278 : decode cX10_findTokens 278 = .ok (.getfield 35, 3) := by decide +kernel
theorem dX10_findTokens_281 : decode cX10_findTokens 281 = .ok (.aload_n 0, 1) := by decide +kernel
theorem dX10_findTokens_282 : decode cX10_findTokens 282 = .ok (.getfield 152, 3) := by decide +kernel
theorem dX10_findTokens_285 : decode cX10_findTokens 285 = .ok (.iload_n 3, 1) := by decide +kernel
theorem dX10_findTokens_286 : decode cX10_findTokens 286 = .ok (.iastore, 1) := by decide +kernel
theorem dX10_findTokens_287 : decode cX10_findTokens 287 = .ok (.aload_n 0, 1) := by decide +kernel
theorem dX10_findTokens_288 : decode cX10_findTokens 288 = .ok (.getfield 38, 3) := by decide +kernel
theorem dX10_findTokens_291 : decode cX10_findTokens 291 = .ok (.aload_n 0, 1) := by decide +kernel
theorem dX10_findTokens_292 : decode cX10_findTokens 292 = .ok (.getfield 152, 3) := by decide +kernel
theorem dX10_findTokens_295 : decode cX10_findTokens 295 = .ok (.iload 4, 2) := by decide +kernel
theorem dX10_findTokens_297 : decode cX10_findTokens 297 = .ok (.iastore, 1) := by decide +kernel
theorem dX10_findTokens_298 : decode cX10_findTokens 298 = .ok (.aload_n 0, 1) := by decide +kernel
theorem dX10_findTokens_299 : decode cX10_findTokens 299 = .ok (.getfield 41, 3) := by decide +kernel
theorem dX10_findTokens_302 : decode cX10_findTokens 302 = .ok (.aload_n 0, 1) := by decide +kernel
theorem dX10_findTokens_303 : decode cX10_findTokens 303 = .ok (.getfield 152, 3) := by decide +kernel
theorem dX10_findTokens_306 : decode cX10_findTokens 306 = .ok (.iload_n 2, 1) := by decide +kernel
theorem dX10_findTokens_307 : decode cX10_findTokens 307 = .ok (.iastore, 1) := by decide +kernel
theorem dX10_findTokens_308 : decode cX10_findTokens 308 = .ok (.aload_n 0, 1) := by decide +kernel
theorem dX10_findTokens_309 : decode cX10_findTokens 309 = .ok (.dup, 1) := by decide +kernel
theorem dX10_findTokens_310 : decode cX10_findTokens 310 = .ok (.getfield 152, 3) := by decide +kernel
theorem dX10_findTokens_313 : decode cX10_findTokens 313 = .ok (.iconst 1, 1) := by decide +kernel
theorem dX10_findTokens_314 : decode cX10_findTokens 314 = .ok (.iadd, 1) := by decide +kernel
theorem dX10_findTokens_315 : decode cX10_findTokens 315 = .ok (.putfield 152, 3) := by decide +kernel
theorem dX10_findTokens_318 : decode cX10_findTokens 318 = .ok (.goto (-311), 3) := by decide +kernel
theorem dX10_findTokens_321 : decode cX10_findTokens 321 = .ok (.aload_n 0, 1) := by decide +kernel
theorem dX10_findTokens_322 : decode cX10_findTokens 322 = .ok (.getfield 35, 3) := by decide +kernel
theorem dX10_findTokens_325 : decode cX10_findTokens 325 = .ok (.aload_n 0, 1) := by decide +kernel
theorem dX10_findTokens_326 : decode cX10_findTokens 326 = .ok (.getfield 152, 3) := by decide +kernel
theorem dX10_findTokens_329 : decode cX10_findTokens 329 = .ok (.bipush 50, 2) := by decide +kernel
theorem dX10_findTokens_331 : decode cX10_findTokens 331 = .ok (.iastore, 1) := by decide +kernel
theorem dX10_findTokens_332 : decode cX10_findTokens 332 = .ok (.aload_n 0, 1) := by decide +kernel
theorem dX10_findTokens_333 : decode cX10_findTokens 333 = .ok (.getfield 41, 3) := by decide +kernel
theorem dX10_findTokens_336 : decode cX10_findTokens 336 = .ok (.aload_n 0, 1) := by decide +kernel
theorem dX10_findTokens_337 : decode cX10_findTokens 337 = .ok (.getfield 152, 3) := by decide +kernel
theorem dX10_findTokens_340 : decode cX10_findTokens 340 = .ok (.aload_n 0, 1) := by decide +kernel
theorem dX10_findTokens_341 : decode cX10_findTokens 341 = .ok (.getfield 127, 3) := by decide +kernel
theorem dX10_findTokens_344 : decode cX10_findTokens 344 = .ok (.iastore, 1) := by decide +kernel
theorem dX10_findTokens_345 : decode cX10_findTokens 345 = .ok (.return_, 1) := by decide +kernel
theorem dX10_wantedAt_0 : decode cX10_wantedAt 0 = .ok (.iload_n 0, 1) := by decide +kernel
theorem dX10_wantedAt_1 : decode cX10_wantedAt 1 = .ok (.tableswitch 126 0 20 #[99, 126, 101, 126, 103, 126, 105, 126, 107, 110, 126, 112, 126, 114, 126, 126, 117, 126, 120, 126, 123], 99) := by decide +kernel
theorem dX10_wantedAt_100 : decode cX10_wantedAt 100 = .ok (.iconst 0, 1) := by decide +kernel
theorem dX10_wantedAt_101 : decode cX10_wantedAt 101 = .ok (.ireturn, 1) := by decide +kernel
theorem dX10_wantedAt_102 : decode cX10_wantedAt 102 = .ok (.iconst 1, 1) := by decide +kernel
theorem dX10_wantedAt_103 : decode cX10_wantedAt 103 = .ok (.ireturn, 1) := by decide +kernel
theorem dX10_wantedAt_104 : decode cX10_wantedAt 104 = .ok (.iconst 2, 1) := by decide +kernel
theorem dX10_wantedAt_105 : decode cX10_wantedAt 105 = .ok (.ireturn, 1) := by decide +kernel
theorem dX10_wantedAt_106 : decode cX10_wantedAt 106 = .ok (.iconst 3, 1) := by decide +kernel
theorem dX10_wantedAt_107 : decode cX10_wantedAt 107 = .ok (.ireturn, 1) := by decide +kernel
theorem dX10_wantedAt_108 : decode cX10_wantedAt 108 = .ok (.bipush 30, 2) := by decide +kernel
theorem dX10_wantedAt_110 : decode cX10_wantedAt 110 = .ok (.ireturn, 1) := by decide +kernel
theorem dX10_wantedAt_111 : decode cX10_wantedAt 111 = .ok (.iconst 4, 1) := by decide +kernel
theorem dX10_wantedAt_112 : decode cX10_wantedAt 112 = .ok (.ireturn, 1) := by decide +kernel
theorem dX10_wantedAt_113 : decode cX10_wantedAt 113 = .ok (.iconst 5, 1) := by decide +kernel
theorem dX10_wantedAt_114 : decode cX10_wantedAt 114 = .ok (.ireturn, 1) := by decide +kernel
theorem dX10_wantedAt_115 : decode cX10_wantedAt 115 = .ok (.bipush 6, 2) := by decide +kernel
theorem dX10_wantedAt_117 : decode cX10_wantedAt 117 = .ok (.ireturn, 1) := by decide +kernel
theorem dX10_wantedAt_118 : decode cX10_wantedAt 118 = .ok (.bipush 7, 2) := by decide +kernel
theorem dX10_wantedAt_120 : decode cX10_wantedAt 120 = .ok (.ireturn, 1) := by decide +kernel
theorem dX10_wantedAt_121 : decode cX10_wantedAt 121 = .ok (.bipush 8, 2) := by decide +kernel
theorem dX10_wantedAt_123 : decode cX10_wantedAt 123 = .ok (.ireturn, 1) := by decide +kernel
theorem dX10_wantedAt_124 : decode cX10_wantedAt 124 = .ok (.bipush 31, 2) := by decide +kernel
theorem dX10_wantedAt_126 : decode cX10_wantedAt 126 = .ok (.ireturn, 1) := by decide +kernel
theorem dX10_wantedAt_127 : decode cX10_wantedAt 127 = .ok (.bipush 40, 2) := by decide +kernel
theorem dX10_wantedAt_129 : decode cX10_wantedAt 129 = .ok (.ireturn, 1) := by decide +kernel
theorem dX10_isNumber_0 : decode cX10_isNumber 0 = .ok (.iload_n 1, 1) := by decide +kernel
theorem dX10_isNumber_1 : decode cX10_isNumber 1 = .ok (.tableswitch 141 1 17 #[83, 141, 90, 141, 97, 141, 103, 141, 141, 111, 141, 118, 141, 125, 141, 141, 133], 83) := by decide +kernel
theorem dX10_isNumber_84 : decode cX10_isNumber 84 = .ok (.iload_n 3, 1) := by decide +kernel
theorem dX10_isNumber_85 : decode cX10_isNumber 85 = .ok (.iconst 0, 1) := by decide +kernel
theorem dX10_isNumber_86 : decode cX10_isNumber 86 = .ok (.iconst 3, 1) := by decide +kernel
theorem dX10_isNumber_87 : decode cX10_isNumber 87 = .ok (.invokestatic 87, 3) := by decide +kernel
theorem dX10_isNumber_90 : decode cX10_isNumber 90 = .ok (.ireturn, 1) := by decide +kernel
theorem dX10_isNumber_91 : decode cX10_isNumber 91 = .ok (.iload_n 3, 1) := by decide +kernel
theorem dX10_isNumber_92 : decode cX10_isNumber 92 = .ok (.iconst 0, 1) := by decide +kernel
theorem dX10_isNumber_93 : decode cX10_isNumber 93 = .ok (.iconst 2, 1) := by decide +kernel
theorem dX10_isNumber_94 : decode cX10_isNumber 94 = .ok (.invokestatic 87, 3) := by decide +kernel
theorem dX10_isNumber_97 : decode cX10_isNumber 97 = .ok (.ireturn, 1) := by decide +kernel
theorem dX10_isNumber_98 : decode cX10_isNumber 98 = .ok (.aload_n 0, 1) := by decide +kernel
theorem dX10_isNumber_99 : decode cX10_isNumber 99 = .ok (.iload_n 3, 1) := by decide +kernel
theorem dX10_isNumber_100 : decode cX10_isNumber 100 = .ok (.invokevirtual 107, 3) := by decide +kernel
theorem dX10_isNumber_103 : decode cX10_isNumber 103 = .ok (.ireturn, 1) := by decide +kernel
theorem dX10_isNumber_104 : decode cX10_isNumber 104 = .ok (.iload_n 3, 1) := by decide +kernel
theorem dX10_isNumber_105 : decode cX10_isNumber 105 = .ok (.iconst 1, 1) := by decide +kernel
theorem dX10_isNumber_106 : decode cX10_isNumber 106 = .ok (.bipush 99, 2) := by decide +kernel
theorem dX10_isNumber_108 : decode cX10_isNumber 108 = .ok (.invokestatic 87, 3) := by decide +kernel
theorem dX10_isNumber_111 : decode cX10_isNumber 111 = .ok (.ireturn, 1) := by decide +kernel
theorem dX10_isNumber_112 : decode cX10_isNumber 112 = .ok (.iload_n 3, 1) := by decide +kernel
theorem dX10_isNumber_113 : decode cX10_isNumber 113 = .ok (.iconst 1, 1) := by decide +kernel
theorem dX10_isNumber_114 : decode cX10_isNumber 114 = .ok (.iconst 4, 1) := by decide +kernel
theorem dX10_isNumber_115 : decode cX10_isNumber 115 = .ok (.invokestatic 87, 3) := by decide +kernel
theorem dX10_isNumber_118 : decode cX10_isNumber 118 = .ok (.ireturn, 1) := by decide +kernel
theorem dX10_isNumber_119 : decode cX10_isNumber 119 = .ok (.iload_n 3, 1) := by decide +kernel
theorem dX10_isNumber_120 : decode cX10_isNumber 120 = .ok (.iconst 0, 1) := by decide +kernel
theorem dX10_isNumber_121 : decode cX10_isNumber 121 = .ok (.iconst 3, 1) := by decide +kernel
theorem dX10_isNumber_122 : decode cX10_isNumber 122 = .ok (.invokestatic 87, 3) := by decide +kernel
theorem dX10_isNumber_125 : decode cX10_isNumber 125 = .ok (.ireturn, 1) := by decide +kernel
theorem dX10_isNumber_126 : decode cX10_isNumber 126 = .ok (.iload_n 3, 1) := by decide +kernel
theorem dX10_isNumber_127 : decode cX10_isNumber 127 = .ok (.iconst 0, 1) := by decide +kernel
theorem dX10_isNumber_128 : decode cX10_isNumber 128 = .ok (.bipush 8, 2) := by decide +kernel
theorem dX10_isNumber_130 : decode cX10_isNumber 130 = .ok (.invokestatic 87, 3) := by decide +kernel
theorem dX10_isNumber_133 : decode cX10_isNumber 133 = .ok (.ireturn, 1) := by decide +kernel
theorem dX10_isNumber_134 : decode cX10_isNumber 134 = .ok (.iload_n 3, 1) := by decide +kernel
theorem dX10_isNumber_135 : decode cX10_isNumber 135 = .ok (.iconst 0, 1) := by decide +kernel
theorem dX10_isNumber_136 : decode cX10_isNumber 136 = .ok (.bipush 6, 2) := by decide +kernel
theorem dX10_isNumber_138 : decode cX10_isNumber 138 = .ok (.invokestatic 87, 3) := by decide +kernel
theorem dX10_isNumber_141 : decode cX10_isNumber 141 = .ok (.ireturn, 1) := by decide +kernel
theorem dX10_isNumber_142 : decode cX10_isNumber 142 = .ok (.iload_n 3, 1) := by decide +kernel
theorem dX10_isNumber_143 : decode cX10_isNumber 143 = .ok (.aload_n 0, 1) := by decide +kernel
theorem dX10_isNumber_144 : decode cX10_isNumber 144 = .ok (.getfield 44, 3) := by decide +kernel
theorem dX10_isNumber_147 : decode cX10_isNumber 147 = .ok (.iconst 5, 1) := by decide +kernel
theorem dX10_isNumber_148 : decode cX10_isNumber 148 = .ok (.bipush 6, 2) := by decide +kernel
theorem dX10_isNumber_150 : decode cX10_isNumber 150 = .ok (.iload_n 2, 1) := by decide +kernel
theorem dX10_isNumber_151 : decode cX10_isNumber 151 = .ok (.imul, 1) := by decide +kernel
theorem dX10_isNumber_152 : decode cX10_isNumber 152 = .ok (.iadd, 1) := by decide +kernel
theorem dX10_isNumber_153 : decode cX10_isNumber 153 = .ok (.iconst 4, 1) := by decide +kernel
theorem dX10_isNumber_154 : decode cX10_isNumber 154 = .ok (.iadd, 1) := by decide +kernel
theorem dX10_isNumber_155 : decode cX10_isNumber 155 = .ok (.iaload, 1) := by decide +kernel
theorem dX10_isNumber_156 : decode cX10_isNumber 156 = .ok (.aload_n 0, 1) := by decide +kernel
theorem dX10_isNumber_157 : decode cX10_isNumber 157 = .ok (.getfield 44, 3) := by decide +kernel
theorem dX10_isNumber_160 : decode cX10_isNumber 160 = .ok (.iconst 5, 1) := by decide +kernel
theorem dX10_isNumber_161 : decode cX10_isNumber 161 = .ok (.bipush 6, 2) := by decide +kernel
theorem dX10_isNumber_163 : decode cX10_isNumber 163 = .ok (.iload_n 2, 1) := by decide +kernel
theorem dX10_isNumber_164 : decode cX10_isNumber 164 = .ok (.imul, 1) := by decide +kernel
theorem dX10_isNumber_165 : decode cX10_isNumber 165 = .ok (.iadd, 1) := by decide +kernel
theorem dX10_isNumber_166 : decode cX10_isNumber 166 = .ok (.iconst 4, 1) := by decide +kernel
theorem dX10_isNumber_167 : decode cX10_isNumber 167 = .ok (.iadd, 1) := by decide +kernel
theorem dX10_isNumber_168 : decode cX10_isNumber 168 = .ok (.iaload, 1) := by decide +kernel
theorem dX10_isNumber_169 : decode cX10_isNumber 169 = .ok (.iconst 3, 1) := by decide +kernel
theorem dX10_isNumber_170 : decode cX10_isNumber 170 = .ok (.iadd, 1) := by decide +kernel
theorem dX10_isNumber_171 : decode cX10_isNumber 171 = .ok (.invokestatic 87, 3) := by decide +kernel
theorem dX10_isNumber_174 : decode cX10_isNumber 174 = .ok (.ireturn, 1) := by decide +kernel
theorem dX10_keep_0 : decode cX10_keep 0 = .ok (.iload_n 1, 1) := by decide +kernel
theorem dX10_keep_1 : decode cX10_keep 1 = .ok (.bipush 8, 2) := by decide +kernel
theorem dX10_keep_3 : decode cX10_keep 3 = .ok (.if_icmp .ge 17, 3) := by decide +kernel
theorem dX10_keep_6 : decode cX10_keep 6 = .ok (.aload_n 0, 1) := by decide +kernel
theorem dX10_keep_7 : decode cX10_keep 7 = .ok (.getfield 44, 3) := by decide +kernel
theorem dX10_keep_10 : decode cX10_keep 10 = .ok (.iload_n 1, 1) := by decide +kernel
theorem dX10_keep_11 : decode cX10_keep 11 = .ok (.iconst 1, 1) := by decide +kernel
theorem dX10_keep_12 : decode cX10_keep 12 = .ok (.isub, 1) := by decide +kernel
theorem dX10_keep_13 : decode cX10_keep 13 = .ok (.iconst 2, 1) := by decide +kernel
theorem dX10_keep_14 : decode cX10_keep 14 = .ok (.idiv, 1) := by decide +kernel
theorem dX10_keep_15 : decode cX10_keep 15 = .ok (.iload_n 3, 1) := by decide +kernel
theorem dX10_keep_16 : decode cX10_keep 16 = .ok (.iastore, 1) := by decide +kernel
theorem dX10_keep_17 : decode cX10_keep 17 = .ok (.goto 55, 3) := by decide +kernel
theorem dX10_keep_20 : decode cX10_keep 20 = .ok (.iload_n 1, 1) := by decide +kernel
theorem dX10_keep_21 : decode cX10_keep 21 = .ok (.bipush 15, 2) := by decide +kernel
theorem dX10_keep_23 : decode cX10_keep 23 = .ok (.if_icmp .ge 25, 3) := by decide +kernel
theorem dX10_keep_26 : decode cX10_keep 26 = .ok (.aload_n 0, 1) := by decide +kernel
theorem dX10_keep_27 : decode cX10_keep 27 = .ok (.getfield 44, 3) := by decide +kernel
theorem dX10_keep_30 : decode cX10_keep 30 = .ok (.iconst 5, 1) := by decide +kernel
theorem dX10_keep_31 : decode cX10_keep 31 = .ok (.bipush 6, 2) := by decide +kernel
theorem dX10_keep_33 : decode cX10_keep 33 = .ok (.iload_n 2, 1) := by decide +kernel
theorem dX10_keep_34 : decode cX10_keep 34 = .ok (.imul, 1) := by decide +kernel
theorem dX10_keep_35 : decode cX10_keep 35 = .ok (.iadd, 1) := by decide +kernel
theorem dX10_keep_36 : decode cX10_keep 36 = .ok (.iload_n 1, 1) := by decide +kernel
theorem dX10_keep_37 : decode cX10_keep 37 = .ok (.bipush 10, 2) := by decide +kernel
theorem dX10_keep_39 : decode cX10_keep 39 = .ok (.isub, 1) := by decide +kernel
theorem dX10_keep_40 : decode cX10_keep 40 = .ok (.iconst 2, 1) := by decide +kernel
theorem dX10_keep_41 : decode cX10_keep 41 = .ok (.idiv, 1) := by decide +kernel
theorem dX10_keep_42 : decode cX10_keep 42 = .ok (.iadd, 1) := by decide +kernel
theorem dX10_keep_43 : decode cX10_keep 43 = .ok (.iload_n 3, 1) := by decide +kernel
theorem dX10_keep_44 : decode cX10_keep 44 = .ok (.iastore, 1) := by decide +kernel
theorem dX10_keep_45 : decode cX10_keep 45 = .ok (.goto 27, 3) := by decide +kernel
theorem dX10_keep_48 : decode cX10_keep 48 = .ok (.aload_n 0, 1) := by decide +kernel
theorem dX10_keep_49 : decode cX10_keep 49 = .ok (.getfield 44, 3) := by decide +kernel
theorem dX10_keep_52 : decode cX10_keep 52 = .ok (.iconst 5, 1) := by decide +kernel
theorem dX10_keep_53 : decode cX10_keep 53 = .ok (.bipush 6, 2) := by decide +kernel
theorem dX10_keep_55 : decode cX10_keep 55 = .ok (.iload_n 2, 1) := by decide +kernel
theorem dX10_keep_56 : decode cX10_keep 56 = .ok (.imul, 1) := by decide +kernel
theorem dX10_keep_57 : decode cX10_keep 57 = .ok (.iadd, 1) := by decide +kernel
theorem dX10_keep_58 : decode cX10_keep 58 = .ok (.iload_n 1, 1) := by decide +kernel
theorem dX10_keep_59 : decode cX10_keep 59 = .ok (.bipush 17, 2) := by decide +kernel
theorem dX10_keep_61 : decode cX10_keep 61 = .ok (.if_icmp .ne 7, 3) := by decide +kernel
theorem dX10_keep_64 : decode cX10_keep 64 = .ok (.iconst 4, 1) := by decide +kernel
theorem dX10_keep_65 : decode cX10_keep 65 = .ok (.goto 4, 3) := by decide +kernel
theorem dX10_keep_68 : decode cX10_keep 68 = .ok (.iconst 5, 1) := by decide +kernel
theorem dX10_keep_69 : decode cX10_keep 69 = .ok (.iadd, 1) := by decide +kernel
theorem dX10_keep_70 : decode cX10_keep 70 = .ok (.iload_n 3, 1) := by decide +kernel
theorem dX10_keep_71 : decode cX10_keep 71 = .ok (.iastore, 1) := by decide +kernel
theorem dX10_keep_72 : decode cX10_keep 72 = .ok (.return_, 1) := by decide +kernel
theorem dX10_isRead_0 : decode cX10_isRead 0 = .ok (.aload_n 0, 1) := by decide +kernel
theorem dX10_isRead_1 : decode cX10_isRead 1 = .ok (.invokevirtual 163, 3) := by decide +kernel
theorem dX10_isRead_4 : decode cX10_isRead 4 = .ok (.iconst 0, 1) := by decide +kernel
theorem dX10_isRead_5 : decode cX10_isRead 5 = .ok (.istore_n 1, 1) := by decide +kernel
theorem dX10_isRead_6 : decode cX10_isRead 6 = .ok (.iload_n 1, 1) := by decide +kernel
theorem dX10_isRead_7 : decode cX10_isRead 7 = .ok (.bipush 23, 2) := by decide +kernel
theorem dX10_isRead_9 : decode cX10_isRead 9 = .ok (.if_icmp .ge 16, 3) := by decide +kernel
theorem dX10_isRead_12 : decode cX10_isRead 12 = .ok (.aload_n 0, 1) := by decide +kernel
theorem dX10_isRead_13 : decode cX10_isRead 13 = .ok (.getfield 44, 3) := by decide +kernel
theorem dX10_isRead_16 : decode cX10_isRead 16 = .ok (.iload_n 1, 1) := by decide +kernel
theorem dX10_isRead_17 : decode cX10_isRead 17 = .ok (.iconst (-1), 1) := by decide +kernel
theorem dX10_isRead_18 : decode cX10_isRead 18 = .ok (.iastore, 1) := by decide +kernel
theorem dX10_isRead_19 : decode cX10_isRead 19 = .ok (.iinc 1 1, 3) := by decide +kernel
theorem dX10_isRead_22 : decode cX10_isRead 22 = .ok (.goto (-16), 3) := by decide +kernel
theorem dX10_isRead_25 : decode cX10_isRead 25 = .ok (.iconst 0, 1) := by decide +kernel
theorem dX10_isRead_26 : decode cX10_isRead 26 = .ok (.istore_n 1, 1) := by decide +kernel
theorem dX10_isRead_27 : decode cX10_isRead 27 = .ok (.iconst 0, 1) := by decide +kernel
theorem dX10_isRead_28 : decode cX10_isRead 28 = .ok (.istore_n 2, 1) := by decide +kernel
theorem dX10_isRead_29 : decode cX10_isRead 29 = .ok (.iconst 0, 1) := by decide +kernel
theorem dX10_isRead_30 : decode cX10_isRead 30 = .ok (.istore_n 3, 1) := by decide +kernel
theorem dX10_isRead_31 : decode cX10_isRead 31 = .ok (.iload_n 1, 1) := by decide +kernel
theorem dX10_isRead_32 : decode cX10_isRead 32 = .ok (.bipush 50, 2) := by decide +kernel
theorem dX10_isRead_34 : decode cX10_isRead 34 = .ok (.if_icmp .eq 290, 3) := by decide +kernel
theorem dX10_isRead_37 : decode cX10_isRead 37 = .ok (.iload_n 1, 1) := by decide +kernel
theorem dX10_isRead_38 : decode cX10_isRead 38 = .ok (.bipush 15, 2) := by decide +kernel
theorem dX10_isRead_40 : decode cX10_isRead 40 = .ok (.if_icmp .ne 146, 3) := by decide +kernel
theorem dX10_isRead_43 : decode cX10_isRead 43 = .ok (.aload_n 0, 1) := by decide +kernel
theorem dX10_isRead_44 : decode cX10_isRead 44 = .ok (.getfield 44, 3) := by decide +kernel
theorem dX10_isRead_47 : decode cX10_isRead 47 = .ok (.iconst 5, 1) := by decide +kernel
theorem dX10_isRead_48 : decode cX10_isRead 48 = .ok (.bipush 6, 2) := by decide +kernel
theorem dX10_isRead_50 : decode cX10_isRead 50 = .ok (.iload_n 2, 1) := by decide +kernel
theorem dX10_isRead_51 : decode cX10_isRead 51 = .ok (.imul, 1) := by decide +kernel
theorem dX10_isRead_52 : decode cX10_isRead 52 = .ok (.iadd, 1) := by decide +kernel
theorem dX10_isRead_53 : decode cX10_isRead 53 = .ok (.iconst 3, 1) := by decide +kernel
theorem dX10_isRead_54 : decode cX10_isRead 54 = .ok (.iadd, 1) := by decide +kernel
theorem dX10_isRead_55 : decode cX10_isRead 55 = .ok (.iaload, 1) := by decide +kernel
theorem dX10_isRead_56 : decode cX10_isRead 56 = .ok (.iconst 1, 1) := by decide +kernel
theorem dX10_isRead_57 : decode cX10_isRead 57 = .ok (.if_icmp .ne 7, 3) := by decide +kernel
theorem dX10_isRead_60 : decode cX10_isRead 60 = .ok (.iconst 1, 1) := by decide +kernel
theorem dX10_isRead_61 : decode cX10_isRead 61 = .ok (.goto 4, 3) := by decide +kernel
theorem dX10_isRead_64 : decode cX10_isRead 64 = .ok (.iconst 0, 1) := by decide +kernel
theorem dX10_isRead_65 : decode cX10_isRead 65 = .ok (.istore 4, 2) := by decide +kernel
theorem dX10_isRead_67 : decode cX10_isRead 67 = .ok (.aload_n 0, 1) := by decide +kernel
theorem dX10_isRead_68 : decode cX10_isRead 68 = .ok (.bipush 8, 2) := by decide +kernel
theorem dX10_isRead_70 : decode cX10_isRead 70 = .ok (.iload 4, 2) := by decide +kernel
theorem dX10_isRead_72 : decode cX10_isRead 72 = .ok (.ifCond .eq 7, 3) := by decide +kernel
theorem dX10_isRead_75 : decode cX10_isRead 75 = .ok (.iconst 0, 1) := by decide +kernel
theorem dX10_isRead_76 : decode cX10_isRead 76 = .ok (.goto 5, 3) := by decide +kernel
theorem dX10_isRead_79 : decode cX10_isRead 79 = .ok (.bipush 16, 2) := by decide +kernel
theorem dX10_isRead_81 : decode cX10_isRead 81 = .ok (.iadd, 1) := by decide +kernel
theorem dX10_isRead_82 : decode cX10_isRead 82 = .ok (.iload_n 2, 1) := by decide +kernel
theorem dX10_isRead_83 : decode cX10_isRead 83 = .ok (.iconst 2, 1) := by decide +kernel
theorem dX10_isRead_84 : decode cX10_isRead 84 = .ok (.if_icmp .ge 7, 3) := by decide +kernel
theorem dX10_isRead_87 : decode cX10_isRead 87 = .ok (.iconst 4, 1) := by decide +kernel
theorem dX10_isRead_88 : decode cX10_isRead 88 = .ok (.goto 4, 3) := by decide +kernel
theorem dX10_isRead_91 : decode cX10_isRead 91 = .ok (.iconst 0, 1) := by decide +kernel
theorem dX10_isRead_92 : decode cX10_isRead 92 = .ok (.iadd, 1) := by decide +kernel
theorem dX10_isRead_93 : decode cX10_isRead 93 = .ok (.putfield 166, 3) := by decide +kernel
theorem dX10_isRead_96 : decode cX10_isRead 96 = .ok (.aload_n 0, 1) := by decide +kernel
theorem dX10_isRead_97 : decode cX10_isRead 97 = .ok (.getfield 35, 3) := by decide +kernel
theorem dX10_isRead_100 : decode cX10_isRead 100 = .ok (.iload_n 3, 1) := by decide +kernel
theorem dX10_isRead_101 : decode cX10_isRead 101 = .ok (.iaload, 1) := by decide +kernel
theorem dX10_isRead_102 : decode cX10_isRead 102 = .ok (.bipush 20, 2) := by decide +kernel
theorem dX10_isRead_104 : decode cX10_isRead 104 = .ok (.if_icmp .ne 25, 3) := by decide +kernel
theorem dX10_isRead_107 : decode cX10_isRead 107 = .ok (.iload 4, 2) := by decide +kernel
theorem dX10_isRead_109 : decode cX10_isRead 109 = .ok (.ifCond .ne 20, 3) := by decide +kernel
theorem dX10_isRead_112 : decode cX10_isRead 112 = .ok (.aload_n 0, 1) := by decide +kernel
theorem dX10_isRead_113 : decode cX10_isRead 113 = .ok (.getfield 44, 3) := by decide +kernel
theorem dX10_isRead_116 : decode cX10_isRead 116 = .ok (.iconst 5, 1) := by decide +kernel
theorem dX10_isRead_117 : decode cX10_isRead 117 = .ok (.bipush 6, 2) := by decide +kernel
theorem dX10_isRead_119 : decode cX10_isRead 119 = .ok (.iload_n 2, 1) := by decide +kernel
theorem dX10_isRead_120 : decode cX10_isRead 120 = .ok (.imul, 1) := by decide +kernel
theorem dX10_isRead_121 : decode cX10_isRead 121 = .ok (.iadd, 1) := by decide +kernel
theorem dX10_isRead_122 : decode cX10_isRead 122 = .ok (.iconst 3, 1) := by decide +kernel
theorem dX10_isRead_123 : decode cX10_isRead 123 = .ok (.iadd, 1) := by decide +kernel
theorem dX10_isRead_124 : decode cX10_isRead 124 = .ok (.iconst 1, 1) := by decide +kernel
theorem dX10_isRead_125 : decode cX10_isRead 125 = .ok (.iastore, 1) := by decide +kernel
theorem dX10_isRead_126 : decode cX10_isRead 126 = .ok (.goto 57, 3) := by decide +kernel
theorem dX10_isRead_129 : decode cX10_isRead 129 = .ok (.aload_n 0, 1) := by decide +kernel
theorem dX10_isRead_130 : decode cX10_isRead 130 = .ok (.getfield 35, 3) := by decide +kernel
theorem dX10_isRead_133 : decode cX10_isRead 133 = .ok (.iload_n 3, 1) := by decide +kernel
theorem dX10_isRead_134 : decode cX10_isRead 134 = .ok (.iaload, 1) := by decide +kernel
theorem dX10_isRead_135 : decode cX10_isRead 135 = .ok (.bipush 31, 2) := by decide +kernel
theorem dX10_isRead_137 : decode cX10_isRead 137 = .ok (.if_icmp .ne 17, 3) := by decide +kernel
theorem dX10_isRead_140 : decode cX10_isRead 140 = .ok (.iload_n 2, 1) := by decide +kernel
theorem dX10_isRead_141 : decode cX10_isRead 141 = .ok (.iconst 2, 1) := by decide +kernel
theorem dX10_isRead_142 : decode cX10_isRead 142 = .ok (.if_icmp .ge 12, 3) := by decide +kernel
theorem dX10_isRead_145 : decode cX10_isRead 145 = .ok (.iinc 2 1, 3) := by decide +kernel
theorem dX10_isRead_148 : decode cX10_isRead 148 = .ok (.bipush 16, 2) := by decide +kernel
theorem dX10_isRead_150 : decode cX10_isRead 150 = .ok (.istore_n 1, 1) := by decide +kernel
theorem dX10_isRead_151 : decode cX10_isRead 151 = .ok (.goto 32, 3) := by decide +kernel
theorem dX10_isRead_154 : decode cX10_isRead 154 = .ok (.aload_n 0, 1) := by decide +kernel
theorem dX10_isRead_155 : decode cX10_isRead 155 = .ok (.getfield 35, 3) := by decide +kernel
theorem dX10_isRead_158 : decode cX10_isRead 158 = .ok (.iload_n 3, 1) := by decide +kernel
theorem dX10_isRead_159 : decode cX10_isRead 159 = .ok (.iaload, 1) := by decide +kernel
theorem dX10_isRead_160 : decode cX10_isRead 160 = .ok (.bipush 50, 2) := by decide +kernel
theorem dX10_isRead_162 : decode cX10_isRead 162 = .ok (.if_icmp .ne 9, 3) := by decide +kernel
theorem dX10_isRead_165 : decode cX10_isRead 165 = .ok (.bipush 50, 2) := by decide +kernel
theorem dX10_isRead_167 : decode cX10_isRead 167 = .ok (.istore_n 1, 1) := by decide +kernel
theorem dX10_isRead_168 : decode cX10_isRead 168 = .ok (.goto 15, 3) := by decide +kernel
theorem dX10_isRead_171 : decode cX10_isRead 171 = .ok (.aload_n 0, 1) := by decide +kernel
theorem dX10_isRead_172 : decode cX10_isRead 172 = .ok (.aload_n 0, 1) := by decide +kernel
theorem dX10_isRead_173 : decode cX10_isRead 173 = .ok (.getfield 41, 3) := by decide +kernel
theorem dX10_isRead_176 : decode cX10_isRead 176 = .ok (.iload_n 3, 1) := by decide +kernel
theorem dX10_isRead_177 : decode cX10_isRead 177 = .ok (.iaload, 1) := by decide +kernel
theorem dX10_isRead_178 : decode cX10_isRead 178 = .ok (.putfield 169, 3) := by decide +kernel
theorem dX10_isRead_181 : decode cX10_isRead 181 = .ok (.iconst 0, 1) := by decide +kernel
theorem dX10_isRead_182 : decode cX10_isRead 182 = .ok (.ireturn, 1) := by decide +kernel
theorem dX10_isRead_183 : decode cX10_isRead 183 = .ok (.goto 135, 3) := by decide +kernel
theorem dX10_isRead_186 : decode cX10_isRead 186 = .ok (.iload_n 1, 1) := by decide +kernel
theorem dX10_isRead_187 : decode cX10_isRead 187 = .ok (.invokestatic 172, 3) := by decide +kernel
theorem dX10_isRead_190 : decode cX10_isRead 190 = .ok (.istore 4, 2) := by decide +kernel
theorem dX10_isRead_192 : decode cX10_isRead 192 = .ok (.aload_n 0, 1) := by decide +kernel
theorem dX10_isRead_193 : decode cX10_isRead 193 = .ok (.iload 4, 2) := by decide +kernel
theorem dX10_isRead_195 : decode cX10_isRead 195 = .ok (.bipush 40, 2) := by decide +kernel
theorem dX10_isRead_197 : decode cX10_isRead 197 = .ok (.if_icmp .ne 7, 3) := by decide +kernel
theorem dX10_isRead_200 : decode cX10_isRead 200 = .ok (.iconst 2, 1) := by decide +kernel
theorem dX10_isRead_201 : decode cX10_isRead 201 = .ok (.goto 15, 3) := by decide +kernel
theorem dX10_isRead_204 : decode cX10_isRead 204 = .ok (.iload 4, 2) := by decide +kernel
theorem dX10_isRead_206 : decode cX10_isRead 206 = .ok (.bipush 30, 2) := by decide +kernel
theorem dX10_isRead_208 : decode cX10_isRead 208 = .ok (.if_icmp .lt 7, 3) := by decide +kernel
theorem dX10_isRead_211 : decode cX10_isRead 211 = .ok (.iconst 4, 1) := by decide +kernel
theorem dX10_isRead_212 : decode cX10_isRead 212 = .ok (.goto 4, 3) := by decide +kernel
theorem dX10_isRead_215 : decode cX10_isRead 215 = .ok (.iconst 1, 1) := by decide +kernel
theorem dX10_isRead_216 : decode cX10_isRead 216 = .ok (.putfield 166, 3) := by decide +kernel
theorem dX10_isRead_219 : decode cX10_isRead 219 = .ok (.aload_n 0, 1) := by decide +kernel
theorem dX10_isRead_220 : decode cX10_isRead 220 = .ok (.getfield 35, 3) := by decide +kernel
theorem dX10_isRead_223 : decode cX10_isRead 223 = .ok (.iload_n 3, 1) := by decide +kernel
theorem dX10_isRead_224 : decode cX10_isRead 224 = .ok (.iaload, 1) := by decide +kernel
theorem dX10_isRead_225 : decode cX10_isRead 225 = .ok (.iload 4, 2) := by decide +kernel
theorem dX10_isRead_227 : decode cX10_isRead 227 = .ok (.if_icmp .ne 25, 3) := by decide +kernel
theorem dX10_isRead_230 : decode cX10_isRead 230 = .ok (.iload 4, 2) := by decide +kernel
theorem dX10_isRead_232 : decode cX10_isRead 232 = .ok (.bipush 40, 2) := by decide +kernel
theorem dX10_isRead_234 : decode cX10_isRead 234 = .ok (.if_icmp .ne 30, 3) := by decide +kernel
theorem dX10_isRead_237 : decode cX10_isRead 237 = .ok (.aload_n 0, 1) := by decide +kernel
theorem dX10_isRead_238 : decode cX10_isRead 238 = .ok (.iload_n 1, 1) := by decide +kernel
theorem dX10_isRead_239 : decode cX10_isRead 239 = .ok (.iload_n 2, 1) := by decide +kernel
theorem dX10_isRead_240 : decode cX10_isRead 240 = .ok (.aload_n 0, 1) := by decide +kernel
theorem dX10_isRead_241 : decode cX10_isRead 241 = .ok (.getfield 38, 3) := by decide +kernel
theorem dX10_isRead_244 : decode cX10_isRead 244 = .ok (.iload_n 3, 1) := by decide +kernel
theorem dX10_isRead_245 : decode cX10_isRead 245 = .ok (.iaload, 1) := by decide +kernel
theorem dX10_isRead_246 : decode cX10_isRead 246 = .ok (.invokevirtual 176, 3) := by decide +kernel
theorem dX10_isRead_249 : decode cX10_isRead 249 = .ok (.ifCond .ne 15, 3) := by decide +kernel
theorem dX10_isRead_252 : decode cX10_isRead 252 = .ok (.aload_n 0, 1) := by decide +kernel
theorem dX10_isRead_253 : decode cX10_isRead 253 = .ok (.aload_n 0, 1) := by decide +kernel
theorem dX10_isRead_254 : decode cX10_isRead 254 = .ok (.getfield 41, 3) := by decide +kernel
theorem dX10_isRead_257 : decode cX10_isRead 257 = .ok (.iload_n 3, 1) := by decide +kernel
theorem dX10_isRead_258 : decode cX10_isRead 258 = .ok (.iaload, 1) := by decide +kernel
theorem dX10_isRead_259 : decode cX10_isRead 259 = .ok (.putfield 169, 3) := by decide +kernel
theorem dX10_isRead_262 : decode cX10_isRead 262 = .ok (.iconst 0, 1) := by decide +kernel
theorem dX10_isRead_263 : decode cX10_isRead 263 = .ok (.ireturn, 1) := by decide +kernel
theorem dX10_isRead_264 : decode cX10_isRead 264 = .ok (.iload 4, 2) := by decide +kernel
theorem dX10_isRead_266 : decode cX10_isRead 266 = .ok (.bipush 40, 2) := by decide +kernel
theorem dX10_isRead_268 : decode cX10_isRead 268 = .ok (.if_icmp .ne 15, 3) := by decide +kernel
theorem dX10_isRead_271 : decode cX10_isRead 271 = .ok (.aload_n 0, 1) := by decide +kernel
theorem dX10_isRead_272 : decode cX10_isRead 272 = .ok (.iload_n 1, 1) := by decide +kernel
theorem dX10_isRead_273 : decode cX10_isRead 273 = .ok (.iload_n 2, 1) := by decide +kernel
theorem dX10_isRead_274 : decode cX10_isRead 274 = .ok (.aload_n 0, 1) := by decide +kernel
theorem dX10_isRead_275 : decode cX10_isRead 275 = .ok (.getfield 38, 3) := by decide +kernel
theorem dX10_isRead_278 : decode cX10_isRead 278 = .ok (.iload_n 3, 1) := by decide +kernel
theorem dX10_isRead_279 : decode cX10_isRead 279 = .ok (.iaload, 1) := by decide +kernel
theorem dX10_isRead_280 : decode cX10_isRead 280 = .ok (.invokevirtual 179, 3) := by decide +kernel
theorem dX10_isRead_283 : decode cX10_isRead 283 = .ok (.iload_n 1, 1) := by decide +kernel
theorem dX10_isRead_284 : decode cX10_isRead 284 = .ok (.bipush 14, 2) := by decide +kernel
theorem dX10_isRead_286 : decode cX10_isRead 286 = .ok (.if_icmp .ne 17, 3) := by decide +kernel
theorem dX10_isRead_289 : decode cX10_isRead 289 = .ok (.aload_n 0, 1) := by decide +kernel
theorem dX10_isRead_290 : decode cX10_isRead 290 = .ok (.getfield 44, 3) := by decide +kernel
theorem dX10_isRead_293 : decode cX10_isRead 293 = .ok (.iconst 5, 1) := by decide +kernel
theorem dX10_isRead_294 : decode cX10_isRead 294 = .ok (.bipush 6, 2) := by decide +kernel
theorem dX10_isRead_296 : decode cX10_isRead 296 = .ok (.iload_n 2, 1) := by decide +kernel
theorem dX10_isRead_297 : decode cX10_isRead 297 = .ok (.imul, 1) := by decide +kernel
theorem dX10_isRead_298 : decode cX10_isRead 298 = .ok (.iadd, 1) := by decide +kernel
theorem dX10_isRead_299 : decode cX10_isRead 299 = .ok (.iconst 3, 1) := by decide +kernel
theorem dX10_isRead_300 : decode cX10_isRead 300 = .ok (.iadd, 1) := by decide +kernel
theorem dX10_isRead_301 : decode cX10_isRead 301 = .ok (.iconst 0, 1) := by decide +kernel
theorem dX10_isRead_302 : decode cX10_isRead 302 = .ok (.iastore, 1) := by decide +kernel
theorem dX10_isRead_303 : decode cX10_isRead 303 = .ok (.iload_n 1, 1) := by decide +kernel
theorem dX10_isRead_304 : decode cX10_isRead 304 = .ok (.bipush 20, 2) := by decide +kernel
theorem dX10_isRead_306 : decode cX10_isRead 306 = .ok (.if_icmp .ne 8, 3) := by decide +kernel
theorem dX10_isRead_309 : decode cX10_isRead 309 = .ok (.bipush 9, 2) := by decide +kernel
theorem dX10_isRead_311 : decode cX10_isRead 311 = .ok (.goto 6, 3) := by decide +kernel
theorem dX10_isRead_314 : decode cX10_isRead 314 = .ok (.iload_n 1, 1) := by decide +kernel
theorem dX10_isRead_315 : decode cX10_isRead 315 = .ok (.iconst 1, 1) := by decide +kernel
theorem dX10_isRead_316 : decode cX10_isRead 316 = .ok (.iadd, 1) := by decide +kernel
theorem dX10_isRead_317 : decode cX10_isRead 317 = .ok (.istore_n 1, 1) := by decide +kernel
theorem dX10_isRead_318 : decode cX10_isRead 318 = .ok (.iinc 3 1, 3) := by decide +kernel
theorem dX10_isRead_321 : decode cX10_isRead 321 = .ok (.goto (-290), 3) := by decide +kernel
theorem dX10_isRead_324 : decode cX10_isRead 324 = .ok (.aload_n 0, 1) := by decide +kernel
theorem dX10_isRead_325 : decode cX10_isRead 325 = .ok (.getfield 44, 3) := by decide +kernel
theorem dX10_isRead_328 : decode cX10_isRead 328 = .ok (.iconst 4, 1) := by decide +kernel
theorem dX10_isRead_329 : decode cX10_isRead 329 = .ok (.iload_n 2, 1) := by decide +kernel
theorem dX10_isRead_330 : decode cX10_isRead 330 = .ok (.iconst 1, 1) := by decide +kernel
theorem dX10_isRead_331 : decode cX10_isRead 331 = .ok (.iadd, 1) := by decide +kernel
theorem dX10_isRead_332 : decode cX10_isRead 332 = .ok (.iastore, 1) := by decide +kernel
theorem dX10_isRead_333 : decode cX10_isRead 333 = .ok (.iconst 1, 1) := by decide +kernel
theorem dX10_isRead_334 : decode cX10_isRead 334 = .ok (.ireturn, 1) := by decide +kernel
theorem dX10_fault_0 : decode cX10_fault 0 = .ok (.aload_n 0, 1) := by decide +kernel
theorem dX10_fault_1 : decode cX10_fault 1 = .ok (.invokevirtual 183, 3) := by decide +kernel
theorem dX10_fault_4 : decode cX10_fault 4 = .ok (.ifCond .eq 7, 3) := by decide +kernel
theorem dX10_fault_7 : decode cX10_fault 7 = .ok (.iconst (-1), 1) := by decide +kernel
theorem dX10_fault_8 : decode cX10_fault 8 = .ok (.goto 7, 3) := by decide +kernel
theorem dX10_fault_11 : decode cX10_fault 11 = .ok (.aload_n 0, 1) := by decide +kernel
theorem dX10_fault_12 : decode cX10_fault 12 = .ok (.getfield 169, 3) := by decide +kernel
theorem dX10_fault_15 : decode cX10_fault 15 = .ok (.ireturn, 1) := by decide +kernel
theorem dX10_stands_0 : decode cX10_stands 0 = .ok (.aload_n 0, 1) := by decide +kernel
theorem dX10_stands_1 : decode cX10_stands 1 = .ok (.invokevirtual 183, 3) := by decide +kernel
theorem dX10_stands_4 : decode cX10_stands 4 = .ok (.ifCond .eq 7, 3) := by decide +kernel
theorem dX10_stands_7 : decode cX10_stands 7 = .ok (.iconst 0, 1) := by decide +kernel
theorem dX10_stands_8 : decode cX10_stands 8 = .ok (.goto 7, 3) := by decide +kernel
theorem dX10_stands_11 : decode cX10_stands 11 = .ok (.aload_n 0, 1) := by decide +kernel
theorem dX10_stands_12 : decode cX10_stands 12 = .ok (.getfield 166, 3) := by decide +kernel
theorem dX10_stands_15 : decode cX10_stands 15 = .ok (.ireturn, 1) := by decide +kernel
theorem dX10_plan_0 : decode cX10_plan 0 = .ok (.aload_n 0, 1) := by decide +kernel
theorem dX10_plan_1 : decode cX10_plan 1 = .ok (.invokevirtual 183, 3) := by decide +kernel
theorem dX10_plan_4 : decode cX10_plan 4 = .ok (.ifCond .ne 6, 3) := by decide +kernel
theorem dX10_plan_7 : decode cX10_plan 7 = .ok (.bipush (-4), 2) := by decide +kernel
theorem dX10_plan_9 : decode cX10_plan 9 = .ok (.ireturn, 1) := by decide +kernel
theorem dX10_plan_10 : decode cX10_plan 10 = .ok (.aload_n 0, 1) := by decide +kernel
theorem dX10_plan_11 : decode cX10_plan 11 = .ok (.getfield 94, 3) := by decide +kernel
theorem dX10_plan_14 : decode cX10_plan 14 = .ok (.iconst 5, 1) := by decide +kernel
theorem dX10_plan_15 : decode cX10_plan 15 = .ok (.if_icmp .ne 6, 3) := by decide +kernel
theorem dX10_plan_18 : decode cX10_plan 18 = .ok (.bipush (-5), 2) := by decide +kernel
theorem dX10_plan_20 : decode cX10_plan 20 = .ok (.ireturn, 1) := by decide +kernel
theorem dX10_plan_21 : decode cX10_plan 21 = .ok (.iconst 0, 1) := by decide +kernel
theorem dX10_plan_22 : decode cX10_plan 22 = .ok (.istore_n 1, 1) := by decide +kernel
theorem dX10_plan_23 : decode cX10_plan 23 = .ok (.iload_n 1, 1) := by decide +kernel
theorem dX10_plan_24 : decode cX10_plan 24 = .ok (.bipush 23, 2) := by decide +kernel
theorem dX10_plan_26 : decode cX10_plan 26 = .ok (.if_icmp .ge 29, 3) := by decide +kernel
theorem dX10_plan_29 : decode cX10_plan 29 = .ok (.aload_n 0, 1) := by decide +kernel
theorem dX10_plan_30 : decode cX10_plan 30 = .ok (.getfield 47, 3) := by decide +kernel
theorem dX10_plan_33 : decode cX10_plan 33 = .ok (.bipush 23, 2) := by decide +kernel
theorem dX10_plan_35 : decode cX10_plan 35 = .ok (.aload_n 0, 1) := by decide +kernel
theorem dX10_plan_36 : decode cX10_plan 36 = .ok (.getfield 94, 3) := by decide +kernel
theorem dX10_plan_39 : decode cX10_plan 39 = .ok (.imul, 1) := by decide +kernel
theorem dX10_plan_40 : decode cX10_plan 40 = .ok (.iload_n 1, 1) := by decide +kernel
theorem dX10_plan_41 : decode cX10_plan 41 = .ok (.iadd, 1) := by decide +kernel
theorem dX10_plan_42 : decode cX10_plan 42 = .ok (.aload_n 0, 1) := by decide +kernel
theorem dX10_plan_43 : decode cX10_plan 43 = .ok (.getfield 44, 3) := by decide +kernel
theorem dX10_plan_46 : decode cX10_plan 46 = .ok (.iload_n 1, 1) := by decide +kernel
theorem dX10_plan_47 : decode cX10_plan 47 = .ok (.iaload, 1) := by decide +kernel
theorem dX10_plan_48 : decode cX10_plan 48 = .ok (.iastore, 1) := by decide +kernel
theorem dX10_plan_49 : decode cX10_plan 49 = .ok (.iinc 1 1, 3) := by decide +kernel
theorem dX10_plan_52 : decode cX10_plan 52 = .ok (.goto (-29), 3) := by decide +kernel
theorem dX10_plan_55 : decode cX10_plan 55 = .ok (.aload_n 0, 1) := by decide +kernel
theorem dX10_plan_56 : decode cX10_plan 56 = .ok (.dup, 1) := by decide +kernel
theorem dX10_plan_57 : decode cX10_plan 57 = .ok (.getfield 94, 3) := by decide +kernel
theorem dX10_plan_60 : decode cX10_plan 60 = .ok (.iconst 1, 1) := by decide +kernel
theorem dX10_plan_61 : decode cX10_plan 61 = .ok (.iadd, 1) := by decide +kernel
theorem dX10_plan_62 : decode cX10_plan 62 = .ok (.putfield 94, 3) := by decide +kernel
theorem dX10_plan_65 : decode cX10_plan 65 = .ok (.aload_n 0, 1) := by decide +kernel
theorem dX10_plan_66 : decode cX10_plan 66 = .ok (.iconst 0, 1) := by decide +kernel
theorem dX10_plan_67 : decode cX10_plan 67 = .ok (.putfield 127, 3) := by decide +kernel
theorem dX10_plan_70 : decode cX10_plan 70 = .ok (.aload_n 0, 1) := by decide +kernel
theorem dX10_plan_71 : decode cX10_plan 71 = .ok (.getfield 94, 3) := by decide +kernel
theorem dX10_plan_74 : decode cX10_plan 74 = .ok (.iconst 1, 1) := by decide +kernel
theorem dX10_plan_75 : decode cX10_plan 75 = .ok (.isub, 1) := by decide +kernel
theorem dX10_plan_76 : decode cX10_plan 76 = .ok (.ireturn, 1) := by decide +kernel
theorem dX10_remove_0 : decode cX10_remove 0 = .ok (.aload_n 0, 1) := by decide +kernel
theorem dX10_remove_1 : decode cX10_remove 1 = .ok (.dup, 1) := by decide +kernel
theorem dX10_remove_2 : decode cX10_remove 2 = .ok (.getfield 94, 3) := by decide +kernel
theorem dX10_remove_5 : decode cX10_remove 5 = .ok (.iconst 1, 1) := by decide +kernel
theorem dX10_remove_6 : decode cX10_remove 6 = .ok (.isub, 1) := by decide +kernel
theorem dX10_remove_7 : decode cX10_remove 7 = .ok (.putfield 94, 3) := by decide +kernel
theorem dX10_remove_10 : decode cX10_remove 10 = .ok (.bipush 23, 2) := by decide +kernel
theorem dX10_remove_12 : decode cX10_remove 12 = .ok (.iload_n 1, 1) := by decide +kernel
theorem dX10_remove_13 : decode cX10_remove 13 = .ok (.imul, 1) := by decide +kernel
theorem dX10_remove_14 : decode cX10_remove 14 = .ok (.istore_n 2, 1) := by decide +kernel
theorem dX10_remove_15 : decode cX10_remove 15 = .ok (.iload_n 2, 1) := by decide +kernel
theorem dX10_remove_16 : decode cX10_remove 16 = .ok (.bipush 23, 2) := by decide +kernel
theorem dX10_remove_18 : decode cX10_remove 18 = .ok (.aload_n 0, 1) := by decide +kernel
theorem dX10_remove_19 : decode cX10_remove 19 = .ok (.getfield 94, 3) := by decide +kernel
theorem dX10_remove_22 : decode cX10_remove 22 = .ok (.imul, 1) := by decide +kernel
theorem dX10_remove_23 : decode cX10_remove 23 = .ok (.if_icmp .ge 24, 3) := by decide +kernel
theorem dX10_remove_26 : decode cX10_remove 26 = .ok (.aload_n 0, 1) := by decide +kernel
theorem dX10_remove_27 : decode cX10_remove 27 = .ok (.getfield 47, 3) := by decide +kernel
theorem dX10_remove_30 : decode cX10_remove 30 = .ok (.iload_n 2, 1) := by decide +kernel
theorem dX10_remove_31 : decode cX10_remove 31 = .ok (.aload_n 0, 1) := by decide +kernel
theorem dX10_remove_32 : decode cX10_remove 32 = .ok (.getfield 47, 3) := by decide +kernel
theorem dX10_remove_35 : decode cX10_remove 35 = .ok (.iload_n 2, 1) := by decide +kernel
theorem dX10_remove_36 : decode cX10_remove 36 = .ok (.bipush 23, 2) := by decide +kernel
theorem dX10_remove_38 : decode cX10_remove 38 = .ok (.iadd, 1) := by decide +kernel
theorem dX10_remove_39 : decode cX10_remove 39 = .ok (.iaload, 1) := by decide +kernel
theorem dX10_remove_40 : decode cX10_remove 40 = .ok (.iastore, 1) := by decide +kernel
theorem dX10_remove_41 : decode cX10_remove 41 = .ok (.iinc 2 1, 3) := by decide +kernel
theorem dX10_remove_44 : decode cX10_remove 44 = .ok (.goto (-29), 3) := by decide +kernel
theorem dX10_remove_47 : decode cX10_remove 47 = .ok (.return_, 1) := by decide +kernel
theorem dX10_drop_0 : decode cX10_drop 0 = .ok (.aload_n 0, 1) := by decide +kernel
theorem dX10_drop_1 : decode cX10_drop 1 = .ok (.iload_n 1, 1) := by decide +kernel
theorem dX10_drop_2 : decode cX10_drop 2 = .ok (.invokevirtual 187, 3) := by decide +kernel
theorem dX10_drop_5 : decode cX10_drop 5 = .ok (.ifCond .ne 6, 3) := by decide +kernel
theorem dX10_drop_8 : decode cX10_drop 8 = .ok (.bipush (-2), 2) := by decide +kernel
theorem dX10_drop_10 : decode cX10_drop 10 = .ok (.ireturn, 1) := by decide +kernel
theorem dX10_drop_11 : decode cX10_drop 11 = .ok (.aload_n 0, 1) := by decide +kernel
theorem dX10_drop_12 : decode cX10_drop 12 = .ok (.iload_n 1, 1) := by decide +kernel
theorem dX10_drop_13 : decode cX10_drop 13 = .ok (.invokevirtual 190, 3) := by decide +kernel
theorem dX10_drop_16 : decode cX10_drop 16 = .ok (.iconst 1, 1) := by decide +kernel
theorem dX10_drop_17 : decode cX10_drop 17 = .ok (.ireturn, 1) := by decide +kernel
theorem dX10_told_0 : decode cX10_told 0 = .ok (.aload_n 0, 1) := by decide +kernel
theorem dX10_told_1 : decode cX10_told 1 = .ok (.iload_n 1, 1) := by decide +kernel
theorem dX10_told_2 : decode cX10_told 2 = .ok (.invokevirtual 187, 3) := by decide +kernel
theorem dX10_told_5 : decode cX10_told 5 = .ok (.ifCond .ne 6, 3) := by decide +kernel
theorem dX10_told_8 : decode cX10_told 8 = .ok (.bipush (-2), 2) := by decide +kernel
theorem dX10_told_10 : decode cX10_told 10 = .ok (.ireturn, 1) := by decide +kernel
theorem dX10_told_11 : decode cX10_told 11 = .ok (.iload_n 2, 1) := by decide +kernel
theorem dX10_told_12 : decode cX10_told 12 = .ok (.iconst 0, 1) := by decide +kernel
theorem dX10_told_13 : decode cX10_told 13 = .ok (.iconst 4, 1) := by decide +kernel
theorem dX10_told_14 : decode cX10_told 14 = .ok (.invokestatic 87, 3) := by decide +kernel
theorem dX10_told_17 : decode cX10_told 17 = .ok (.ifCond .eq 15, 3) := by decide +kernel
theorem dX10_told_20 : decode cX10_told 20 = .ok (.aload_n 0, 1) := by decide +kernel
theorem dX10_told_21 : decode cX10_told 21 = .ok (.getfield 47, 3) := by decide +kernel
theorem dX10_told_24 : decode cX10_told 24 = .ok (.bipush 23, 2) := by decide +kernel
theorem dX10_told_26 : decode cX10_told 26 = .ok (.iload_n 1, 1) := by decide +kernel
theorem dX10_told_27 : decode cX10_told 27 = .ok (.imul, 1) := by decide +kernel
theorem dX10_told_28 : decode cX10_told 28 = .ok (.iload_n 2, 1) := by decide +kernel
theorem dX10_told_29 : decode cX10_told 29 = .ok (.iadd, 1) := by decide +kernel
theorem dX10_told_30 : decode cX10_told 30 = .ok (.iaload, 1) := by decide +kernel
theorem dX10_told_31 : decode cX10_told 31 = .ok (.ireturn, 1) := by decide +kernel
theorem dX10_told_32 : decode cX10_told 32 = .ok (.iload_n 2, 1) := by decide +kernel
theorem dX10_told_33 : decode cX10_told 33 = .ok (.bipush 10, 2) := by decide +kernel
theorem dX10_told_35 : decode cX10_told 35 = .ok (.idiv, 1) := by decide +kernel
theorem dX10_told_36 : decode cX10_told 36 = .ok (.iconst 1, 1) := by decide +kernel
theorem dX10_told_37 : decode cX10_told 37 = .ok (.isub, 1) := by decide +kernel
theorem dX10_told_38 : decode cX10_told 38 = .ok (.istore_n 3, 1) := by decide +kernel
theorem dX10_told_39 : decode cX10_told 39 = .ok (.iload_n 2, 1) := by decide +kernel
theorem dX10_told_40 : decode cX10_told 40 = .ok (.bipush 10, 2) := by decide +kernel
theorem dX10_told_42 : decode cX10_told 42 = .ok (.irem, 1) := by decide +kernel
theorem dX10_told_43 : decode cX10_told 43 = .ok (.istore 4, 2) := by decide +kernel
theorem dX10_told_45 : decode cX10_told 45 = .ok (.iload_n 2, 1) := by decide +kernel
theorem dX10_told_46 : decode cX10_told 46 = .ok (.bipush 10, 2) := by decide +kernel
theorem dX10_told_48 : decode cX10_told 48 = .ok (.bipush 35, 2) := by decide +kernel
theorem dX10_told_50 : decode cX10_told 50 = .ok (.invokestatic 87, 3) := by decide +kernel
theorem dX10_told_53 : decode cX10_told 53 = .ok (.ifCond .eq 17, 3) := by decide +kernel
theorem dX10_told_56 : decode cX10_told 56 = .ok (.iload 4, 2) := by decide +kernel
theorem dX10_told_58 : decode cX10_told 58 = .ok (.iload_n 3, 1) := by decide +kernel
theorem dX10_told_59 : decode cX10_told 59 = .ok (.ifCond .ne 7, 3) := by decide +kernel
theorem dX10_told_62 : decode cX10_told 62 = .ok (.iconst 3, 1) := by decide +kernel
theorem dX10_told_63 : decode cX10_told 63 = .ok (.goto 4, 3) := by decide +kernel
theorem dX10_told_66 : decode cX10_told 66 = .ok (.iconst 5, 1) := by decide +kernel
theorem dX10_told_67 : decode cX10_told 67 = .ok (.if_icmp .le 6, 3) := by decide +kernel
theorem dX10_told_70 : decode cX10_told 70 = .ok (.bipush (-3), 2) := by decide +kernel
theorem dX10_told_72 : decode cX10_told 72 = .ok (.ireturn, 1) := by decide +kernel
theorem dX10_told_73 : decode cX10_told 73 = .ok (.aload_n 0, 1) := by decide +kernel
theorem dX10_told_74 : decode cX10_told 74 = .ok (.getfield 47, 3) := by decide +kernel
theorem dX10_told_77 : decode cX10_told 77 = .ok (.bipush 23, 2) := by decide +kernel
theorem dX10_told_79 : decode cX10_told 79 = .ok (.iload_n 1, 1) := by decide +kernel
theorem dX10_told_80 : decode cX10_told 80 = .ok (.imul, 1) := by decide +kernel
theorem dX10_told_81 : decode cX10_told 81 = .ok (.iconst 5, 1) := by decide +kernel
theorem dX10_told_82 : decode cX10_told 82 = .ok (.iadd, 1) := by decide +kernel
theorem dX10_told_83 : decode cX10_told 83 = .ok (.bipush 6, 2) := by decide +kernel
theorem dX10_told_85 : decode cX10_told 85 = .ok (.iload_n 3, 1) := by decide +kernel
theorem dX10_told_86 : decode cX10_told 86 = .ok (.imul, 1) := by decide +kernel
theorem dX10_told_87 : decode cX10_told 87 = .ok (.iadd, 1) := by decide +kernel
theorem dX10_told_88 : decode cX10_told 88 = .ok (.iload 4, 2) := by decide +kernel
theorem dX10_told_90 : decode cX10_told 90 = .ok (.iadd, 1) := by decide +kernel
theorem dX10_told_91 : decode cX10_told 91 = .ok (.iaload, 1) := by decide +kernel
theorem dX10_told_92 : decode cX10_told 92 = .ok (.ireturn, 1) := by decide +kernel
theorem dX10_worth_0 : decode cX10_worth 0 = .ok (.aload_n 0, 1) := by decide +kernel
theorem dX10_worth_1 : decode cX10_worth 1 = .ok (.iload_n 1, 1) := by decide +kernel
theorem dX10_worth_2 : decode cX10_worth 2 = .ok (.invokevirtual 187, 3) := by decide +kernel
theorem dX10_worth_5 : decode cX10_worth 5 = .ok (.ifCond .ne 6, 3) := by decide +kernel
theorem dX10_worth_8 : decode cX10_worth 8 = .ok (.bipush (-2), 2) := by decide +kernel
theorem dX10_worth_10 : decode cX10_worth 10 = .ok (.ireturn, 1) := by decide +kernel
theorem dX10_worth_11 : decode cX10_worth 11 = .ok (.iload_n 2, 1) := by decide +kernel
theorem dX10_worth_12 : decode cX10_worth 12 = .ok (.iconst 1, 1) := by decide +kernel
theorem dX10_worth_13 : decode cX10_worth 13 = .ok (.bipush 99, 2) := by decide +kernel
theorem dX10_worth_15 : decode cX10_worth 15 = .ok (.invokestatic 87, 3) := by decide +kernel
theorem dX10_worth_18 : decode cX10_worth 18 = .ok (.ifCond .ne 6, 3) := by decide +kernel
theorem dX10_worth_21 : decode cX10_worth 21 = .ok (.bipush (-3), 2) := by decide +kernel
theorem dX10_worth_23 : decode cX10_worth 23 = .ok (.ireturn, 1) := by decide +kernel
theorem dX10_worth_24 : decode cX10_worth 24 = .ok (.aload_n 0, 1) := by decide +kernel
theorem dX10_worth_25 : decode cX10_worth 25 = .ok (.getfield 47, 3) := by decide +kernel
theorem dX10_worth_28 : decode cX10_worth 28 = .ok (.bipush 23, 2) := by decide +kernel
theorem dX10_worth_30 : decode cX10_worth 30 = .ok (.iload_n 1, 1) := by decide +kernel
theorem dX10_worth_31 : decode cX10_worth 31 = .ok (.imul, 1) := by decide +kernel
theorem dX10_worth_32 : decode cX10_worth 32 = .ok (.iconst 3, 1) := by decide +kernel
theorem dX10_worth_33 : decode cX10_worth 33 = .ok (.iadd, 1) := by decide +kernel
theorem dX10_worth_34 : decode cX10_worth 34 = .ok (.iaload, 1) := by decide +kernel
theorem dX10_worth_35 : decode cX10_worth 35 = .ok (.istore_n 3, 1) := by decide +kernel
theorem dX10_worth_36 : decode cX10_worth 36 = .ok (.aload_n 0, 1) := by decide +kernel
theorem dX10_worth_37 : decode cX10_worth 37 = .ok (.getfield 47, 3) := by decide +kernel
theorem dX10_worth_40 : decode cX10_worth 40 = .ok (.bipush 23, 2) := by decide +kernel
theorem dX10_worth_42 : decode cX10_worth 42 = .ok (.iload_n 1, 1) := by decide +kernel
theorem dX10_worth_43 : decode cX10_worth 43 = .ok (.imul, 1) := by decide +kernel
theorem dX10_worth_44 : decode cX10_worth 44 = .ok (.iconst 3, 1) := by decide +kernel
theorem dX10_worth_45 : decode cX10_worth 45 = .ok (.iadd, 1) := by decide +kernel
theorem dX10_worth_46 : decode cX10_worth 46 = .ok (.iload_n 2, 1) := by decide +kernel
theorem dX10_worth_47 : decode cX10_worth 47 = .ok (.iastore, 1) := by decide +kernel
theorem dX10_worth_48 : decode cX10_worth 48 = .ok (.iload_n 3, 1) := by decide +kernel
theorem dX10_worth_49 : decode cX10_worth 49 = .ok (.ireturn, 1) := by decide +kernel
theorem dX10_worthOf_0 : decode cX10_worthOf 0 = .ok (.aload_n 0, 1) := by decide +kernel
theorem dX10_worthOf_1 : decode cX10_worthOf 1 = .ok (.getfield 47, 3) := by decide +kernel
theorem dX10_worthOf_4 : decode cX10_worthOf 4 = .ok (.bipush 23, 2) := by decide +kernel
theorem dX10_worthOf_6 : decode cX10_worthOf 6 = .ok (.iload_n 1, 1) := by decide +kernel
theorem dX10_worthOf_7 : decode cX10_worthOf 7 = .ok (.imul, 1) := by decide +kernel
theorem dX10_worthOf_8 : decode cX10_worthOf 8 = .ok (.iconst 3, 1) := by decide +kernel
theorem dX10_worthOf_9 : decode cX10_worthOf 9 = .ok (.iadd, 1) := by decide +kernel
theorem dX10_worthOf_10 : decode cX10_worthOf 10 = .ok (.iaload, 1) := by decide +kernel
theorem dX10_worthOf_11 : decode cX10_worthOf 11 = .ok (.ireturn, 1) := by decide +kernel
theorem dX10_stepsOf_0 : decode cX10_stepsOf 0 = .ok (.aload_n 0, 1) := by decide +kernel
theorem dX10_stepsOf_1 : decode cX10_stepsOf 1 = .ok (.getfield 47, 3) := by decide +kernel
theorem dX10_stepsOf_4 : decode cX10_stepsOf 4 = .ok (.bipush 23, 2) := by decide +kernel
theorem dX10_stepsOf_6 : decode cX10_stepsOf 6 = .ok (.iload_n 1, 1) := by decide +kernel
theorem dX10_stepsOf_7 : decode cX10_stepsOf 7 = .ok (.imul, 1) := by decide +kernel
theorem dX10_stepsOf_8 : decode cX10_stepsOf 8 = .ok (.iconst 4, 1) := by decide +kernel
theorem dX10_stepsOf_9 : decode cX10_stepsOf 9 = .ok (.iadd, 1) := by decide +kernel
theorem dX10_stepsOf_10 : decode cX10_stepsOf 10 = .ok (.iaload, 1) := by decide +kernel
theorem dX10_stepsOf_11 : decode cX10_stepsOf 11 = .ok (.ireturn, 1) := by decide +kernel
theorem dX10_ofStep_0 : decode cX10_ofStep 0 = .ok (.aload_n 0, 1) := by decide +kernel
theorem dX10_ofStep_1 : decode cX10_ofStep 1 = .ok (.getfield 47, 3) := by decide +kernel
theorem dX10_ofStep_4 : decode cX10_ofStep 4 = .ok (.bipush 23, 2) := by decide +kernel
theorem dX10_ofStep_6 : decode cX10_ofStep 6 = .ok (.iload_n 1, 1) := by decide +kernel
theorem dX10_ofStep_7 : decode cX10_ofStep 7 = .ok (.imul, 1) := by decide +kernel
theorem dX10_ofStep_8 : decode cX10_ofStep 8 = .ok (.iconst 5, 1) := by decide +kernel
theorem dX10_ofStep_9 : decode cX10_ofStep 9 = .ok (.iadd, 1) := by decide +kernel
theorem dX10_ofStep_10 : decode cX10_ofStep 10 = .ok (.bipush 6, 2) := by decide +kernel
theorem dX10_ofStep_12 : decode cX10_ofStep 12 = .ok (.iload_n 2, 1) := by decide +kernel
theorem dX10_ofStep_13 : decode cX10_ofStep 13 = .ok (.imul, 1) := by decide +kernel
theorem dX10_ofStep_14 : decode cX10_ofStep 14 = .ok (.iadd, 1) := by decide +kernel
theorem dX10_ofStep_15 : decode cX10_ofStep 15 = .ok (.iload_n 3, 1) := by decide +kernel
theorem dX10_ofStep_16 : decode cX10_ofStep 16 = .ok (.iadd, 1) := by decide +kernel
theorem dX10_ofStep_17 : decode cX10_ofStep 17 = .ok (.iaload, 1) := by decide +kernel
theorem dX10_ofStep_18 : decode cX10_ofStep 18 = .ok (.ireturn, 1) := by decide +kernel
theorem dX10_fits_0 : decode cX10_fits 0 = .ok (.aload_n 0, 1) := by decide +kernel
theorem dX10_fits_1 : decode cX10_fits 1 = .ok (.getfield 26, 3) := by decide +kernel
theorem dX10_fits_4 : decode cX10_fits 4 = .ok (.bipush 12, 2) := by decide +kernel
theorem dX10_fits_6 : decode cX10_fits 6 = .ok (.iload_n 3, 1) := by decide +kernel
theorem dX10_fits_7 : decode cX10_fits 7 = .ok (.imul, 1) := by decide +kernel
theorem dX10_fits_8 : decode cX10_fits 8 = .ok (.iload_n 2, 1) := by decide +kernel
theorem dX10_fits_9 : decode cX10_fits 9 = .ok (.iadd, 1) := by decide +kernel
theorem dX10_fits_10 : decode cX10_fits 10 = .ok (.iaload, 1) := by decide +kernel
theorem dX10_fits_11 : decode cX10_fits 11 = .ok (.istore 7, 2) := by decide +kernel
theorem dX10_fits_13 : decode cX10_fits 13 = .ok (.iload 7, 2) := by decide +kernel
theorem dX10_fits_15 : decode cX10_fits 15 = .ok (.iconst 4, 1) := by decide +kernel
theorem dX10_fits_16 : decode cX10_fits 16 = .ok (.if_icmp .eq 30, 3) := by decide +kernel
theorem dX10_fits_19 : decode cX10_fits 19 = .ok (.iload 7, 2) := by decide +kernel
theorem dX10_fits_21 : decode cX10_fits 21 = .ok (.iload 4, 2) := by decide +kernel
theorem dX10_fits_23 : decode cX10_fits 23 = .ok (.if_icmp .gt 23, 3) := by decide +kernel
theorem dX10_fits_26 : decode cX10_fits 26 = .ok (.aload_n 0, 1) := by decide +kernel
theorem dX10_fits_27 : decode cX10_fits 27 = .ok (.iload_n 1, 1) := by decide +kernel
theorem dX10_fits_28 : decode cX10_fits 28 = .ok (.iload_n 2, 1) := by decide +kernel
theorem dX10_fits_29 : decode cX10_fits 29 = .ok (.invokevirtual 114, 3) := by decide +kernel
theorem dX10_fits_32 : decode cX10_fits 32 = .ok (.ifCond .eq 14, 3) := by decide +kernel
theorem dX10_fits_35 : decode cX10_fits 35 = .ok (.aload_n 0, 1) := by decide +kernel
theorem dX10_fits_36 : decode cX10_fits 36 = .ok (.iload_n 1, 1) := by decide +kernel
theorem dX10_fits_37 : decode cX10_fits 37 = .ok (.iload_n 2, 1) := by decide +kernel
theorem dX10_fits_38 : decode cX10_fits 38 = .ok (.invokevirtual 103, 3) := by decide +kernel
theorem dX10_fits_41 : decode cX10_fits 41 = .ok (.iload 5, 2) := by decide +kernel
theorem dX10_fits_43 : decode cX10_fits 43 = .ok (.if_icmp .le 5, 3) := by decide +kernel
theorem dX10_fits_46 : decode cX10_fits 46 = .ok (.iconst 0, 1) := by decide +kernel
theorem dX10_fits_47 : decode cX10_fits 47 = .ok (.ireturn, 1) := by decide +kernel
theorem dX10_fits_48 : decode cX10_fits 48 = .ok (.iload 6, 2) := by decide +kernel
theorem dX10_fits_50 : decode cX10_fits 50 = .ok (.iconst 1, 1) := by decide +kernel
theorem dX10_fits_51 : decode cX10_fits 51 = .ok (.if_icmp .ne 31, 3) := by decide +kernel
theorem dX10_fits_54 : decode cX10_fits 54 = .ok (.aload_n 0, 1) := by decide +kernel
theorem dX10_fits_55 : decode cX10_fits 55 = .ok (.getfield 20, 3) := by decide +kernel
theorem dX10_fits_58 : decode cX10_fits 58 = .ok (.iload_n 1, 1) := by decide +kernel
theorem dX10_fits_59 : decode cX10_fits 59 = .ok (.iaload, 1) := by decide +kernel
theorem dX10_fits_60 : decode cX10_fits 60 = .ok (.aload_n 0, 1) := by decide +kernel
theorem dX10_fits_61 : decode cX10_fits 61 = .ok (.getfield 23, 3) := by decide +kernel
theorem dX10_fits_64 : decode cX10_fits 64 = .ok (.if_icmp .ne 18, 3) := by decide +kernel
theorem dX10_fits_67 : decode cX10_fits 67 = .ok (.iload_n 2, 1) := by decide +kernel
theorem dX10_fits_68 : decode cX10_fits 68 = .ok (.aload_n 0, 1) := by decide +kernel
theorem dX10_fits_69 : decode cX10_fits 69 = .ok (.getfield 118, 3) := by decide +kernel
theorem dX10_fits_72 : decode cX10_fits 72 = .ok (.aload_n 0, 1) := by decide +kernel
theorem dX10_fits_73 : decode cX10_fits 73 = .ok (.getfield 121, 3) := by decide +kernel
theorem dX10_fits_76 : decode cX10_fits 76 = .ok (.invokestatic 87, 3) := by decide +kernel
theorem dX10_fits_79 : decode cX10_fits 79 = .ok (.ifCond .ne 7, 3) := by decide +kernel
theorem dX10_fits_82 : decode cX10_fits 82 = .ok (.iconst 1, 1) := by decide +kernel
theorem dX10_fits_83 : decode cX10_fits 83 = .ok (.goto 4, 3) := by decide +kernel
theorem dX10_fits_86 : decode cX10_fits 86 = .ok (.iconst 0, 1) := by decide +kernel
theorem dX10_fits_87 : decode cX10_fits 87 = .ok (.ireturn, 1) := by decide +kernel
theorem dX10_fitsStep_0 : decode cX10_fitsStep 0 = .ok (.aload_n 0, 1) := by decide +kernel
theorem dX10_fitsStep_1 : decode cX10_fitsStep 1 = .ok (.aload_n 0, 1) := by decide +kernel
theorem dX10_fitsStep_2 : decode cX10_fitsStep 2 = .ok (.getfield 47, 3) := by decide +kernel
theorem dX10_fitsStep_5 : decode cX10_fitsStep 5 = .ok (.bipush 23, 2) := by decide +kernel
theorem dX10_fitsStep_7 : decode cX10_fitsStep 7 = .ok (.iload_n 1, 1) := by decide +kernel
theorem dX10_fitsStep_8 : decode cX10_fitsStep 8 = .ok (.imul, 1) := by decide +kernel
theorem dX10_fitsStep_9 : decode cX10_fitsStep 9 = .ok (.iconst 2, 1) := by decide +kernel
theorem dX10_fitsStep_10 : decode cX10_fitsStep 10 = .ok (.iadd, 1) := by decide +kernel
theorem dX10_fitsStep_11 : decode cX10_fitsStep 11 = .ok (.iaload, 1) := by decide +kernel
theorem dX10_fitsStep_12 : decode cX10_fitsStep 12 = .ok (.iload_n 3, 1) := by decide +kernel
theorem dX10_fitsStep_13 : decode cX10_fitsStep 13 = .ok (.iload 4, 2) := by decide +kernel
theorem dX10_fitsStep_15 : decode cX10_fitsStep 15 = .ok (.aload_n 0, 1) := by decide +kernel
theorem dX10_fitsStep_16 : decode cX10_fitsStep 16 = .ok (.iload_n 1, 1) := by decide +kernel
theorem dX10_fitsStep_17 : decode cX10_fitsStep 17 = .ok (.iload_n 2, 1) := by decide +kernel
theorem dX10_fitsStep_18 : decode cX10_fitsStep 18 = .ok (.iconst 1, 1) := by decide +kernel
theorem dX10_fitsStep_19 : decode cX10_fitsStep 19 = .ok (.invokevirtual 194, 3) := by decide +kernel
theorem dX10_fitsStep_22 : decode cX10_fitsStep 22 = .ok (.aload_n 0, 1) := by decide +kernel
theorem dX10_fitsStep_23 : decode cX10_fitsStep 23 = .ok (.iload_n 1, 1) := by decide +kernel
theorem dX10_fitsStep_24 : decode cX10_fitsStep 24 = .ok (.iload_n 2, 1) := by decide +kernel
theorem dX10_fitsStep_25 : decode cX10_fitsStep 25 = .ok (.iconst 2, 1) := by decide +kernel
theorem dX10_fitsStep_26 : decode cX10_fitsStep 26 = .ok (.invokevirtual 194, 3) := by decide +kernel
theorem dX10_fitsStep_29 : decode cX10_fitsStep 29 = .ok (.aload_n 0, 1) := by decide +kernel
theorem dX10_fitsStep_30 : decode cX10_fitsStep 30 = .ok (.iload_n 1, 1) := by decide +kernel
theorem dX10_fitsStep_31 : decode cX10_fitsStep 31 = .ok (.iload_n 2, 1) := by decide +kernel
theorem dX10_fitsStep_32 : decode cX10_fitsStep 32 = .ok (.iconst 3, 1) := by decide +kernel
theorem dX10_fitsStep_33 : decode cX10_fitsStep 33 = .ok (.invokevirtual 194, 3) := by decide +kernel
theorem dX10_fitsStep_36 : decode cX10_fitsStep 36 = .ok (.invokevirtual 198, 3) := by decide +kernel
theorem dX10_fitsStep_39 : decode cX10_fitsStep 39 = .ok (.ireturn, 1) := by decide +kernel
theorem dX10_stepSlots_0 : decode cX10_stepSlots 0 = .ok (.iconst 0, 1) := by decide +kernel
theorem dX10_stepSlots_1 : decode cX10_stepSlots 1 = .ok (.istore 4, 2) := by decide +kernel
theorem dX10_stepSlots_3 : decode cX10_stepSlots 3 = .ok (.iload_n 3, 1) := by decide +kernel
theorem dX10_stepSlots_4 : decode cX10_stepSlots 4 = .ok (.istore 5, 2) := by decide +kernel
theorem dX10_stepSlots_6 : decode cX10_stepSlots 6 = .ok (.iload 5, 2) := by decide +kernel
theorem dX10_stepSlots_8 : decode cX10_stepSlots 8 = .ok (.iload_n 3, 1) := by decide +kernel
theorem dX10_stepSlots_9 : decode cX10_stepSlots 9 = .ok (.aload_n 0, 1) := by decide +kernel
theorem dX10_stepSlots_10 : decode cX10_stepSlots 10 = .ok (.iload_n 1, 1) := by decide +kernel
theorem dX10_stepSlots_11 : decode cX10_stepSlots 11 = .ok (.iload_n 2, 1) := by decide +kernel
theorem dX10_stepSlots_12 : decode cX10_stepSlots 12 = .ok (.iconst 0, 1) := by decide +kernel
theorem dX10_stepSlots_13 : decode cX10_stepSlots 13 = .ok (.invokevirtual 194, 3) := by decide +kernel
theorem dX10_stepSlots_16 : decode cX10_stepSlots 16 = .ok (.iadd, 1) := by decide +kernel
theorem dX10_stepSlots_17 : decode cX10_stepSlots 17 = .ok (.if_icmp .ge 41, 3) := by decide +kernel
theorem dX10_stepSlots_20 : decode cX10_stepSlots 20 = .ok (.iload 5, 2) := by decide +kernel
theorem dX10_stepSlots_22 : decode cX10_stepSlots 22 = .ok (.aload_n 0, 1) := by decide +kernel
theorem dX10_stepSlots_23 : decode cX10_stepSlots 23 = .ok (.getfield 7, 3) := by decide +kernel
theorem dX10_stepSlots_26 : decode cX10_stepSlots 26 = .ok (.if_icmp .ge 15, 3) := by decide +kernel
theorem dX10_stepSlots_29 : decode cX10_stepSlots 29 = .ok (.aload_n 0, 1) := by decide +kernel
theorem dX10_stepSlots_30 : decode cX10_stepSlots 30 = .ok (.iload_n 1, 1) := by decide +kernel
theorem dX10_stepSlots_31 : decode cX10_stepSlots 31 = .ok (.iload_n 2, 1) := by decide +kernel
theorem dX10_stepSlots_32 : decode cX10_stepSlots 32 = .ok (.iload 5, 2) := by decide +kernel
theorem dX10_stepSlots_34 : decode cX10_stepSlots 34 = .ok (.iconst 0, 1) := by decide +kernel
theorem dX10_stepSlots_35 : decode cX10_stepSlots 35 = .ok (.invokevirtual 202, 3) := by decide +kernel
theorem dX10_stepSlots_38 : decode cX10_stepSlots 38 = .ok (.ifCond .ne 5, 3) := by decide +kernel
theorem dX10_stepSlots_41 : decode cX10_stepSlots 41 = .ok (.iconst 0, 1) := by decide +kernel
theorem dX10_stepSlots_42 : decode cX10_stepSlots 42 = .ok (.ireturn, 1) := by decide +kernel
theorem dX10_stepSlots_43 : decode cX10_stepSlots 43 = .ok (.iload 4, 2) := by decide +kernel
theorem dX10_stepSlots_45 : decode cX10_stepSlots 45 = .ok (.iconst 1, 1) := by decide +kernel
theorem dX10_stepSlots_46 : decode cX10_stepSlots 46 = .ok (.iload 5, 2) := by decide +kernel
theorem dX10_stepSlots_48 : decode cX10_stepSlots 48 = .ok (.ishl, 1) := by decide +kernel
theorem dX10_stepSlots_49 : decode cX10_stepSlots 49 = .ok (.ior, 1) := by decide +kernel
theorem dX10_stepSlots_50 : decode cX10_stepSlots 50 = .ok (.istore 4, 2) := by decide +kernel
theorem dX10_stepSlots_52 : decode cX10_stepSlots 52 = .ok (.iinc 5 1, 3) := by decide +kernel
theorem dX10_stepSlots_55 : decode cX10_stepSlots 55 = .ok (.goto (-49), 3) := by decide +kernel
theorem dX10_stepSlots_58 : decode cX10_stepSlots 58 = .ok (.iload 4, 2) := by decide +kernel
theorem dX10_stepSlots_60 : decode cX10_stepSlots 60 = .ok (.ireturn, 1) := by decide +kernel
theorem dX10_addPlacement_0 : decode cX10_addPlacement 0 = .ok (.aload_n 0, 1) := by decide +kernel
theorem dX10_addPlacement_1 : decode cX10_addPlacement 1 = .ok (.getfield 53, 3) := by decide +kernel
theorem dX10_addPlacement_4 : decode cX10_addPlacement 4 = .ok (.sipush 200, 3) := by decide +kernel
theorem dX10_addPlacement_7 : decode cX10_addPlacement 7 = .ok (.iload_n 1, 1) := by decide +kernel
theorem dX10_addPlacement_8 : decode cX10_addPlacement 8 = .ok (.imul, 1) := by decide +kernel
theorem dX10_addPlacement_9 : decode cX10_addPlacement 9 = .ok (.aload_n 0, 1) := by decide +kernel
theorem dX10_addPlacement_10 : decode cX10_addPlacement 10 = .ok (.getfield 50, 3) := by decide +kernel
theorem dX10_addPlacement_13 : decode cX10_addPlacement 13 = .ok (.iload_n 1, 1) := by decide +kernel
theorem dX10_addPlacement_14 : decode cX10_addPlacement 14 = .ok (.iaload, 1) := by decide +kernel
theorem dX10_addPlacement_15 : decode cX10_addPlacement 15 = .ok (.iadd, 1) := by decide +kernel
theorem dX10_addPlacement_16 : decode cX10_addPlacement 16 = .ok (.iload_n 2, 1) := by decide +kernel
theorem dX10_addPlacement_17 : decode cX10_addPlacement 17 = .ok (.iastore, 1) := by decide +kernel
theorem dX10_addPlacement_18 : decode cX10_addPlacement 18 = .ok (.aload_n 0, 1) := by decide +kernel
theorem dX10_addPlacement_19 : decode cX10_addPlacement 19 = .ok (.getfield 56, 3) := by decide +kernel
theorem dX10_addPlacement_22 : decode cX10_addPlacement 22 = .ok (.sipush 200, 3) := by decide +kernel
theorem dX10_addPlacement_25 : decode cX10_addPlacement 25 = .ok (.iload_n 1, 1) := by decide +kernel
theorem dX10_addPlacement_26 : decode cX10_addPlacement 26 = .ok (.imul, 1) := by decide +kernel
theorem dX10_addPlacement_27 : decode cX10_addPlacement 27 = .ok (.aload_n 0, 1) := by decide +kernel
theorem dX10_addPlacement_28 : decode cX10_addPlacement 28 = .ok (.getfield 50, 3) := by decide +kernel
theorem dX10_addPlacement_31 : decode cX10_addPlacement 31 = .ok (.iload_n 1, 1) := by decide +kernel
theorem dX10_addPlacement_32 : decode cX10_addPlacement 32 = .ok (.iaload, 1) := by decide +kernel
theorem dX10_addPlacement_33 : decode cX10_addPlacement 33 = .ok (.iadd, 1) := by decide +kernel
theorem dX10_addPlacement_34 : decode cX10_addPlacement 34 = .ok (.iload_n 2, 1) := by decide +kernel
theorem dX10_addPlacement_35 : decode cX10_addPlacement 35 = .ok (.iload_n 2, 1) := by decide +kernel
theorem dX10_addPlacement_36 : decode cX10_addPlacement 36 = .ok (.iconst 1, 1) := by decide +kernel
theorem dX10_addPlacement_37 : decode cX10_addPlacement 37 = .ok (.ishl, 1) := by decide +kernel
theorem dX10_addPlacement_38 : decode cX10_addPlacement 38 = .ok (.ior, 1) := by decide +kernel
theorem dX10_addPlacement_39 : decode cX10_addPlacement 39 = .ok (.iload_n 2, 1) := by decide +kernel
theorem dX10_addPlacement_40 : decode cX10_addPlacement 40 = .ok (.iconst 1, 1) := by decide +kernel
theorem dX10_addPlacement_41 : decode cX10_addPlacement 41 = .ok (.ishr, 1) := by decide +kernel
theorem dX10_addPlacement_42 : decode cX10_addPlacement 42 = .ok (.ior, 1) := by decide +kernel
theorem dX10_addPlacement_43 : decode cX10_addPlacement 43 = .ok (.iconst 1, 1) := by decide +kernel
theorem dX10_addPlacement_44 : decode cX10_addPlacement 44 = .ok (.aload_n 0, 1) := by decide +kernel
theorem dX10_addPlacement_45 : decode cX10_addPlacement 45 = .ok (.getfield 7, 3) := by decide +kernel
theorem dX10_addPlacement_48 : decode cX10_addPlacement 48 = .ok (.ishl, 1) := by decide +kernel
theorem dX10_addPlacement_49 : decode cX10_addPlacement 49 = .ok (.iconst 1, 1) := by decide +kernel
theorem dX10_addPlacement_50 : decode cX10_addPlacement 50 = .ok (.isub, 1) := by decide +kernel
theorem dX10_addPlacement_51 : decode cX10_addPlacement 51 = .ok (.iand, 1) := by decide +kernel
theorem dX10_addPlacement_52 : decode cX10_addPlacement 52 = .ok (.iastore, 1) := by decide +kernel
theorem dX10_addPlacement_53 : decode cX10_addPlacement 53 = .ok (.aload_n 0, 1) := by decide +kernel
theorem dX10_addPlacement_54 : decode cX10_addPlacement 54 = .ok (.getfield 50, 3) := by decide +kernel
theorem dX10_addPlacement_57 : decode cX10_addPlacement 57 = .ok (.iload_n 1, 1) := by decide +kernel
theorem dX10_addPlacement_58 : decode cX10_addPlacement 58 = .ok (.dup2, 1) := by decide +kernel
theorem dX10_addPlacement_59 : decode cX10_addPlacement 59 = .ok (.iaload, 1) := by decide +kernel
theorem dX10_addPlacement_60 : decode cX10_addPlacement 60 = .ok (.iconst 1, 1) := by decide +kernel
theorem dX10_addPlacement_61 : decode cX10_addPlacement 61 = .ok (.iadd, 1) := by decide +kernel
theorem dX10_addPlacement_62 : decode cX10_addPlacement 62 = .ok (.iastore, 1) := by decide +kernel
theorem dX10_addPlacement_63 : decode cX10_addPlacement 63 = .ok (.return_, 1) := by decide +kernel
theorem dX10_findPlacements_0 : decode cX10_findPlacements 0 = .ok (.aload_n 0, 1) := by decide +kernel
theorem dX10_findPlacements_1 : decode cX10_findPlacements 1 = .ok (.getfield 50, 3) := by decide +kernel
theorem dX10_findPlacements_4 : decode cX10_findPlacements 4 = .ok (.iload_n 1, 1) := by decide +kernel
theorem dX10_findPlacements_5 : decode cX10_findPlacements 5 = .ok (.iconst 0, 1) := by decide +kernel
theorem dX10_findPlacements_6 : decode cX10_findPlacements 6 = .ok (.iastore, 1) := by decide +kernel
theorem dX10_findPlacements_7 : decode cX10_findPlacements 7 = .ok (.iconst 0, 1) := by decide +kernel
theorem dX10_findPlacements_8 : decode cX10_findPlacements 8 = .ok (.istore_n 2, 1) := by decide +kernel
theorem dX10_findPlacements_9 : decode cX10_findPlacements 9 = .ok (.iload_n 2, 1) := by decide +kernel
theorem dX10_findPlacements_10 : decode cX10_findPlacements 10 = .ok (.aload_n 0, 1) := by decide +kernel
theorem dX10_findPlacements_11 : decode cX10_findPlacements 11 = .ok (.getfield 7, 3) := by decide +kernel
theorem dX10_findPlacements_14 : decode cX10_findPlacements 14 = .ok (.if_icmp .ge 238, 3) := by decide +kernel
theorem dX10_findPlacements_17 : decode cX10_findPlacements 17 = .ok (.aload_n 0, 1) := by decide +kernel
theorem dX10_findPlacements_18 : decode cX10_findPlacements 18 = .ok (.iload_n 1, 1) := by decide +kernel
theorem dX10_findPlacements_19 : decode cX10_findPlacements 19 = .ok (.iconst 0, 1) := by decide +kernel
theorem dX10_findPlacements_20 : decode cX10_findPlacements 20 = .ok (.iload_n 2, 1) := by decide +kernel
theorem dX10_findPlacements_21 : decode cX10_findPlacements 21 = .ok (.invokevirtual 206, 3) := by decide +kernel
theorem dX10_findPlacements_24 : decode cX10_findPlacements 24 = .ok (.istore_n 3, 1) := by decide +kernel
theorem dX10_findPlacements_25 : decode cX10_findPlacements 25 = .ok (.iload_n 3, 1) := by decide +kernel
theorem dX10_findPlacements_26 : decode cX10_findPlacements 26 = .ok (.ifCond .eq 18, 3) := by decide +kernel
theorem dX10_findPlacements_29 : decode cX10_findPlacements 29 = .ok (.aload_n 0, 1) := by decide +kernel
theorem dX10_findPlacements_30 : decode cX10_findPlacements 30 = .ok (.iload_n 1, 1) := by decide +kernel
theorem dX10_findPlacements_31 : decode cX10_findPlacements 31 = .ok (.invokevirtual 209, 3) := by decide +kernel
theorem dX10_findPlacements_34 : decode cX10_findPlacements 34 = .ok (.iconst 1, 1) := by decide +kernel
theorem dX10_findPlacements_35 : decode cX10_findPlacements 35 = .ok (.if_icmp .ne 9, 3) := by decide +kernel
theorem dX10_findPlacements_38 : decode cX10_findPlacements 38 = .ok (.aload_n 0, 1) := by decide +kernel
theorem dX10_findPlacements_39 : decode cX10_findPlacements 39 = .ok (.iload_n 1, 1) := by decide +kernel
theorem dX10_findPlacements_40 : decode cX10_findPlacements 40 = .ok (.iload_n 3, 1) := by decide +kernel
theorem dX10_findPlacements_41 : decode cX10_findPlacements 41 = .ok (.invokevirtual 212, 3) := by decide +kernel
theorem dX10_findPlacements_44 : decode cX10_findPlacements 44 = .ok (.iload_n 2, 1) := by decide +kernel
theorem dX10_findPlacements_45 : decode cX10_findPlacements 45 = .ok (.aload_n 0, 1) := by decide +kernel
theorem dX10_findPlacements_46 : decode cX10_findPlacements 46 = .ok (.iload_n 1, 1) := by decide +kernel
theorem dX10_findPlacements_47 : decode cX10_findPlacements 47 = .ok (.iconst 0, 1) := by decide +kernel
theorem dX10_findPlacements_48 : decode cX10_findPlacements 48 = .ok (.iconst 0, 1) := by decide +kernel
theorem dX10_findPlacements_49 : decode cX10_findPlacements 49 = .ok (.invokevirtual 194, 3) := by decide +kernel
theorem dX10_findPlacements_52 : decode cX10_findPlacements 52 = .ok (.iadd, 1) := by decide +kernel
theorem dX10_findPlacements_53 : decode cX10_findPlacements 53 = .ok (.istore 4, 2) := by decide +kernel
theorem dX10_findPlacements_55 : decode cX10_findPlacements 55 = .ok (.iload 4, 2) := by decide +kernel
theorem dX10_findPlacements_57 : decode cX10_findPlacements 57 = .ok (.aload_n 0, 1) := by decide +kernel
theorem dX10_findPlacements_58 : decode cX10_findPlacements 58 = .ok (.iload_n 1, 1) := by decide +kernel
theorem dX10_findPlacements_59 : decode cX10_findPlacements 59 = .ok (.invokevirtual 209, 3) := by decide +kernel
theorem dX10_findPlacements_62 : decode cX10_findPlacements 62 = .ok (.iconst 1, 1) := by decide +kernel
theorem dX10_findPlacements_63 : decode cX10_findPlacements 63 = .ok (.if_icmp .le 13, 3) := by decide +kernel
theorem dX10_findPlacements_66 : decode cX10_findPlacements 66 = .ok (.aload_n 0, 1) := by decide +kernel
theorem dX10_findPlacements_67 : decode cX10_findPlacements 67 = .ok (.iload_n 1, 1) := by decide +kernel
theorem dX10_findPlacements_68 : decode cX10_findPlacements 68 = .ok (.iconst 1, 1) := by decide +kernel
theorem dX10_findPlacements_69 : decode cX10_findPlacements 69 = .ok (.iconst 4, 1) := by decide +kernel
theorem dX10_findPlacements_70 : decode cX10_findPlacements 70 = .ok (.invokevirtual 194, 3) := by decide +kernel
theorem dX10_findPlacements_73 : decode cX10_findPlacements 73 = .ok (.goto 4, 3) := by decide +kernel
theorem dX10_findPlacements_76 : decode cX10_findPlacements 76 = .ok (.iconst 0, 1) := by decide +kernel
theorem dX10_findPlacements_77 : decode cX10_findPlacements 77 = .ok (.iadd, 1) := by decide +kernel
theorem dX10_findPlacements_78 : decode cX10_findPlacements 78 = .ok (.istore 5, 2) := by decide +kernel
theorem dX10_findPlacements_80 : decode cX10_findPlacements 80 = .ok (.iload_n 3, 1) := by decide +kernel
theorem dX10_findPlacements_81 : decode cX10_findPlacements 81 = .ok (.ifCond .eq 165, 3) := by decide +kernel
theorem dX10_findPlacements_84 : decode cX10_findPlacements 84 = .ok (.aload_n 0, 1) := by decide +kernel
theorem dX10_findPlacements_85 : decode cX10_findPlacements 85 = .ok (.iload_n 1, 1) := by decide +kernel
theorem dX10_findPlacements_86 : decode cX10_findPlacements 86 = .ok (.invokevirtual 209, 3) := by decide +kernel
theorem dX10_findPlacements_89 : decode cX10_findPlacements 89 = .ok (.iconst 1, 1) := by decide +kernel
theorem dX10_findPlacements_90 : decode cX10_findPlacements 90 = .ok (.if_icmp .le 156, 3) := by decide +kernel
theorem dX10_findPlacements_93 : decode cX10_findPlacements 93 = .ok (.iload 5, 2) := by decide +kernel
theorem dX10_findPlacements_95 : decode cX10_findPlacements 95 = .ok (.iload 4, 2) := by decide +kernel
theorem dX10_findPlacements_97 : decode cX10_findPlacements 97 = .ok (.aload_n 0, 1) := by decide +kernel
theorem dX10_findPlacements_98 : decode cX10_findPlacements 98 = .ok (.iload_n 1, 1) := by decide +kernel
theorem dX10_findPlacements_99 : decode cX10_findPlacements 99 = .ok (.iconst 1, 1) := by decide +kernel
theorem dX10_findPlacements_100 : decode cX10_findPlacements 100 = .ok (.iconst 5, 1) := by decide +kernel
theorem dX10_findPlacements_101 : decode cX10_findPlacements 101 = .ok (.invokevirtual 194, 3) := by decide +kernel
theorem dX10_findPlacements_104 : decode cX10_findPlacements 104 = .ok (.iadd, 1) := by decide +kernel
theorem dX10_findPlacements_105 : decode cX10_findPlacements 105 = .ok (.if_icmp .gt 141, 3) := by decide +kernel
theorem dX10_findPlacements_108 : decode cX10_findPlacements 108 = .ok (.aload_n 0, 1) := by decide +kernel
theorem dX10_findPlacements_109 : decode cX10_findPlacements 109 = .ok (.iload_n 1, 1) := by decide +kernel
theorem dX10_findPlacements_110 : decode cX10_findPlacements 110 = .ok (.iconst 1, 1) := by decide +kernel
theorem dX10_findPlacements_111 : decode cX10_findPlacements 111 = .ok (.iload 5, 2) := by decide +kernel
theorem dX10_findPlacements_113 : decode cX10_findPlacements 113 = .ok (.invokevirtual 206, 3) := by decide +kernel
theorem dX10_findPlacements_116 : decode cX10_findPlacements 116 = .ok (.istore 6, 2) := by decide +kernel
theorem dX10_findPlacements_118 : decode cX10_findPlacements 118 = .ok (.iload 6, 2) := by decide +kernel
theorem dX10_findPlacements_120 : decode cX10_findPlacements 120 = .ok (.ifCond .eq 21, 3) := by decide +kernel
theorem dX10_findPlacements_123 : decode cX10_findPlacements 123 = .ok (.aload_n 0, 1) := by decide +kernel
theorem dX10_findPlacements_124 : decode cX10_findPlacements 124 = .ok (.iload_n 1, 1) := by decide +kernel
theorem dX10_findPlacements_125 : decode cX10_findPlacements 125 = .ok (.invokevirtual 209, 3) := by decide +kernel
theorem dX10_findPlacements_128 : decode cX10_findPlacements 128 = .ok (.iconst 2, 1) := by decide +kernel
theorem dX10_findPlacements_129 : decode cX10_findPlacements 129 = .ok (.if_icmp .ne 12, 3) := by decide +kernel
theorem dX10_findPlacements_132 : decode cX10_findPlacements 132 = .ok (.aload_n 0, 1) := by decide +kernel
theorem dX10_findPlacements_133 : decode cX10_findPlacements 133 = .ok (.iload_n 1, 1) := by decide +kernel
theorem dX10_findPlacements_134 : decode cX10_findPlacements 134 = .ok (.iload_n 3, 1) := by decide +kernel
theorem dX10_findPlacements_135 : decode cX10_findPlacements 135 = .ok (.iload 6, 2) := by decide +kernel
theorem dX10_findPlacements_137 : decode cX10_findPlacements 137 = .ok (.ior, 1) := by decide +kernel
theorem dX10_findPlacements_138 : decode cX10_findPlacements 138 = .ok (.invokevirtual 212, 3) := by decide +kernel
theorem dX10_findPlacements_141 : decode cX10_findPlacements 141 = .ok (.iload 5, 2) := by decide +kernel
theorem dX10_findPlacements_143 : decode cX10_findPlacements 143 = .ok (.aload_n 0, 1) := by decide +kernel
theorem dX10_findPlacements_144 : decode cX10_findPlacements 144 = .ok (.iload_n 1, 1) := by decide +kernel
theorem dX10_findPlacements_145 : decode cX10_findPlacements 145 = .ok (.iconst 1, 1) := by decide +kernel
theorem dX10_findPlacements_146 : decode cX10_findPlacements 146 = .ok (.iconst 0, 1) := by decide +kernel
