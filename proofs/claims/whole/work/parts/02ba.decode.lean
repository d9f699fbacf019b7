theorem dX0_init_0 : decode cX0_init 0 = .ok (.aload_n 0, 1) := by decide +kernel
theorem dX0_init_1 : decode cX0_init 1 = .ok (.invokespecial 5, 3) := by decide +kernel
theorem dX0_init_4 : decode cX0_init 4 = .ok (.aload_n 0, 1) := by decide +kernel
theorem dX0_init_5 : decode cX0_init 5 = .ok (.iconst 5, 1) := by decide +kernel
theorem dX0_init_6 : decode cX0_init 6 = .ok (.bipush 112, 2) := by decide +kernel
theorem dX0_init_8 : decode cX0_init 8 = .ok (.multianewarray 11 2, 4) := by decide +kernel
theorem dX0_init_12 : decode cX0_init 12 = .ok (.putfield 13, 3) := by decide +kernel
theorem dX0_init_15 : decode cX0_init 15 = .ok (.aload_n 0, 1) := by decide +kernel
theorem dX0_init_16 : decode cX0_init 16 = .ok (.iconst 5, 1) := by decide +kernel
theorem dX0_init_17 : decode cX0_init 17 = .ok (.newarray .int, 2) := by decide +kernel
theorem dX0_init_19 : decode cX0_init 19 = .ok (.putfield 16, 3) := by decide +kernel
theorem dX0_init_22 : decode cX0_init 22 = .ok (.aload_n 0, 1) := by decide +kernel
theorem dX0_init_23 : decode cX0_init 23 = .ok (.iconst 3, 1) := by decide +kernel
theorem dX0_init_24 : decode cX0_init 24 = .ok (.newarray .int, 2) := by decide +kernel
theorem dX0_init_26 : decode cX0_init 26 = .ok (.putfield 20, 3) := by decide +kernel
theorem dX0_init_29 : decode cX0_init 29 = .ok (.aload_n 0, 1) := by decide +kernel
theorem dX0_init_30 : decode cX0_init 30 = .ok (.iconst 5, 1) := by decide +kernel
theorem dX0_init_31 : decode cX0_init 31 = .ok (.newarray .int, 2) := by decide +kernel
theorem dX0_init_33 : decode cX0_init 33 = .ok (.putfield 23, 3) := by decide +kernel
theorem dX0_init_36 : decode cX0_init 36 = .ok (.aload_n 0, 1) := by decide +kernel
theorem dX0_init_37 : decode cX0_init 37 = .ok (.iconst 5, 1) := by decide +kernel
theorem dX0_init_38 : decode cX0_init 38 = .ok (.newarray .int, 2) := by decide +kernel
theorem dX0_init_40 : decode cX0_init 40 = .ok (.putfield 26, 3) := by decide +kernel
theorem dX0_init_43 : decode cX0_init 43 = .ok (.aload_n 0, 1) := by decide +kernel
theorem dX0_init_44 : decode cX0_init 44 = .ok (.bipush 32, 2) := by decide +kernel
theorem dX0_init_46 : decode cX0_init 46 = .ok (.newarray .boolean, 2) := by decide +kernel
theorem dX0_init_48 : decode cX0_init 48 = .ok (.putfield 29, 3) := by decide +kernel
theorem dX0_init_51 : decode cX0_init 51 = .ok (.aload_n 0, 1) := by decide +kernel
theorem dX0_init_52 : decode cX0_init 52 = .ok (.bipush 32, 2) := by decide +kernel
theorem dX0_init_54 : decode cX0_init 54 = .ok (.iconst 5, 1) := by decide +kernel
theorem dX0_init_55 : decode cX0_init 55 = .ok (.multianewarray 11 2, 4) := by decide +kernel
theorem dX0_init_59 : decode cX0_init 59 = .ok (.putfield 33, 3) := by decide +kernel
theorem dX0_init_62 : decode cX0_init 62 = .ok (.aload_n 0, 1) := by decide +kernel
theorem dX0_init_63 : decode cX0_init 63 = .ok (.bipush 32, 2) := by decide +kernel
theorem dX0_init_65 : decode cX0_init 65 = .ok (.newarray .int, 2) := by decide +kernel
theorem dX0_init_67 : decode cX0_init 67 = .ok (.putfield 36, 3) := by decide +kernel
theorem dX0_init_70 : decode cX0_init 70 = .ok (.aload_n 0, 1) := by decide +kernel
theorem dX0_init_71 : decode cX0_init 71 = .ok (.bipush 32, 2) := by decide +kernel
theorem dX0_init_73 : decode cX0_init 73 = .ok (.newarray .int, 2) := by decide +kernel
theorem dX0_init_75 : decode cX0_init 75 = .ok (.putfield 39, 3) := by decide +kernel
theorem dX0_init_78 : decode cX0_init 78 = .ok (.aload_n 0, 1) := by decide +kernel
theorem dX0_init_79 : decode cX0_init 79 = .ok (.bipush 32, 2) := by decide +kernel
theorem dX0_init_81 : decode cX0_init 81 = .ok (.newarray .long, 2) := by decide +kernel
theorem dX0_init_83 : decode cX0_init 83 = .ok (.putfield 42, 3) := by decide +kernel
theorem dX0_init_86 : decode cX0_init 86 = .ok (.aload_n 0, 1) := by decide +kernel
theorem dX0_init_87 : decode cX0_init 87 = .ok (.sipush 1024, 3) := by decide +kernel
theorem dX0_init_90 : decode cX0_init 90 = .ok (.newarray .long, 2) := by decide +kernel
theorem dX0_init_92 : decode cX0_init 92 = .ok (.putfield 46, 3) := by decide +kernel
theorem dX0_init_95 : decode cX0_init 95 = .ok (.aload_n 0, 1) := by decide +kernel
theorem dX0_init_96 : decode cX0_init 96 = .ok (.aload_n 1, 1) := by decide +kernel
theorem dX0_init_97 : decode cX0_init 97 = .ok (.putfield 49, 3) := by decide +kernel
theorem dX0_init_100 : decode cX0_init 100 = .ok (.aload_n 0, 1) := by decide +kernel
theorem dX0_init_101 : decode cX0_init 101 = .ok (.aload_n 2, 1) := by decide +kernel
theorem dX0_init_102 : decode cX0_init 102 = .ok (.putfield 53, 3) := by decide +kernel
theorem dX0_init_105 : decode cX0_init 105 = .ok (.return_, 1) := by decide +kernel
theorem dX0_forget_0 : decode cX0_forget 0 = .ok (.aload_n 0, 1) := by decide +kernel
theorem dX0_forget_1 : decode cX0_forget 1 = .ok (.iconst 0, 1) := by decide +kernel
theorem dX0_forget_2 : decode cX0_forget 2 = .ok (.putfield 57, 3) := by decide +kernel
theorem dX0_forget_5 : decode cX0_forget 5 = .ok (.return_, 1) := by decide +kernel
theorem dX0_refresh_0 : decode cX0_refresh 0 = .ok (.aload_n 0, 1) := by decide +kernel
theorem dX0_refresh_1 : decode cX0_refresh 1 = .ok (.getfield 57, 3) := by decide +kernel
theorem dX0_refresh_4 : decode cX0_refresh 4 = .ok (.ifCond .eq 4, 3) := by decide +kernel
theorem dX0_refresh_7 : decode cX0_refresh 7 = .ok (.return_, 1) := by decide +kernel
theorem dX0_refresh_8 : decode cX0_refresh 8 = .ok (.aload_n 0, 1) := by decide +kernel
theorem dX0_refresh_9 : decode cX0_refresh 9 = .ok (.dup, 1) := by decide +kernel
theorem dX0_refresh_10 : decode cX0_refresh 10 = .ok (.getfield 61, 3) := by decide +kernel
theorem dX0_refresh_13 : decode cX0_refresh 13 = .ok (.iconst 1, 1) := by decide +kernel
theorem dX0_refresh_14 : decode cX0_refresh 14 = .ok (.iadd, 1) := by decide +kernel
theorem dX0_refresh_15 : decode cX0_refresh 15 = .ok (.putfield 61, 3) := by decide +kernel
theorem dX0_refresh_18 : decode cX0_refresh 18 = .ok (.iconst 0, 1) := by decide +kernel
theorem dX0_refresh_19 : decode cX0_refresh 19 = .ok (.istore_n 1, 1) := by decide +kernel
theorem dX0_refresh_20 : decode cX0_refresh 20 = .ok (.iload_n 1, 1) := by decide +kernel
theorem dX0_refresh_21 : decode cX0_refresh 21 = .ok (.aload_n 0, 1) := by decide +kernel
theorem dX0_refresh_22 : decode cX0_refresh 22 = .ok (.getfield 53, 3) := by decide +kernel
theorem dX0_refresh_25 : decode cX0_refresh 25 = .ok (.getfield 65, 3) := by decide +kernel
theorem dX0_refresh_28 : decode cX0_refresh 28 = .ok (.if_icmp .ge 14, 3) := by decide +kernel
theorem dX0_refresh_31 : decode cX0_refresh 31 = .ok (.aload_n 0, 1) := by decide +kernel
theorem dX0_refresh_32 : decode cX0_refresh 32 = .ok (.iload_n 1, 1) := by decide +kernel
theorem dX0_refresh_33 : decode cX0_refresh 33 = .ok (.invokevirtual 70, 3) := by decide +kernel
theorem dX0_refresh_36 : decode cX0_refresh 36 = .ok (.iinc 1 1, 3) := by decide +kernel
theorem dX0_refresh_39 : decode cX0_refresh 39 = .ok (.goto (-19), 3) := by decide +kernel
theorem dX0_refresh_42 : decode cX0_refresh 42 = .ok (.iconst 0, 1) := by decide +kernel
theorem dX0_refresh_43 : decode cX0_refresh 43 = .ok (.istore_n 1, 1) := by decide +kernel
theorem dX0_refresh_44 : decode cX0_refresh 44 = .ok (.iload_n 1, 1) := by decide +kernel
theorem dX0_refresh_45 : decode cX0_refresh 45 = .ok (.iconst 1, 1) := by decide +kernel
theorem dX0_refresh_46 : decode cX0_refresh 46 = .ok (.aload_n 0, 1) := by decide +kernel
theorem dX0_refresh_47 : decode cX0_refresh 47 = .ok (.getfield 53, 3) := by decide +kernel
theorem dX0_refresh_50 : decode cX0_refresh 50 = .ok (.getfield 65, 3) := by decide +kernel
theorem dX0_refresh_53 : decode cX0_refresh 53 = .ok (.ishl, 1) := by decide +kernel
theorem dX0_refresh_54 : decode cX0_refresh 54 = .ok (.if_icmp .ge 90, 3) := by decide +kernel
theorem dX0_refresh_57 : decode cX0_refresh 57 = .ok (.aload_n 0, 1) := by decide +kernel
theorem dX0_refresh_58 : decode cX0_refresh 58 = .ok (.iload_n 1, 1) := by decide +kernel
theorem dX0_refresh_59 : decode cX0_refresh 59 = .ok (.invokevirtual 74, 3) := by decide +kernel
theorem dX0_refresh_62 : decode cX0_refresh 62 = .ok (.aload_n 0, 1) := by decide +kernel
theorem dX0_refresh_63 : decode cX0_refresh 63 = .ok (.getfield 29, 3) := by decide +kernel
theorem dX0_refresh_66 : decode cX0_refresh 66 = .ok (.iload_n 1, 1) := by decide +kernel
theorem dX0_refresh_67 : decode cX0_refresh 67 = .ok (.aload_n 0, 1) := by decide +kernel
theorem dX0_refresh_68 : decode cX0_refresh 68 = .ok (.iload_n 1, 1) := by decide +kernel
theorem dX0_refresh_69 : decode cX0_refresh 69 = .ok (.invokevirtual 77, 3) := by decide +kernel
theorem dX0_refresh_72 : decode cX0_refresh 72 = .ok (.ifCond .eq 33, 3) := by decide +kernel
theorem dX0_refresh_75 : decode cX0_refresh 75 = .ok (.aload_n 0, 1) := by decide +kernel
theorem dX0_refresh_76 : decode cX0_refresh 76 = .ok (.getfield 39, 3) := by decide +kernel
theorem dX0_refresh_79 : decode cX0_refresh 79 = .ok (.iload_n 1, 1) := by decide +kernel
theorem dX0_refresh_80 : decode cX0_refresh 80 = .ok (.iaload, 1) := by decide +kernel
theorem dX0_refresh_81 : decode cX0_refresh 81 = .ok (.aload_n 0, 1) := by decide +kernel
theorem dX0_refresh_82 : decode cX0_refresh 82 = .ok (.getfield 49, 3) := by decide +kernel
theorem dX0_refresh_85 : decode cX0_refresh 85 = .ok (.getfield 81, 3) := by decide +kernel
theorem dX0_refresh_88 : decode cX0_refresh 88 = .ok (.if_icmp .gt 17, 3) := by decide +kernel
theorem dX0_refresh_91 : decode cX0_refresh 91 = .ok (.aload_n 0, 1) := by decide +kernel
theorem dX0_refresh_92 : decode cX0_refresh 92 = .ok (.iload_n 1, 1) := by decide +kernel
theorem dX0_refresh_93 : decode cX0_refresh 93 = .ok (.iconst 0, 1) := by decide +kernel
theorem dX0_refresh_94 : decode cX0_refresh 94 = .ok (.lconst 0, 1) := by decide +kernel
theorem dX0_refresh_95 : decode cX0_refresh 95 = .ok (.invokevirtual 86, 3) := by decide +kernel
theorem dX0_refresh_98 : decode cX0_refresh 98 = .ok (.ifCond .eq 7, 3) := by decide +kernel
theorem dX0_refresh_101 : decode cX0_refresh 101 = .ok (.iconst 1, 1) := by decide +kernel
theorem dX0_refresh_102 : decode cX0_refresh 102 = .ok (.goto 4, 3) := by decide +kernel
theorem dX0_refresh_105 : decode cX0_refresh 105 = .ok (.iconst 0, 1) := by decide +kernel
theorem dX0_refresh_106 : decode cX0_refresh 106 = .ok (.bastore, 1) := by decide +kernel
theorem dX0_refresh_107 : decode cX0_refresh 107 = .ok (.aload_n 0, 1) := by decide +kernel
theorem dX0_refresh_108 : decode cX0_refresh 108 = .ok (.getfield 29, 3) := by decide +kernel
theorem dX0_refresh_111 : decode cX0_refresh 111 = .ok (.iload_n 1, 1) := by decide +kernel
theorem dX0_refresh_112 : decode cX0_refresh 112 = .ok (.baload, 1) := by decide +kernel
theorem dX0_refresh_113 : decode cX0_refresh 113 = .ok (.ifCond .eq 25, 3) := by decide +kernel
theorem dX0_refresh_116 : decode cX0_refresh 116 = .ok (.aload_n 0, 1) := by decide +kernel
theorem dX0_refresh_117 : decode cX0_refresh 117 = .ok (.getfield 26, 3) := by decide +kernel
theorem dX0_refresh_120 : decode cX0_refresh 120 = .ok (.iconst 0, 1) := by decide +kernel
theorem dX0_refresh_121 : decode cX0_refresh 121 = .ok (.aload_n 0, 1) := by decide +kernel
theorem dX0_refresh_122 : decode cX0_refresh 122 = .ok (.getfield 33, 3) := by decide +kernel
theorem dX0_refresh_125 : decode cX0_refresh 125 = .ok (.iload_n 1, 1) := by decide +kernel
theorem dX0_refresh_126 : decode cX0_refresh 126 = .ok (.aaload, 1) := by decide +kernel
theorem dX0_refresh_127 : decode cX0_refresh 127 = .ok (.iconst 0, 1) := by decide +kernel
theorem dX0_refresh_128 : decode cX0_refresh 128 = .ok (.aload_n 0, 1) := by decide +kernel
theorem dX0_refresh_129 : decode cX0_refresh 129 = .ok (.getfield 53, 3) := by decide +kernel
theorem dX0_refresh_132 : decode cX0_refresh 132 = .ok (.getfield 65, 3) := by decide +kernel
theorem dX0_refresh_135 : decode cX0_refresh 135 = .ok (.invokestatic 90, 3) := by decide +kernel
theorem dX0_refresh_138 : decode cX0_refresh 138 = .ok (.iinc 1 1, 3) := by decide +kernel
theorem dX0_refresh_141 : decode cX0_refresh 141 = .ok (.goto (-97), 3) := by decide +kernel
theorem dX0_refresh_144 : decode cX0_refresh 144 = .ok (.aload_n 0, 1) := by decide +kernel
theorem dX0_refresh_145 : decode cX0_refresh 145 = .ok (.aload_n 0, 1) := by decide +kernel
theorem dX0_refresh_146 : decode cX0_refresh 146 = .ok (.iconst (-1), 1) := by decide +kernel
theorem dX0_refresh_147 : decode cX0_refresh 147 = .ok (.iconst 0, 1) := by decide +kernel
theorem dX0_refresh_148 : decode cX0_refresh 148 = .ok (.invokevirtual 96, 3) := by decide +kernel
theorem dX0_refresh_151 : decode cX0_refresh 151 = .ok (.putfield 100, 3) := by decide +kernel
theorem dX0_refresh_154 : decode cX0_refresh 154 = .ok (.aload_n 0, 1) := by decide +kernel
theorem dX0_refresh_155 : decode cX0_refresh 155 = .ok (.iconst 1, 1) := by decide +kernel
theorem dX0_refresh_156 : decode cX0_refresh 156 = .ok (.putfield 57, 3) := by decide +kernel
theorem dX0_refresh_159 : decode cX0_refresh 159 = .ok (.return_, 1) := by decide +kernel
theorem dX0_bestWorth_0 : decode cX0_bestWorth 0 = .ok (.aload_n 0, 1) := by decide +kernel
theorem dX0_bestWorth_1 : decode cX0_bestWorth 1 = .ok (.getfield 36, 3) := by decide +kernel
theorem dX0_bestWorth_4 : decode cX0_bestWorth 4 = .ok (.aload_n 0, 1) := by decide +kernel
theorem dX0_bestWorth_5 : decode cX0_bestWorth 5 = .ok (.getfield 100, 3) := by decide +kernel
theorem dX0_bestWorth_8 : decode cX0_bestWorth 8 = .ok (.iaload, 1) := by decide +kernel
theorem dX0_bestWorth_9 : decode cX0_bestWorth 9 = .ok (.ireturn, 1) := by decide +kernel
theorem dX0_bestSlots_0 : decode cX0_bestSlots 0 = .ok (.iconst 0, 1) := by decide +kernel
theorem dX0_bestSlots_1 : decode cX0_bestSlots 1 = .ok (.istore_n 1, 1) := by decide +kernel
theorem dX0_bestSlots_2 : decode cX0_bestSlots 2 = .ok (.iconst 0, 1) := by decide +kernel
theorem dX0_bestSlots_3 : decode cX0_bestSlots 3 = .ok (.istore_n 2, 1) := by decide +kernel
theorem dX0_bestSlots_4 : decode cX0_bestSlots 4 = .ok (.iload_n 2, 1) := by decide +kernel
theorem dX0_bestSlots_5 : decode cX0_bestSlots 5 = .ok (.aload_n 0, 1) := by decide +kernel
theorem dX0_bestSlots_6 : decode cX0_bestSlots 6 = .ok (.getfield 53, 3) := by decide +kernel
theorem dX0_bestSlots_9 : decode cX0_bestSlots 9 = .ok (.getfield 65, 3) := by decide +kernel
theorem dX0_bestSlots_12 : decode cX0_bestSlots 12 = .ok (.if_icmp .ge 28, 3) := by decide +kernel
theorem dX0_bestSlots_15 : decode cX0_bestSlots 15 = .ok (.aload_n 0, 1) := by decide +kernel
theorem dX0_bestSlots_16 : decode cX0_bestSlots 16 = .ok (.getfield 100, 3) := by decide +kernel
theorem dX0_bestSlots_19 : decode cX0_bestSlots 19 = .ok (.iload_n 2, 1) := by decide +kernel
theorem dX0_bestSlots_20 : decode cX0_bestSlots 20 = .ok (.invokestatic 103, 3) := by decide +kernel
theorem dX0_bestSlots_23 : decode cX0_bestSlots 23 = .ok (.ifCond .eq 11, 3) := by decide +kernel
theorem dX0_bestSlots_26 : decode cX0_bestSlots 26 = .ok (.iload_n 1, 1) := by decide +kernel
theorem dX0_bestSlots_27 : decode cX0_bestSlots 27 = .ok (.aload_n 0, 1) := by decide +kernel
theorem dX0_bestSlots_28 : decode cX0_bestSlots 28 = .ok (.iload_n 2, 1) := by decide +kernel
theorem dX0_bestSlots_29 : decode cX0_bestSlots 29 = .ok (.invokevirtual 107, 3) := by decide +kernel
theorem dX0_bestSlots_32 : decode cX0_bestSlots 32 = .ok (.ior, 1) := by decide +kernel
theorem dX0_bestSlots_33 : decode cX0_bestSlots 33 = .ok (.istore_n 1, 1) := by decide +kernel
theorem dX0_bestSlots_34 : decode cX0_bestSlots 34 = .ok (.iinc 2 1, 3) := by decide +kernel
theorem dX0_bestSlots_37 : decode cX0_bestSlots 37 = .ok (.goto (-33), 3) := by decide +kernel
theorem dX0_bestSlots_40 : decode cX0_bestSlots 40 = .ok (.iload_n 1, 1) := by decide +kernel
theorem dX0_bestSlots_41 : decode cX0_bestSlots 41 = .ok (.ireturn, 1) := by decide +kernel
theorem dX0_placeOf_0 : decode cX0_placeOf 0 = .ok (.aload_n 0, 1) := by decide +kernel
theorem dX0_placeOf_1 : decode cX0_placeOf 1 = .ok (.getfield 100, 3) := by decide +kernel
theorem dX0_placeOf_4 : decode cX0_placeOf 4 = .ok (.iload_n 1, 1) := by decide +kernel
theorem dX0_placeOf_5 : decode cX0_placeOf 5 = .ok (.invokestatic 103, 3) := by decide +kernel
theorem dX0_placeOf_8 : decode cX0_placeOf 8 = .ok (.ifCond .eq 17, 3) := by decide +kernel
theorem dX0_placeOf_11 : decode cX0_placeOf 11 = .ok (.aload_n 0, 1) := by decide +kernel
theorem dX0_placeOf_12 : decode cX0_placeOf 12 = .ok (.getfield 33, 3) := by decide +kernel
theorem dX0_placeOf_15 : decode cX0_placeOf 15 = .ok (.aload_n 0, 1) := by decide +kernel
theorem dX0_placeOf_16 : decode cX0_placeOf 16 = .ok (.getfield 100, 3) := by decide +kernel
theorem dX0_placeOf_19 : decode cX0_placeOf 19 = .ok (.aaload, 1) := by decide +kernel
theorem dX0_placeOf_20 : decode cX0_placeOf 20 = .ok (.iload_n 1, 1) := by decide +kernel
theorem dX0_placeOf_21 : decode cX0_placeOf 21 = .ok (.iaload, 1) := by decide +kernel
theorem dX0_placeOf_22 : decode cX0_placeOf 22 = .ok (.goto 4, 3) := by decide +kernel
theorem dX0_placeOf_25 : decode cX0_placeOf 25 = .ok (.iconst (-1), 1) := by decide +kernel
theorem dX0_placeOf_26 : decode cX0_placeOf 26 = .ok (.ireturn, 1) := by decide +kernel
theorem dX0_priceOf_0 : decode cX0_priceOf 0 = .ok (.iconst 1, 1) := by decide +kernel
theorem dX0_priceOf_1 : decode cX0_priceOf 1 = .ok (.istore_n 2, 1) := by decide +kernel
theorem dX0_priceOf_2 : decode cX0_priceOf 2 = .ok (.bipush 100, 2) := by decide +kernel
theorem dX0_priceOf_4 : decode cX0_priceOf 4 = .ok (.istore_n 3, 1) := by decide +kernel
theorem dX0_priceOf_5 : decode cX0_priceOf 5 = .ok (.iconst 0, 1) := by decide +kernel
theorem dX0_priceOf_6 : decode cX0_priceOf 6 = .ok (.istore 4, 2) := by decide +kernel
theorem dX0_priceOf_8 : decode cX0_priceOf 8 = .ok (.iload 4, 2) := by decide +kernel
theorem dX0_priceOf_10 : decode cX0_priceOf 10 = .ok (.bipush 7, 2) := by decide +kernel
theorem dX0_priceOf_12 : decode cX0_priceOf 12 = .ok (.if_icmp .ge 46, 3) := by decide +kernel
theorem dX0_priceOf_15 : decode cX0_priceOf 15 = .ok (.iload_n 2, 1) := by decide +kernel
theorem dX0_priceOf_16 : decode cX0_priceOf 16 = .ok (.iload_n 3, 1) := by decide +kernel
theorem dX0_priceOf_17 : decode cX0_priceOf 17 = .ok (.if_icmp .ge 41, 3) := by decide +kernel
theorem dX0_priceOf_20 : decode cX0_priceOf 20 = .ok (.iload_n 2, 1) := by decide +kernel
theorem dX0_priceOf_21 : decode cX0_priceOf 21 = .ok (.iload_n 3, 1) := by decide +kernel
theorem dX0_priceOf_22 : decode cX0_priceOf 22 = .ok (.iadd, 1) := by decide +kernel
theorem dX0_priceOf_23 : decode cX0_priceOf 23 = .ok (.iconst 2, 1) := by decide +kernel
theorem dX0_priceOf_24 : decode cX0_priceOf 24 = .ok (.idiv, 1) := by decide +kernel
theorem dX0_priceOf_25 : decode cX0_priceOf 25 = .ok (.istore 5, 2) := by decide +kernel
theorem dX0_priceOf_27 : decode cX0_priceOf 27 = .ok (.aload_n 0, 1) := by decide +kernel
theorem dX0_priceOf_28 : decode cX0_priceOf 28 = .ok (.iload_n 1, 1) := by decide +kernel
theorem dX0_priceOf_29 : decode cX0_priceOf 29 = .ok (.iload 5, 2) := by decide +kernel
theorem dX0_priceOf_31 : decode cX0_priceOf 31 = .ok (.invokevirtual 96, 3) := by decide +kernel
theorem dX0_priceOf_34 : decode cX0_priceOf 34 = .ok (.iload_n 1, 1) := by decide +kernel
theorem dX0_priceOf_35 : decode cX0_priceOf 35 = .ok (.invokestatic 103, 3) := by decide +kernel
theorem dX0_priceOf_38 : decode cX0_priceOf 38 = .ok (.ifCond .eq 9, 3) := by decide +kernel
theorem dX0_priceOf_41 : decode cX0_priceOf 41 = .ok (.iload 5, 2) := by decide +kernel
theorem dX0_priceOf_43 : decode cX0_priceOf 43 = .ok (.istore_n 3, 1) := by decide +kernel
theorem dX0_priceOf_44 : decode cX0_priceOf 44 = .ok (.goto 8, 3) := by decide +kernel
theorem dX0_priceOf_47 : decode cX0_priceOf 47 = .ok (.iload 5, 2) := by decide +kernel
theorem dX0_priceOf_49 : decode cX0_priceOf 49 = .ok (.iconst 1, 1) := by decide +kernel
theorem dX0_priceOf_50 : decode cX0_priceOf 50 = .ok (.iadd, 1) := by decide +kernel
theorem dX0_priceOf_51 : decode cX0_priceOf 51 = .ok (.istore_n 2, 1) := by decide +kernel
theorem dX0_priceOf_52 : decode cX0_priceOf 52 = .ok (.iinc 4 1, 3) := by decide +kernel
theorem dX0_priceOf_55 : decode cX0_priceOf 55 = .ok (.goto (-47), 3) := by decide +kernel
theorem dX0_priceOf_58 : decode cX0_priceOf 58 = .ok (.iload_n 2, 1) := by decide +kernel
theorem dX0_priceOf_59 : decode cX0_priceOf 59 = .ok (.bipush 99, 2) := by decide +kernel
theorem dX0_priceOf_61 : decode cX0_priceOf 61 = .ok (.if_icmp .gt 7, 3) := by decide +kernel
theorem dX0_priceOf_64 : decode cX0_priceOf 64 = .ok (.iload_n 2, 1) := by decide +kernel
theorem dX0_priceOf_65 : decode cX0_priceOf 65 = .ok (.goto 4, 3) := by decide +kernel
theorem dX0_priceOf_68 : decode cX0_priceOf 68 = .ok (.iconst (-1), 1) := by decide +kernel
theorem dX0_priceOf_69 : decode cX0_priceOf 69 = .ok (.ireturn, 1) := by decide +kernel
theorem dX0_whyEmpty_0 : decode cX0_whyEmpty 0 = .ok (.aload_n 0, 1) := by decide +kernel
theorem dX0_whyEmpty_1 : decode cX0_whyEmpty 1 = .ok (.invokevirtual 111, 3) := by decide +kernel
theorem dX0_whyEmpty_4 : decode cX0_whyEmpty 4 = .ok (.iload_n 1, 1) := by decide +kernel
theorem dX0_whyEmpty_5 : decode cX0_whyEmpty 5 = .ok (.invokestatic 103, 3) := by decide +kernel
theorem dX0_whyEmpty_8 : decode cX0_whyEmpty 8 = .ok (.ifCond .eq 5, 3) := by decide +kernel
theorem dX0_whyEmpty_11 : decode cX0_whyEmpty 11 = .ok (.iconst 0, 1) := by decide +kernel
theorem dX0_whyEmpty_12 : decode cX0_whyEmpty 12 = .ok (.ireturn, 1) := by decide +kernel
theorem dX0_whyEmpty_13 : decode cX0_whyEmpty 13 = .ok (.aload_n 0, 1) := by decide +kernel
theorem dX0_whyEmpty_14 : decode cX0_whyEmpty 14 = .ok (.invokevirtual 115, 3) := by decide +kernel
theorem dX0_whyEmpty_17 : decode cX0_whyEmpty 17 = .ok (.lstore_n 2, 1) := by decide +kernel
theorem dX0_whyEmpty_18 : decode cX0_whyEmpty 18 = .ok (.iconst 1, 1) := by decide +kernel
theorem dX0_whyEmpty_19 : decode cX0_whyEmpty 19 = .ok (.istore 4, 2) := by decide +kernel
theorem dX0_whyEmpty_21 : decode cX0_whyEmpty 21 = .ok (.iconst 0, 1) := by decide +kernel
theorem dX0_whyEmpty_22 : decode cX0_whyEmpty 22 = .ok (.istore 5, 2) := by decide +kernel
theorem dX0_whyEmpty_24 : decode cX0_whyEmpty 24 = .ok (.iload 5, 2) := by decide +kernel
theorem dX0_whyEmpty_26 : decode cX0_whyEmpty 26 = .ok (.aload_n 0, 1) := by decide +kernel
theorem dX0_whyEmpty_27 : decode cX0_whyEmpty 27 = .ok (.getfield 53, 3) := by decide +kernel
theorem dX0_whyEmpty_30 : decode cX0_whyEmpty 30 = .ok (.getfield 65, 3) := by decide +kernel
theorem dX0_whyEmpty_33 : decode cX0_whyEmpty 33 = .ok (.if_icmp .ge 100, 3) := by decide +kernel
theorem dX0_whyEmpty_36 : decode cX0_whyEmpty 36 = .ok (.aload_n 0, 1) := by decide +kernel
theorem dX0_whyEmpty_37 : decode cX0_whyEmpty 37 = .ok (.getfield 100, 3) := by decide +kernel
theorem dX0_whyEmpty_40 : decode cX0_whyEmpty 40 = .ok (.iload 5, 2) := by decide +kernel
theorem dX0_whyEmpty_42 : decode cX0_whyEmpty 42 = .ok (.invokestatic 103, 3) := by decide +kernel
theorem dX0_whyEmpty_45 : decode cX0_whyEmpty 45 = .ok (.ifCond .eq 6, 3) := by decide +kernel
theorem dX0_whyEmpty_48 : decode cX0_whyEmpty 48 = .ok (.goto 79, 3) := by decide +kernel
theorem dX0_whyEmpty_51 : decode cX0_whyEmpty 51 = .ok (.iconst 0, 1) := by decide +kernel
theorem dX0_whyEmpty_52 : decode cX0_whyEmpty 52 = .ok (.istore 6, 2) := by decide +kernel
theorem dX0_whyEmpty_54 : decode cX0_whyEmpty 54 = .ok (.iload 6, 2) := by decide +kernel
theorem dX0_whyEmpty_56 : decode cX0_whyEmpty 56 = .ok (.aload_n 0, 1) := by decide +kernel
theorem dX0_whyEmpty_57 : decode cX0_whyEmpty 57 = .ok (.getfield 16, 3) := by decide +kernel
theorem dX0_whyEmpty_60 : decode cX0_whyEmpty 60 = .ok (.iload 5, 2) := by decide +kernel
theorem dX0_whyEmpty_62 : decode cX0_whyEmpty 62 = .ok (.iaload, 1) := by decide +kernel
theorem dX0_whyEmpty_63 : decode cX0_whyEmpty 63 = .ok (.if_icmp .ge 64, 3) := by decide +kernel
theorem dX0_whyEmpty_66 : decode cX0_whyEmpty 66 = .ok (.aload_n 0, 1) := by decide +kernel
theorem dX0_whyEmpty_67 : decode cX0_whyEmpty 67 = .ok (.getfield 13, 3) := by decide +kernel
theorem dX0_whyEmpty_70 : decode cX0_whyEmpty 70 = .ok (.iload 5, 2) := by decide +kernel
theorem dX0_whyEmpty_72 : decode cX0_whyEmpty 72 = .ok (.aaload, 1) := by decide +kernel
theorem dX0_whyEmpty_73 : decode cX0_whyEmpty 73 = .ok (.iload 6, 2) := by decide +kernel
theorem dX0_whyEmpty_75 : decode cX0_whyEmpty 75 = .ok (.iaload, 1) := by decide +kernel
theorem dX0_whyEmpty_76 : decode cX0_whyEmpty 76 = .ok (.iload_n 1, 1) := by decide +kernel
theorem dX0_whyEmpty_77 : decode cX0_whyEmpty 77 = .ok (.invokestatic 103, 3) := by decide +kernel
theorem dX0_whyEmpty_80 : decode cX0_whyEmpty 80 = .ok (.ifCond .ne 6, 3) := by decide +kernel
theorem dX0_whyEmpty_83 : decode cX0_whyEmpty 83 = .ok (.goto 38, 3) := by decide +kernel
theorem dX0_whyEmpty_86 : decode cX0_whyEmpty 86 = .ok (.aload_n 0, 1) := by decide +kernel
theorem dX0_whyEmpty_87 : decode cX0_whyEmpty 87 = .ok (.getfield 13, 3) := by decide +kernel
theorem dX0_whyEmpty_90 : decode cX0_whyEmpty 90 = .ok (.iload 5, 2) := by decide +kernel
theorem dX0_whyEmpty_92 : decode cX0_whyEmpty 92 = .ok (.aaload, 1) := by decide +kernel
theorem dX0_whyEmpty_93 : decode cX0_whyEmpty 93 = .ok (.iload 6, 2) := by decide +kernel
theorem dX0_whyEmpty_95 : decode cX0_whyEmpty 95 = .ok (.iaload, 1) := by decide +kernel
theorem dX0_whyEmpty_96 : decode cX0_whyEmpty 96 = .ok (.aload_n 0, 1) := by decide +kernel
theorem dX0_whyEmpty_97 : decode cX0_whyEmpty 97 = .ok (.getfield 53, 3) := by decide +kernel
theorem dX0_whyEmpty_100 : decode cX0_whyEmpty 100 = .ok (.getfield 119, 3) := by decide +kernel
theorem dX0_whyEmpty_103 : decode cX0_whyEmpty 103 = .ok (.iload 5, 2) := by decide +kernel
theorem dX0_whyEmpty_105 : decode cX0_whyEmpty 105 = .ok (.aaload, 1) := by decide +kernel
theorem dX0_whyEmpty_106 : decode cX0_whyEmpty 106 = .ok (.getfield 123, 3) := by decide +kernel
theorem dX0_whyEmpty_109 : decode cX0_whyEmpty 109 = .ok (.lload_n 2, 1) := by decide +kernel
theorem dX0_whyEmpty_110 : decode cX0_whyEmpty 110 = .ok (.invokestatic 128, 3) := by decide +kernel
theorem dX0_whyEmpty_113 : decode cX0_whyEmpty 113 = .ok (.ifCond .eq 5, 3) := by decide +kernel
theorem dX0_whyEmpty_116 : decode cX0_whyEmpty 116 = .ok (.iconst 3, 1) := by decide +kernel
theorem dX0_whyEmpty_117 : decode cX0_whyEmpty 117 = .ok (.ireturn, 1) := by decide +kernel
theorem dX0_whyEmpty_118 : decode cX0_whyEmpty 118 = .ok (.iconst 2, 1) := by decide +kernel
theorem dX0_whyEmpty_119 : decode cX0_whyEmpty 119 = .ok (.istore 4, 2) := by decide +kernel
theorem dX0_whyEmpty_121 : decode cX0_whyEmpty 121 = .ok (.iinc 6 1, 3) := by decide +kernel
theorem dX0_whyEmpty_124 : decode cX0_whyEmpty 124 = .ok (.goto (-70), 3) := by decide +kernel
theorem dX0_whyEmpty_127 : decode cX0_whyEmpty 127 = .ok (.iinc 5 1, 3) := by decide +kernel
theorem dX0_whyEmpty_130 : decode cX0_whyEmpty 130 = .ok (.goto (-106), 3) := by decide +kernel
theorem dX0_whyEmpty_133 : decode cX0_whyEmpty 133 = .ok (.iload 4, 2) := by decide +kernel
theorem dX0_whyEmpty_135 : decode cX0_whyEmpty 135 = .ok (.ireturn, 1) := by decide +kernel
theorem dX0_seekBegin_0 : decode cX0_seekBegin 0 = .ok (.aload_n 0, 1) := by decide +kernel
theorem dX0_seekBegin_1 : decode cX0_seekBegin 1 = .ok (.iconst (-1), 1) := by decide +kernel
theorem dX0_seekBegin_2 : decode cX0_seekBegin 2 = .ok (.putfield 131, 3) := by decide +kernel
theorem dX0_seekBegin_5 : decode cX0_seekBegin 5 = .ok (.aload_n 0, 1) := by decide +kernel
theorem dX0_seekBegin_6 : decode cX0_seekBegin 6 = .ok (.iconst (-1), 1) := by decide +kernel
theorem dX0_seekBegin_7 : decode cX0_seekBegin 7 = .ok (.putfield 134, 3) := by decide +kernel
theorem dX0_seekBegin_10 : decode cX0_seekBegin 10 = .ok (.aload_n 0, 1) := by decide +kernel
theorem dX0_seekBegin_11 : decode cX0_seekBegin 11 = .ok (.getfield 49, 3) := by decide +kernel
theorem dX0_seekBegin_14 : decode cX0_seekBegin 14 = .ok (.aload_n 0, 1) := by decide +kernel
theorem dX0_seekBegin_15 : decode cX0_seekBegin 15 = .ok (.getfield 49, 3) := by decide +kernel
theorem dX0_seekBegin_18 : decode cX0_seekBegin 18 = .ok (.getfield 137, 3) := by decide +kernel
theorem dX0_seekBegin_21 : decode cX0_seekBegin 21 = .ok (.iload_n 1, 1) := by decide +kernel
theorem dX0_seekBegin_22 : decode cX0_seekBegin 22 = .ok (.aaload, 1) := by decide +kernel
theorem dX0_seekBegin_23 : decode cX0_seekBegin 23 = .ok (.aload_n 3, 1) := by decide +kernel
theorem dX0_seekBegin_24 : decode cX0_seekBegin 24 = .ok (.invokevirtual 141, 3) := by decide +kernel
theorem dX0_seekBegin_27 : decode cX0_seekBegin 27 = .ok (.istore 6, 2) := by decide +kernel
theorem dX0_seekBegin_29 : decode cX0_seekBegin 29 = .ok (.iload 4, 2) := by decide +kernel
theorem dX0_seekBegin_31 : decode cX0_seekBegin 31 = .ok (.istore 7, 2) := by decide +kernel
theorem dX0_seekBegin_33 : decode cX0_seekBegin 33 = .ok (.iload 7, 2) := by decide +kernel
theorem dX0_seekBegin_35 : decode cX0_seekBegin 35 = .ok (.iload 5, 2) := by decide +kernel
theorem dX0_seekBegin_37 : decode cX0_seekBegin 37 = .ok (.if_icmp .gt 83, 3) := by decide +kernel
theorem dX0_seekBegin_40 : decode cX0_seekBegin 40 = .ok (.aload_n 0, 1) := by decide +kernel
theorem dX0_seekBegin_41 : decode cX0_seekBegin 41 = .ok (.getfield 134, 3) := by decide +kernel
theorem dX0_seekBegin_44 : decode cX0_seekBegin 44 = .ok (.ifCond .eq 76, 3) := by decide +kernel
theorem dX0_seekBegin_47 : decode cX0_seekBegin 47 = .ok (.iload 6, 2) := by decide +kernel
theorem dX0_seekBegin_49 : decode cX0_seekBegin 49 = .ok (.iload 7, 2) := by decide +kernel
theorem dX0_seekBegin_51 : decode cX0_seekBegin 51 = .ok (.invokestatic 103, 3) := by decide +kernel
theorem dX0_seekBegin_54 : decode cX0_seekBegin 54 = .ok (.ifCond .eq 60, 3) := by decide +kernel
theorem dX0_seekBegin_57 : decode cX0_seekBegin 57 = .ok (.iload 7, 2) := by decide +kernel
theorem dX0_seekBegin_59 : decode cX0_seekBegin 59 = .ok (.aload_n 3, 1) := by decide +kernel
theorem dX0_seekBegin_60 : decode cX0_seekBegin 60 = .ok (.getfield 145, 3) := by decide +kernel
theorem dX0_seekBegin_63 : decode cX0_seekBegin 63 = .ok (.invokestatic 150, 3) := by decide +kernel
theorem dX0_seekBegin_66 : decode cX0_seekBegin 66 = .ok (.istore 8, 2) := by decide +kernel
theorem dX0_seekBegin_68 : decode cX0_seekBegin 68 = .ok (.aload_n 0, 1) := by decide +kernel
theorem dX0_seekBegin_69 : decode cX0_seekBegin 69 = .ok (.invokevirtual 153, 3) := by decide +kernel
theorem dX0_seekBegin_72 : decode cX0_seekBegin 72 = .ok (.aload_n 0, 1) := by decide +kernel
theorem dX0_seekBegin_73 : decode cX0_seekBegin 73 = .ok (.iload 8, 2) := by decide +kernel
theorem dX0_seekBegin_75 : decode cX0_seekBegin 75 = .ok (.iload_n 2, 1) := by decide +kernel
theorem dX0_seekBegin_76 : decode cX0_seekBegin 76 = .ok (.invokestatic 156, 3) := by decide +kernel
theorem dX0_seekBegin_79 : decode cX0_seekBegin 79 = .ok (.invokevirtual 160, 3) := by decide +kernel
theorem dX0_seekBegin_82 : decode cX0_seekBegin 82 = .ok (.isub, 1) := by decide +kernel
theorem dX0_seekBegin_83 : decode cX0_seekBegin 83 = .ok (.istore 9, 2) := by decide +kernel
theorem dX0_seekBegin_85 : decode cX0_seekBegin 85 = .ok (.aload_n 0, 1) := by decide +kernel
theorem dX0_seekBegin_86 : decode cX0_seekBegin 86 = .ok (.getfield 131, 3) := by decide +kernel
theorem dX0_seekBegin_89 : decode cX0_seekBegin 89 = .ok (.iconst (-1), 1) := by decide +kernel
theorem dX0_seekBegin_90 : decode cX0_seekBegin 90 = .ok (.if_icmp .eq 12, 3) := by decide +kernel
theorem dX0_seekBegin_93 : decode cX0_seekBegin 93 = .ok (.iload 9, 2) := by decide +kernel
theorem dX0_seekBegin_95 : decode cX0_seekBegin 95 = .ok (.aload_n 0, 1) := by decide +kernel
theorem dX0_seekBegin_96 : decode cX0_seekBegin 96 = .ok (.getfield 134, 3) := by decide +kernel
theorem dX0_seekBegin_99 : decode cX0_seekBegin 99 = .ok (.if_icmp .ge 15, 3) := by decide +kernel
theorem dX0_seekBegin_102 : decode cX0_seekBegin 102 = .ok (.aload_n 0, 1) := by decide +kernel
theorem dX0_seekBegin_103 : decode cX0_seekBegin 103 = .ok (.iload 7, 2) := by decide +kernel
theorem dX0_seekBegin_105 : decode cX0_seekBegin 105 = .ok (.putfield 131, 3) := by decide +kernel
theorem dX0_seekBegin_108 : decode cX0_seekBegin 108 = .ok (.aload_n 0, 1) := by decide +kernel
theorem dX0_seekBegin_109 : decode cX0_seekBegin 109 = .ok (.iload 9, 2) := by decide +kernel
theorem dX0_seekBegin_111 : decode cX0_seekBegin 111 = .ok (.putfield 134, 3) := by decide +kernel
theorem dX0_seekBegin_114 : decode cX0_seekBegin 114 = .ok (.iinc 7 1, 3) := by decide +kernel
theorem dX0_seekBegin_117 : decode cX0_seekBegin 117 = .ok (.goto (-84), 3) := by decide +kernel
theorem dX0_seekBegin_120 : decode cX0_seekBegin 120 = .ok (.return_, 1) := by decide +kernel
theorem dX0_mostBeside_0 : decode cX0_mostBeside 0 = .ok (.iconst 0, 1) := by decide +kernel
theorem dX0_mostBeside_1 : decode cX0_mostBeside 1 = .ok (.istore_n 3, 1) := by decide +kernel
theorem dX0_mostBeside_2 : decode cX0_mostBeside 2 = .ok (.iconst 1, 1) := by decide +kernel
theorem dX0_mostBeside_3 : decode cX0_mostBeside 3 = .ok (.istore 4, 2) := by decide +kernel
theorem dX0_mostBeside_5 : decode cX0_mostBeside 5 = .ok (.iload 4, 2) := by decide +kernel
theorem dX0_mostBeside_7 : decode cX0_mostBeside 7 = .ok (.iconst 1, 1) := by decide +kernel
theorem dX0_mostBeside_8 : decode cX0_mostBeside 8 = .ok (.aload_n 0, 1) := by decide +kernel
theorem dX0_mostBeside_9 : decode cX0_mostBeside 9 = .ok (.getfield 53, 3) := by decide +kernel
theorem dX0_mostBeside_12 : decode cX0_mostBeside 12 = .ok (.getfield 65, 3) := by decide +kernel
theorem dX0_mostBeside_15 : decode cX0_mostBeside 15 = .ok (.ishl, 1) := by decide +kernel
theorem dX0_mostBeside_16 : decode cX0_mostBeside 16 = .ok (.if_icmp .ge 49, 3) := by decide +kernel
theorem dX0_mostBeside_19 : decode cX0_mostBeside 19 = .ok (.aload_n 0, 1) := by decide +kernel
theorem dX0_mostBeside_20 : decode cX0_mostBeside 20 = .ok (.getfield 29, 3) := by decide +kernel
theorem dX0_mostBeside_23 : decode cX0_mostBeside 23 = .ok (.iload 4, 2) := by decide +kernel
theorem dX0_mostBeside_25 : decode cX0_mostBeside 25 = .ok (.baload, 1) := by decide +kernel
theorem dX0_mostBeside_26 : decode cX0_mostBeside 26 = .ok (.ifCond .eq 33, 3) := by decide +kernel
theorem dX0_mostBeside_29 : decode cX0_mostBeside 29 = .ok (.aload_n 0, 1) := by decide +kernel
theorem dX0_mostBeside_30 : decode cX0_mostBeside 30 = .ok (.getfield 36, 3) := by decide +kernel
theorem dX0_mostBeside_33 : decode cX0_mostBeside 33 = .ok (.iload 4, 2) := by decide +kernel
theorem dX0_mostBeside_35 : decode cX0_mostBeside 35 = .ok (.iaload, 1) := by decide +kernel
theorem dX0_mostBeside_36 : decode cX0_mostBeside 36 = .ok (.iload_n 3, 1) := by decide +kernel
theorem dX0_mostBeside_37 : decode cX0_mostBeside 37 = .ok (.if_icmp .le 22, 3) := by decide +kernel
theorem dX0_mostBeside_40 : decode cX0_mostBeside 40 = .ok (.aload_n 0, 1) := by decide +kernel
theorem dX0_mostBeside_41 : decode cX0_mostBeside 41 = .ok (.iload 4, 2) := by decide +kernel
theorem dX0_mostBeside_43 : decode cX0_mostBeside 43 = .ok (.iconst 0, 1) := by decide +kernel
theorem dX0_mostBeside_44 : decode cX0_mostBeside 44 = .ok (.lload_n 1, 1) := by decide +kernel
theorem dX0_mostBeside_45 : decode cX0_mostBeside 45 = .ok (.invokevirtual 86, 3) := by decide +kernel
theorem dX0_mostBeside_48 : decode cX0_mostBeside 48 = .ok (.ifCond .eq 11, 3) := by decide +kernel
theorem dX0_mostBeside_51 : decode cX0_mostBeside 51 = .ok (.aload_n 0, 1) := by decide +kernel
theorem dX0_mostBeside_52 : decode cX0_mostBeside 52 = .ok (.getfield 36, 3) := by decide +kernel
theorem dX0_mostBeside_55 : decode cX0_mostBeside 55 = .ok (.iload 4, 2) := by decide +kernel
theorem dX0_mostBeside_57 : decode cX0_mostBeside 57 = .ok (.iaload, 1) := by decide +kernel
theorem dX0_mostBeside_58 : decode cX0_mostBeside 58 = .ok (.istore_n 3, 1) := by decide +kernel
theorem dX0_mostBeside_59 : decode cX0_mostBeside 59 = .ok (.iinc 4 1, 3) := by decide +kernel
theorem dX0_mostBeside_62 : decode cX0_mostBeside 62 = .ok (.goto (-57), 3) := by decide +kernel
theorem dX0_mostBeside_65 : decode cX0_mostBeside 65 = .ok (.iload_n 3, 1) := by decide +kernel
theorem dX0_mostBeside_66 : decode cX0_mostBeside 66 = .ok (.ireturn, 1) := by decide +kernel
theorem dX0_bestMask_0 : decode cX0_bestMask 0 = .ok (.aload_n 0, 1) := by decide +kernel
theorem dX0_bestMask_1 : decode cX0_bestMask 1 = .ok (.getfield 13, 3) := by decide +kernel
theorem dX0_bestMask_4 : decode cX0_bestMask 4 = .ok (.iload_n 1, 1) := by decide +kernel
theorem dX0_bestMask_5 : decode cX0_bestMask 5 = .ok (.aaload, 1) := by decide +kernel
theorem dX0_bestMask_6 : decode cX0_bestMask 6 = .ok (.aload_n 0, 1) := by decide +kernel
theorem dX0_bestMask_7 : decode cX0_bestMask 7 = .ok (.getfield 33, 3) := by decide +kernel
theorem dX0_bestMask_10 : decode cX0_bestMask 10 = .ok (.aload_n 0, 1) := by decide +kernel
theorem dX0_bestMask_11 : decode cX0_bestMask 11 = .ok (.getfield 100, 3) := by decide +kernel
theorem dX0_bestMask_14 : decode cX0_bestMask 14 = .ok (.aaload, 1) := by decide +kernel
theorem dX0_bestMask_15 : decode cX0_bestMask 15 = .ok (.iload_n 1, 1) := by decide +kernel
theorem dX0_bestMask_16 : decode cX0_bestMask 16 = .ok (.iaload, 1) := by decide +kernel
theorem dX0_bestMask_17 : decode cX0_bestMask 17 = .ok (.iaload, 1) := by decide +kernel
theorem dX0_bestMask_18 : decode cX0_bestMask 18 = .ok (.ireturn, 1) := by decide +kernel
theorem dX0_takenByBest_0 : decode cX0_takenByBest 0 = .ok (.lconst 0, 1) := by decide +kernel
theorem dX0_takenByBest_1 : decode cX0_takenByBest 1 = .ok (.lstore_n 1, 1) := by decide +kernel
theorem dX0_takenByBest_2 : decode cX0_takenByBest 2 = .ok (.iconst 0, 1) := by decide +kernel
theorem dX0_takenByBest_3 : decode cX0_takenByBest 3 = .ok (.istore_n 3, 1) := by decide +kernel
theorem dX0_takenByBest_4 : decode cX0_takenByBest 4 = .ok (.iload_n 3, 1) := by decide +kernel
theorem dX0_takenByBest_5 : decode cX0_takenByBest 5 = .ok (.aload_n 0, 1) := by decide +kernel
theorem dX0_takenByBest_6 : decode cX0_takenByBest 6 = .ok (.getfield 53, 3) := by decide +kernel
theorem dX0_takenByBest_9 : decode cX0_takenByBest 9 = .ok (.getfield 65, 3) := by decide +kernel
theorem dX0_takenByBest_12 : decode cX0_takenByBest 12 = .ok (.if_icmp .ge 43, 3) := by decide +kernel
theorem dX0_takenByBest_15 : decode cX0_takenByBest 15 = .ok (.aload_n 0, 1) := by decide +kernel
theorem dX0_takenByBest_16 : decode cX0_takenByBest 16 = .ok (.getfield 100, 3) := by decide +kernel
theorem dX0_takenByBest_19 : decode cX0_takenByBest 19 = .ok (.iload_n 3, 1) := by decide +kernel
theorem dX0_takenByBest_20 : decode cX0_takenByBest 20 = .ok (.invokestatic 103, 3) := by decide +kernel
theorem dX0_takenByBest_23 : decode cX0_takenByBest 23 = .ok (.ifCond .eq 26, 3) := by decide +kernel
theorem dX0_takenByBest_26 : decode cX0_takenByBest 26 = .ok (.lload_n 1, 1) := by decide +kernel
theorem dX0_takenByBest_27 : decode cX0_takenByBest 27 = .ok (.aload_n 0, 1) := by decide +kernel
theorem dX0_takenByBest_28 : decode cX0_takenByBest 28 = .ok (.iload_n 3, 1) := by decide +kernel
theorem dX0_takenByBest_29 : decode cX0_takenByBest 29 = .ok (.invokevirtual 107, 3) := by decide +kernel
theorem dX0_takenByBest_32 : decode cX0_takenByBest 32 = .ok (.aload_n 0, 1) := by decide +kernel
theorem dX0_takenByBest_33 : decode cX0_takenByBest 33 = .ok (.getfield 53, 3) := by decide +kernel
theorem dX0_takenByBest_36 : decode cX0_takenByBest 36 = .ok (.getfield 119, 3) := by decide +kernel
theorem dX0_takenByBest_39 : decode cX0_takenByBest 39 = .ok (.iload_n 3, 1) := by decide +kernel
theorem dX0_takenByBest_40 : decode cX0_takenByBest 40 = .ok (.aaload, 1) := by decide +kernel
theorem dX0_takenByBest_41 : decode cX0_takenByBest 41 = .ok (.getfield 123, 3) := by decide +kernel
theorem dX0_takenByBest_44 : decode cX0_takenByBest 44 = .ok (.invokestatic 156, 3) := by decide +kernel
theorem dX0_takenByBest_47 : decode cX0_takenByBest 47 = .ok (.lor, 1) := by decide +kernel
theorem dX0_takenByBest_48 : decode cX0_takenByBest 48 = .ok (.lstore_n 1, 1) := by decide +kernel
theorem dX0_takenByBest_49 : decode cX0_takenByBest 49 = .ok (.iinc 3 1, 3) := by decide +kernel
theorem dX0_takenByBest_52 : decode cX0_takenByBest 52 = .ok (.goto (-48), 3) := by decide +kernel
theorem dX0_takenByBest_55 : decode cX0_takenByBest 55 = .ok (.lload_n 1, 1) := by decide +kernel
theorem dX0_takenByBest_56 : decode cX0_takenByBest 56 = .ok (.lreturn, 1) := by decide +kernel
theorem dX0_gatherPlacements_0 : decode cX0_gatherPlacements 0 = .ok (.aload_n 0, 1) := by decide +kernel
theorem dX0_gatherPlacements_1 : decode cX0_gatherPlacements 1 = .ok (.getfield 53, 3) := by decide +kernel
theorem dX0_gatherPlacements_4 : decode cX0_gatherPlacements 4 = .ok (.getfield 119, 3) := by decide +kernel
theorem dX0_gatherPlacements_7 : decode cX0_gatherPlacements 7 = .ok (.iload_n 1, 1) := by decide +kernel
theorem dX0_gatherPlacements_8 : decode cX0_gatherPlacements 8 = .ok (.aaload, 1) := by decide +kernel
theorem dX0_gatherPlacements_9 : decode cX0_gatherPlacements 9 = .ok (.astore_n 2, 1) := by decide +kernel
theorem dX0_gatherPlacements_10 : decode cX0_gatherPlacements 10 = .ok (.iconst 0, 1) := by decide +kernel
theorem dX0_gatherPlacements_11 : decode cX0_gatherPlacements 11 = .ok (.istore_n 3, 1) := by decide +kernel
theorem dX0_gatherPlacements_12 : decode cX0_gatherPlacements 12 = .ok (.iload_n 3, 1) := by decide +kernel
theorem dX0_gatherPlacements_13 : decode cX0_gatherPlacements 13 = .ok (.aload_n 2, 1) := by decide +kernel
theorem dX0_gatherPlacements_14 : decode cX0_gatherPlacements 14 = .ok (.getfield 164, 3) := by decide +kernel
theorem dX0_gatherPlacements_17 : decode cX0_gatherPlacements 17 = .ok (.if_icmp .ge 40, 3) := by decide +kernel
theorem dX0_gatherPlacements_20 : decode cX0_gatherPlacements 20 = .ok (.aload_n 0, 1) := by decide +kernel
theorem dX0_gatherPlacements_21 : decode cX0_gatherPlacements 21 = .ok (.getfield 20, 3) := by decide +kernel
theorem dX0_gatherPlacements_24 : decode cX0_gatherPlacements 24 = .ok (.iload_n 3, 1) := by decide +kernel
theorem dX0_gatherPlacements_25 : decode cX0_gatherPlacements 25 = .ok (.aload_n 0, 1) := by decide +kernel
theorem dX0_gatherPlacements_26 : decode cX0_gatherPlacements 26 = .ok (.getfield 49, 3) := by decide +kernel
theorem dX0_gatherPlacements_29 : decode cX0_gatherPlacements 29 = .ok (.aload_n 0, 1) := by decide +kernel
theorem dX0_gatherPlacements_30 : decode cX0_gatherPlacements 30 = .ok (.getfield 49, 3) := by decide +kernel
theorem dX0_gatherPlacements_33 : decode cX0_gatherPlacements 33 = .ok (.getfield 137, 3) := by decide +kernel
theorem dX0_gatherPlacements_36 : decode cX0_gatherPlacements 36 = .ok (.aload_n 2, 1) := by decide +kernel
theorem dX0_gatherPlacements_37 : decode cX0_gatherPlacements 37 = .ok (.getfield 167, 3) := by decide +kernel
theorem dX0_gatherPlacements_40 : decode cX0_gatherPlacements 40 = .ok (.aaload, 1) := by decide +kernel
theorem dX0_gatherPlacements_41 : decode cX0_gatherPlacements 41 = .ok (.aload_n 2, 1) := by decide +kernel
theorem dX0_gatherPlacements_42 : decode cX0_gatherPlacements 42 = .ok (.getfield 170, 3) := by decide +kernel
theorem dX0_gatherPlacements_45 : decode cX0_gatherPlacements 45 = .ok (.iload_n 3, 1) := by decide +kernel
theorem dX0_gatherPlacements_46 : decode cX0_gatherPlacements 46 = .ok (.aaload, 1) := by decide +kernel
theorem dX0_gatherPlacements_47 : decode cX0_gatherPlacements 47 = .ok (.invokevirtual 141, 3) := by decide +kernel
theorem dX0_gatherPlacements_50 : decode cX0_gatherPlacements 50 = .ok (.iastore, 1) := by decide +kernel
theorem dX0_gatherPlacements_51 : decode cX0_gatherPlacements 51 = .ok (.iinc 3 1, 3) := by decide +kernel
theorem dX0_gatherPlacements_54 : decode cX0_gatherPlacements 54 = .ok (.goto (-42), 3) := by decide +kernel
theorem dX0_gatherPlacements_57 : decode cX0_gatherPlacements 57 = .ok (.aload_n 0, 1) := by decide +kernel
theorem dX0_gatherPlacements_58 : decode cX0_gatherPlacements 58 = .ok (.getfield 16, 3) := by decide +kernel
theorem dX0_gatherPlacements_61 : decode cX0_gatherPlacements 61 = .ok (.iload_n 1, 1) := by decide +kernel
theorem dX0_gatherPlacements_62 : decode cX0_gatherPlacements 62 = .ok (.iconst 0, 1) := by decide +kernel
theorem dX0_gatherPlacements_63 : decode cX0_gatherPlacements 63 = .ok (.iastore, 1) := by decide +kernel
theorem dX0_gatherPlacements_64 : decode cX0_gatherPlacements 64 = .ok (.aload_n 0, 1) := by decide +kernel
theorem dX0_gatherPlacements_65 : decode cX0_gatherPlacements 65 = .ok (.getfield 23, 3) := by decide +kernel
theorem dX0_gatherPlacements_68 : decode cX0_gatherPlacements 68 = .ok (.iload_n 1, 1) := by decide +kernel
theorem dX0_gatherPlacements_69 : decode cX0_gatherPlacements 69 = .ok (.iconst 0, 1) := by decide +kernel
theorem dX0_gatherPlacements_70 : decode cX0_gatherPlacements 70 = .ok (.iastore, 1) := by decide +kernel
theorem dX0_gatherPlacements_71 : decode cX0_gatherPlacements 71 = .ok (.aload_n 0, 1) := by decide +kernel
theorem dX0_gatherPlacements_72 : decode cX0_gatherPlacements 72 = .ok (.iload_n 1, 1) := by decide +kernel
theorem dX0_gatherPlacements_73 : decode cX0_gatherPlacements 73 = .ok (.iconst 0, 1) := by decide +kernel
theorem dX0_gatherPlacements_74 : decode cX0_gatherPlacements 74 = .ok (.iconst 0, 1) := by decide +kernel
theorem dX0_gatherPlacements_75 : decode cX0_gatherPlacements 75 = .ok (.aload_n 0, 1) := by decide +kernel
theorem dX0_gatherPlacements_76 : decode cX0_gatherPlacements 76 = .ok (.getfield 49, 3) := by decide +kernel
theorem dX0_gatherPlacements_79 : decode cX0_gatherPlacements 79 = .ok (.getfield 81, 3) := by decide +kernel
theorem dX0_gatherPlacements_82 : decode cX0_gatherPlacements 82 = .ok (.iconst 1, 1) := by decide +kernel
theorem dX0_gatherPlacements_83 : decode cX0_gatherPlacements 83 = .ok (.isub, 1) := by decide +kernel
theorem dX0_gatherPlacements_84 : decode cX0_gatherPlacements 84 = .ok (.iconst 0, 1) := by decide +kernel
theorem dX0_gatherPlacements_85 : decode cX0_gatherPlacements 85 = .ok (.invokevirtual 174, 3) := by decide +kernel
theorem dX0_gatherPlacements_88 : decode cX0_gatherPlacements 88 = .ok (.return_, 1) := by decide +kernel
theorem dX0_gatherSteps_0 : decode cX0_gatherSteps 0 = .ok (.aload_n 0, 1) := by decide +kernel
theorem dX0_gatherSteps_1 : decode cX0_gatherSteps 1 = .ok (.getfield 53, 3) := by decide +kernel
theorem dX0_gatherSteps_4 : decode cX0_gatherSteps 4 = .ok (.getfield 119, 3) := by decide +kernel
theorem dX0_gatherSteps_7 : decode cX0_gatherSteps 7 = .ok (.iload_n 1, 1) := by decide +kernel
theorem dX0_gatherSteps_8 : decode cX0_gatherSteps 8 = .ok (.aaload, 1) := by decide +kernel
theorem dX0_gatherSteps_9 : decode cX0_gatherSteps 9 = .ok (.astore 6, 2) := by decide +kernel
theorem dX0_gatherSteps_11 : decode cX0_gatherSteps 11 = .ok (.iload_n 2, 1) := by decide +kernel
theorem dX0_gatherSteps_12 : decode cX0_gatherSteps 12 = .ok (.aload 6, 2) := by decide +kernel
theorem dX0_gatherSteps_14 : decode cX0_gatherSteps 14 = .ok (.getfield 164, 3) := by decide +kernel
theorem dX0_gatherSteps_17 : decode cX0_gatherSteps 17 = .ok (.if_icmp .lt 11, 3) := by decide +kernel
theorem dX0_gatherSteps_20 : decode cX0_gatherSteps 20 = .ok (.aload_n 0, 1) := by decide +kernel
theorem dX0_gatherSteps_21 : decode cX0_gatherSteps 21 = .ok (.iload_n 1, 1) := by decide +kernel
theorem dX0_gatherSteps_22 : decode cX0_gatherSteps 22 = .ok (.iload 5, 2) := by decide +kernel
theorem dX0_gatherSteps_24 : decode cX0_gatherSteps 24 = .ok (.invokevirtual 178, 3) := by decide +kernel
theorem dX0_gatherSteps_27 : decode cX0_gatherSteps 27 = .ok (.return_, 1) := by decide +kernel
theorem dX0_gatherSteps_28 : decode cX0_gatherSteps 28 = .ok (.aload 6, 2) := by decide +kernel
theorem dX0_gatherSteps_30 : decode cX0_gatherSteps 30 = .ok (.getfield 170, 3) := by decide +kernel
theorem dX0_gatherSteps_33 : decode cX0_gatherSteps 33 = .ok (.iload_n 2, 1) := by decide +kernel
theorem dX0_gatherSteps_34 : decode cX0_gatherSteps 34 = .ok (.aaload, 1) := by decide +kernel
theorem dX0_gatherSteps_35 : decode cX0_gatherSteps 35 = .ok (.getfield 145, 3) := by decide +kernel
theorem dX0_gatherSteps_38 : decode cX0_gatherSteps 38 = .ok (.istore 7, 2) := by decide +kernel
theorem dX0_gatherSteps_40 : decode cX0_gatherSteps 40 = .ok (.iload_n 3, 1) := by decide +kernel
theorem dX0_gatherSteps_41 : decode cX0_gatherSteps 41 = .ok (.istore 8, 2) := by decide +kernel
theorem dX0_gatherSteps_43 : decode cX0_gatherSteps 43 = .ok (.iload 8, 2) := by decide +kernel
theorem dX0_gatherSteps_45 : decode cX0_gatherSteps 45 = .ok (.iload 4, 2) := by decide +kernel
theorem dX0_gatherSteps_47 : decode cX0_gatherSteps 47 = .ok (.if_icmp .gt 134, 3) := by decide +kernel
theorem dX0_gatherSteps_50 : decode cX0_gatherSteps 50 = .ok (.iload 8, 2) := by decide +kernel
theorem dX0_gatherSteps_52 : decode cX0_gatherSteps 52 = .ok (.aload_n 0, 1) := by decide +kernel
theorem dX0_gatherSteps_53 : decode cX0_gatherSteps 53 = .ok (.getfield 49, 3) := by decide +kernel
theorem dX0_gatherSteps_56 : decode cX0_gatherSteps 56 = .ok (.getfield 81, 3) := by decide +kernel
theorem dX0_gatherSteps_59 : decode cX0_gatherSteps 59 = .ok (.if_icmp .ge 122, 3) := by decide +kernel
theorem dX0_gatherSteps_62 : decode cX0_gatherSteps 62 = .ok (.aload_n 0, 1) := by decide +kernel
theorem dX0_gatherSteps_63 : decode cX0_gatherSteps 63 = .ok (.getfield 20, 3) := by decide +kernel
theorem dX0_gatherSteps_66 : decode cX0_gatherSteps 66 = .ok (.iload_n 2, 1) := by decide +kernel
theorem dX0_gatherSteps_67 : decode cX0_gatherSteps 67 = .ok (.iaload, 1) := by decide +kernel
theorem dX0_gatherSteps_68 : decode cX0_gatherSteps 68 = .ok (.iload 8, 2) := by decide +kernel
theorem dX0_gatherSteps_70 : decode cX0_gatherSteps 70 = .ok (.invokestatic 103, 3) := by decide +kernel
theorem dX0_gatherSteps_73 : decode cX0_gatherSteps 73 = .ok (.ifCond .eq 102, 3) := by decide +kernel
theorem dX0_gatherSteps_76 : decode cX0_gatherSteps 76 = .ok (.iload 8, 2) := by decide +kernel
theorem dX0_gatherSteps_78 : decode cX0_gatherSteps 78 = .ok (.iload 7, 2) := by decide +kernel
theorem dX0_gatherSteps_80 : decode cX0_gatherSteps 80 = .ok (.iadd, 1) := by decide +kernel
theorem dX0_gatherSteps_81 : decode cX0_gatherSteps 81 = .ok (.istore 9, 2) := by decide +kernel
theorem dX0_gatherSteps_83 : decode cX0_gatherSteps 83 = .ok (.iload_n 2, 1) := by decide +kernel
theorem dX0_gatherSteps_84 : decode cX0_gatherSteps 84 = .ok (.iconst 1, 1) := by decide +kernel
theorem dX0_gatherSteps_85 : decode cX0_gatherSteps 85 = .ok (.iadd, 1) := by decide +kernel
theorem dX0_gatherSteps_86 : decode cX0_gatherSteps 86 = .ok (.aload 6, 2) := by decide +kernel
theorem dX0_gatherSteps_88 : decode cX0_gatherSteps 88 = .ok (.getfield 164, 3) := by decide +kernel
theorem dX0_gatherSteps_91 : decode cX0_gatherSteps 91 = .ok (.if_icmp .ge 7, 3) := by decide +kernel
theorem dX0_gatherSteps_94 : decode cX0_gatherSteps 94 = .ok (.iconst 1, 1) := by decide +kernel
theorem dX0_gatherSteps_95 : decode cX0_gatherSteps 95 = .ok (.goto 4, 3) := by decide +kernel
theorem dX0_gatherSteps_98 : decode cX0_gatherSteps 98 = .ok (.iconst 0, 1) := by decide +kernel
theorem dX0_gatherSteps_99 : decode cX0_gatherSteps 99 = .ok (.istore 10, 2) := by decide +kernel
theorem dX0_gatherSteps_101 : decode cX0_gatherSteps 101 = .ok (.iload 10, 2) := by decide +kernel
theorem dX0_gatherSteps_103 : decode cX0_gatherSteps 103 = .ok (.ifCond .eq 18, 3) := by decide +kernel
theorem dX0_gatherSteps_106 : decode cX0_gatherSteps 106 = .ok (.aload 6, 2) := by decide +kernel
theorem dX0_gatherSteps_108 : decode cX0_gatherSteps 108 = .ok (.getfield 170, 3) := by decide +kernel
theorem dX0_gatherSteps_111 : decode cX0_gatherSteps 111 = .ok (.iload_n 2, 1) := by decide +kernel
theorem dX0_gatherSteps_112 : decode cX0_gatherSteps 112 = .ok (.iconst 1, 1) := by decide +kernel
theorem dX0_gatherSteps_113 : decode cX0_gatherSteps 113 = .ok (.iadd, 1) := by decide +kernel
theorem dX0_gatherSteps_114 : decode cX0_gatherSteps 114 = .ok (.aaload, 1) := by decide +kernel
theorem dX0_gatherSteps_115 : decode cX0_gatherSteps 115 = .ok (.getfield 182, 3) := by decide +kernel
theorem dX0_gatherSteps_118 : decode cX0_gatherSteps 118 = .ok (.goto 4, 3) := by decide +kernel
theorem dX0_gatherSteps_121 : decode cX0_gatherSteps 121 = .ok (.iconst 0, 1) := by decide +kernel
theorem dX0_gatherSteps_122 : decode cX0_gatherSteps 122 = .ok (.istore 11, 2) := by decide +kernel
theorem dX0_gatherSteps_124 : decode cX0_gatherSteps 124 = .ok (.iload 10, 2) := by decide +kernel
theorem dX0_gatherSteps_126 : decode cX0_gatherSteps 126 = .ok (.ifCond .eq 18, 3) := by decide +kernel
theorem dX0_gatherSteps_129 : decode cX0_gatherSteps 129 = .ok (.aload 6, 2) := by decide +kernel
theorem dX0_gatherSteps_131 : decode cX0_gatherSteps 131 = .ok (.getfield 170, 3) := by decide +kernel
theorem dX0_gatherSteps_134 : decode cX0_gatherSteps 134 = .ok (.iload_n 2, 1) := by decide +kernel
theorem dX0_gatherSteps_135 : decode cX0_gatherSteps 135 = .ok (.iconst 1, 1) := by decide +kernel
theorem dX0_gatherSteps_136 : decode cX0_gatherSteps 136 = .ok (.iadd, 1) := by decide +kernel
theorem dX0_gatherSteps_137 : decode cX0_gatherSteps 137 = .ok (.aaload, 1) := by decide +kernel
theorem dX0_gatherSteps_138 : decode cX0_gatherSteps 138 = .ok (.getfield 185, 3) := by decide +kernel
theorem dX0_gatherSteps_141 : decode cX0_gatherSteps 141 = .ok (.goto 4, 3) := by decide +kernel
theorem dX0_gatherSteps_144 : decode cX0_gatherSteps 144 = .ok (.iconst 0, 1) := by decide +kernel
theorem dX0_gatherSteps_145 : decode cX0_gatherSteps 145 = .ok (.istore 12, 2) := by decide +kernel
theorem dX0_gatherSteps_147 : decode cX0_gatherSteps 147 = .ok (.aload_n 0, 1) := by decide +kernel
theorem dX0_gatherSteps_148 : decode cX0_gatherSteps 148 = .ok (.iload_n 1, 1) := by decide +kernel
theorem dX0_gatherSteps_149 : decode cX0_gatherSteps 149 = .ok (.iload_n 2, 1) := by decide +kernel
theorem dX0_gatherSteps_150 : decode cX0_gatherSteps 150 = .ok (.iconst 1, 1) := by decide +kernel
theorem dX0_gatherSteps_151 : decode cX0_gatherSteps 151 = .ok (.iadd, 1) := by decide +kernel
theorem dX0_gatherSteps_152 : decode cX0_gatherSteps 152 = .ok (.iload 9, 2) := by decide +kernel
theorem dX0_gatherSteps_154 : decode cX0_gatherSteps 154 = .ok (.iload 11, 2) := by decide +kernel
theorem dX0_gatherSteps_156 : decode cX0_gatherSteps 156 = .ok (.iadd, 1) := by decide +kernel
theorem dX0_gatherSteps_157 : decode cX0_gatherSteps 157 = .ok (.iload 9, 2) := by decide +kernel
theorem dX0_gatherSteps_159 : decode cX0_gatherSteps 159 = .ok (.iload 12, 2) := by decide +kernel
theorem dX0_gatherSteps_161 : decode cX0_gatherSteps 161 = .ok (.iadd, 1) := by decide +kernel
theorem dX0_gatherSteps_162 : decode cX0_gatherSteps 162 = .ok (.iload 5, 2) := by decide +kernel
theorem dX0_gatherSteps_164 : decode cX0_gatherSteps 164 = .ok (.iload 8, 2) := by decide +kernel
theorem dX0_gatherSteps_166 : decode cX0_gatherSteps 166 = .ok (.iload 7, 2) := by decide +kernel
theorem dX0_gatherSteps_168 : decode cX0_gatherSteps 168 = .ok (.invokestatic 150, 3) := by decide +kernel
theorem dX0_gatherSteps_171 : decode cX0_gatherSteps 171 = .ok (.ior, 1) := by decide +kernel
theorem dX0_gatherSteps_172 : decode cX0_gatherSteps 172 = .ok (.invokevirtual 174, 3) := by decide +kernel
theorem dX0_gatherSteps_175 : decode cX0_gatherSteps 175 = .ok (.iinc 8 1, 3) := by decide +kernel
theorem dX0_gatherSteps_178 : decode cX0_gatherSteps 178 = .ok (.goto (-135), 3) := by decide +kernel
theorem dX0_gatherSteps_181 : decode cX0_gatherSteps 181 = .ok (.return_, 1) := by decide +kernel
theorem dX0_keepPlacement_0 : decode cX0_keepPlacement 0 = .ok (.aload_n 0, 1) := by decide +kernel
theorem dX0_keepPlacement_1 : decode cX0_keepPlacement 1 = .ok (.getfield 16, 3) := by decide +kernel
theorem dX0_keepPlacement_4 : decode cX0_keepPlacement 4 = .ok (.iload_n 1, 1) := by decide +kernel
theorem dX0_keepPlacement_5 : decode cX0_keepPlacement 5 = .ok (.iaload, 1) := by decide +kernel
theorem dX0_keepPlacement_6 : decode cX0_keepPlacement 6 = .ok (.bipush 112, 2) := by decide +kernel
theorem dX0_keepPlacement_8 : decode cX0_keepPlacement 8 = .ok (.if_icmp .ge 37, 3) := by decide +kernel
theorem dX0_keepPlacement_11 : decode cX0_keepPlacement 11 = .ok (.aload_n 0, 1) := by decide +kernel
theorem dX0_keepPlacement_12 : decode cX0_keepPlacement 12 = .ok (.getfield 13, 3) := by decide +kernel
theorem dX0_keepPlacement_15 : decode cX0_keepPlacement 15 = .ok (.iload_n 1, 1) := by decide +kernel
theorem dX0_keepPlacement_16 : decode cX0_keepPlacement 16 = .ok (.aaload, 1) := by decide +kernel
theorem dX0_keepPlacement_17 : decode cX0_keepPlacement 17 = .ok (.aload_n 0, 1) := by decide +kernel
theorem dX0_keepPlacement_18 : decode cX0_keepPlacement 18 = .ok (.getfield 16, 3) := by decide +kernel
theorem dX0_keepPlacement_21 : decode cX0_keepPlacement 21 = .ok (.iload_n 1, 1) := by decide +kernel
theorem dX0_keepPlacement_22 : decode cX0_keepPlacement 22 = .ok (.iaload, 1) := by decide +kernel
theorem dX0_keepPlacement_23 : decode cX0_keepPlacement 23 = .ok (.iload_n 2, 1) := by decide +kernel
theorem dX0_keepPlacement_24 : decode cX0_keepPlacement 24 = .ok (.iastore, 1) := by decide +kernel
theorem dX0_keepPlacement_25 : decode cX0_keepPlacement 25 = .ok (.aload_n 0, 1) := by decide +kernel
theorem dX0_keepPlacement_26 : decode cX0_keepPlacement 26 = .ok (.getfield 16, 3) := by decide +kernel
theorem dX0_keepPlacement_29 : decode cX0_keepPlacement 29 = .ok (.iload_n 1, 1) := by decide +kernel
theorem dX0_keepPlacement_30 : decode cX0_keepPlacement 30 = .ok (.dup2, 1) := by decide +kernel
theorem dX0_keepPlacement_31 : decode cX0_keepPlacement 31 = .ok (.iaload, 1) := by decide +kernel
theorem dX0_keepPlacement_32 : decode cX0_keepPlacement 32 = .ok (.iconst 1, 1) := by decide +kernel
theorem dX0_keepPlacement_33 : decode cX0_keepPlacement 33 = .ok (.iadd, 1) := by decide +kernel
theorem dX0_keepPlacement_34 : decode cX0_keepPlacement 34 = .ok (.iastore, 1) := by decide +kernel
theorem dX0_keepPlacement_35 : decode cX0_keepPlacement 35 = .ok (.aload_n 0, 1) := by decide +kernel
theorem dX0_keepPlacement_36 : decode cX0_keepPlacement 36 = .ok (.getfield 23, 3) := by decide +kernel
theorem dX0_keepPlacement_39 : decode cX0_keepPlacement 39 = .ok (.iload_n 1, 1) := by decide +kernel
theorem dX0_keepPlacement_40 : decode cX0_keepPlacement 40 = .ok (.dup2, 1) := by decide +kernel
theorem dX0_keepPlacement_41 : decode cX0_keepPlacement 41 = .ok (.iaload, 1) := by decide +kernel
theorem dX0_keepPlacement_42 : decode cX0_keepPlacement 42 = .ok (.iload_n 2, 1) := by decide +kernel
theorem dX0_keepPlacement_43 : decode cX0_keepPlacement 43 = .ok (.ior, 1) := by decide +kernel
theorem dX0_keepPlacement_44 : decode cX0_keepPlacement 44 = .ok (.iastore, 1) := by decide +kernel
theorem dX0_keepPlacement_45 : decode cX0_keepPlacement 45 = .ok (.return_, 1) := by decide +kernel
theorem dX0_weigh_0 : decode cX0_weigh 0 = .ok (.iconst 0, 1) := by decide +kernel
theorem dX0_weigh_1 : decode cX0_weigh 1 = .ok (.istore_n 2, 1) := by decide +kernel
theorem dX0_weigh_2 : decode cX0_weigh 2 = .ok (.iload_n 2, 1) := by decide +kernel
theorem dX0_weigh_3 : decode cX0_weigh 3 = .ok (.aload_n 0, 1) := by decide +kernel
theorem dX0_weigh_4 : decode cX0_weigh 4 = .ok (.getfield 53, 3) := by decide +kernel
theorem dX0_weigh_7 : decode cX0_weigh 7 = .ok (.getfield 65, 3) := by decide +kernel
theorem dX0_weigh_10 : decode cX0_weigh 10 = .ok (.if_icmp .ge 17, 3) := by decide +kernel
theorem dX0_weigh_13 : decode cX0_weigh 13 = .ok (.iload_n 1, 1) := by decide +kernel
theorem dX0_weigh_14 : decode cX0_weigh 14 = .ok (.iload_n 2, 1) := by decide +kernel
theorem dX0_weigh_15 : decode cX0_weigh 15 = .ok (.invokestatic 103, 3) := by decide +kernel
theorem dX0_weigh_18 : decode cX0_weigh 18 = .ok (.ifCond .ne 9, 3) := by decide +kernel
theorem dX0_weigh_21 : decode cX0_weigh 21 = .ok (.iinc 2 1, 3) := by decide +kernel
theorem dX0_weigh_24 : decode cX0_weigh 24 = .ok (.goto (-22), 3) := by decide +kernel
theorem dX0_weigh_27 : decode cX0_weigh 27 = .ok (.iload_n 2, 1) := by decide +kernel
theorem dX0_weigh_28 : decode cX0_weigh 28 = .ok (.aload_n 0, 1) := by decide +kernel
theorem dX0_weigh_29 : decode cX0_weigh 29 = .ok (.getfield 53, 3) := by decide +kernel
theorem dX0_weigh_32 : decode cX0_weigh 32 = .ok (.getfield 65, 3) := by decide +kernel
theorem dX0_weigh_35 : decode cX0_weigh 35 = .ok (.if_icmp .lt 4, 3) := by decide +kernel
theorem dX0_weigh_38 : decode cX0_weigh 38 = .ok (.return_, 1) := by decide +kernel
theorem dX0_weigh_39 : decode cX0_weigh 39 = .ok (.aload_n 0, 1) := by decide +kernel
theorem dX0_weigh_40 : decode cX0_weigh 40 = .ok (.getfield 53, 3) := by decide +kernel
theorem dX0_weigh_43 : decode cX0_weigh 43 = .ok (.getfield 119, 3) := by decide +kernel
theorem dX0_weigh_46 : decode cX0_weigh 46 = .ok (.iload_n 2, 1) := by decide +kernel
theorem dX0_weigh_47 : decode cX0_weigh 47 = .ok (.aaload, 1) := by decide +kernel
theorem dX0_weigh_48 : decode cX0_weigh 48 = .ok (.astore_n 3, 1) := by decide +kernel
theorem dX0_weigh_49 : decode cX0_weigh 49 = .ok (.iload_n 1, 1) := by decide +kernel
theorem dX0_weigh_50 : decode cX0_weigh 50 = .ok (.iconst 1, 1) := by decide +kernel
theorem dX0_weigh_51 : decode cX0_weigh 51 = .ok (.iload_n 2, 1) := by decide +kernel
theorem dX0_weigh_52 : decode cX0_weigh 52 = .ok (.ishl, 1) := by decide +kernel
theorem dX0_weigh_53 : decode cX0_weigh 53 = .ok (.iconst (-1), 1) := by decide +kernel
theorem dX0_weigh_54 : decode cX0_weigh 54 = .ok (.ixor, 1) := by decide +kernel
theorem dX0_weigh_55 : decode cX0_weigh 55 = .ok (.iand, 1) := by decide +kernel
theorem dX0_weigh_56 : decode cX0_weigh 56 = .ok (.istore 4, 2) := by decide +kernel
theorem dX0_weigh_58 : decode cX0_weigh 58 = .ok (.aload_n 0, 1) := by decide +kernel
theorem dX0_weigh_59 : decode cX0_weigh 59 = .ok (.getfield 36, 3) := by decide +kernel
theorem dX0_weigh_62 : decode cX0_weigh 62 = .ok (.iload_n 1, 1) := by decide +kernel
theorem dX0_weigh_63 : decode cX0_weigh 63 = .ok (.aload_n 0, 1) := by decide +kernel
theorem dX0_weigh_64 : decode cX0_weigh 64 = .ok (.getfield 36, 3) := by decide +kernel
theorem dX0_weigh_67 : decode cX0_weigh 67 = .ok (.iload 4, 2) := by decide +kernel
theorem dX0_weigh_69 : decode cX0_weigh 69 = .ok (.iaload, 1) := by decide +kernel
theorem dX0_weigh_70 : decode cX0_weigh 70 = .ok (.aload_n 3, 1) := by decide +kernel
theorem dX0_weigh_71 : decode cX0_weigh 71 = .ok (.getfield 188, 3) := by decide +kernel
theorem dX0_weigh_74 : decode cX0_weigh 74 = .ok (.iadd, 1) := by decide +kernel
theorem dX0_weigh_75 : decode cX0_weigh 75 = .ok (.iastore, 1) := by decide +kernel
theorem dX0_weigh_76 : decode cX0_weigh 76 = .ok (.aload_n 0, 1) := by decide +kernel
theorem dX0_weigh_77 : decode cX0_weigh 77 = .ok (.getfield 39, 3) := by decide +kernel
theorem dX0_weigh_80 : decode cX0_weigh 80 = .ok (.iload_n 1, 1) := by decide +kernel
theorem dX0_weigh_81 : decode cX0_weigh 81 = .ok (.aload_n 0, 1) := by decide +kernel
theorem dX0_weigh_82 : decode cX0_weigh 82 = .ok (.getfield 39, 3) := by decide +kernel
theorem dX0_weigh_85 : decode cX0_weigh 85 = .ok (.iload 4, 2) := by decide +kernel
theorem dX0_weigh_87 : decode cX0_weigh 87 = .ok (.iaload, 1) := by decide +kernel
theorem dX0_weigh_88 : decode cX0_weigh 88 = .ok (.aload_n 3, 1) := by decide +kernel
theorem dX0_weigh_89 : decode cX0_weigh 89 = .ok (.invokevirtual 191, 3) := by decide +kernel
theorem dX0_weigh_92 : decode cX0_weigh 92 = .ok (.iadd, 1) := by decide +kernel
theorem dX0_weigh_93 : decode cX0_weigh 93 = .ok (.iastore, 1) := by decide +kernel
theorem dX0_weigh_94 : decode cX0_weigh 94 = .ok (.aload_n 0, 1) := by decide +kernel
theorem dX0_weigh_95 : decode cX0_weigh 95 = .ok (.getfield 42, 3) := by decide +kernel
theorem dX0_weigh_98 : decode cX0_weigh 98 = .ok (.iload_n 1, 1) := by decide +kernel
theorem dX0_weigh_99 : decode cX0_weigh 99 = .ok (.aload_n 0, 1) := by decide +kernel
theorem dX0_weigh_100 : decode cX0_weigh 100 = .ok (.getfield 42, 3) := by decide +kernel
theorem dX0_weigh_103 : decode cX0_weigh 103 = .ok (.iload 4, 2) := by decide +kernel
theorem dX0_weigh_105 : decode cX0_weigh 105 = .ok (.laload, 1) := by decide +kernel
theorem dX0_weigh_106 : decode cX0_weigh 106 = .ok (.aload_n 0, 1) := by decide +kernel
theorem dX0_weigh_107 : decode cX0_weigh 107 = .ok (.getfield 23, 3) := by decide +kernel
theorem dX0_weigh_110 : decode cX0_weigh 110 = .ok (.iload_n 2, 1) := by decide +kernel
theorem dX0_weigh_111 : decode cX0_weigh 111 = .ok (.iaload, 1) := by decide +kernel
theorem dX0_weigh_112 : decode cX0_weigh 112 = .ok (.i2l, 1) := by decide +kernel
theorem dX0_weigh_113 : decode cX0_weigh 113 = .ok (.bipush 16, 2) := by decide +kernel
theorem dX0_weigh_115 : decode cX0_weigh 115 = .ok (.aload_n 3, 1) := by decide +kernel
theorem dX0_weigh_116 : decode cX0_weigh 116 = .ok (.getfield 123, 3) := by decide +kernel
theorem dX0_weigh_119 : decode cX0_weigh 119 = .ok (.imul, 1) := by decide +kernel
theorem dX0_weigh_120 : decode cX0_weigh 120 = .ok (.lshl, 1) := by decide +kernel
theorem dX0_weigh_121 : decode cX0_weigh 121 = .ok (.lor, 1) := by decide +kernel
theorem dX0_weigh_122 : decode cX0_weigh 122 = .ok (.lastore, 1) := by decide +kernel
theorem dX0_weigh_123 : decode cX0_weigh 123 = .ok (.return_, 1) := by decide +kernel
theorem dX0_partsAreAble_0 : decode cX0_partsAreAble 0 = .ok (.iconst 0, 1) := by decide +kernel
theorem dX0_partsAreAble_1 : decode cX0_partsAreAble 1 = .ok (.istore_n 2, 1) := by decide +kernel
theorem dX0_partsAreAble_2 : decode cX0_partsAreAble 2 = .ok (.iload_n 2, 1) := by decide +kernel
theorem dX0_partsAreAble_3 : decode cX0_partsAreAble 3 = .ok (.aload_n 0, 1) := by decide +kernel
theorem dX0_partsAreAble_4 : decode cX0_partsAreAble 4 = .ok (.getfield 53, 3) := by decide +kernel
theorem dX0_partsAreAble_7 : decode cX0_partsAreAble 7 = .ok (.getfield 65, 3) := by decide +kernel
theorem dX0_partsAreAble_10 : decode cX0_partsAreAble 10 = .ok (.if_icmp .ge 34, 3) := by decide +kernel
theorem dX0_partsAreAble_13 : decode cX0_partsAreAble 13 = .ok (.iload_n 1, 1) := by decide +kernel
theorem dX0_partsAreAble_14 : decode cX0_partsAreAble 14 = .ok (.iload_n 2, 1) := by decide +kernel
theorem dX0_partsAreAble_15 : decode cX0_partsAreAble 15 = .ok (.invokestatic 103, 3) := by decide +kernel
theorem dX0_partsAreAble_18 : decode cX0_partsAreAble 18 = .ok (.ifCond .eq 20, 3) := by decide +kernel
theorem dX0_partsAreAble_21 : decode cX0_partsAreAble 21 = .ok (.aload_n 0, 1) := by decide +kernel
theorem dX0_partsAreAble_22 : decode cX0_partsAreAble 22 = .ok (.getfield 29, 3) := by decide +kernel
theorem dX0_partsAreAble_25 : decode cX0_partsAreAble 25 = .ok (.iload_n 1, 1) := by decide +kernel
theorem dX0_partsAreAble_26 : decode cX0_partsAreAble 26 = .ok (.iconst 1, 1) := by decide +kernel
theorem dX0_partsAreAble_27 : decode cX0_partsAreAble 27 = .ok (.iload_n 2, 1) := by decide +kernel
theorem dX0_partsAreAble_28 : decode cX0_partsAreAble 28 = .ok (.ishl, 1) := by decide +kernel
theorem dX0_partsAreAble_29 : decode cX0_partsAreAble 29 = .ok (.iconst (-1), 1) := by decide +kernel
theorem dX0_partsAreAble_30 : decode cX0_partsAreAble 30 = .ok (.ixor, 1) := by decide +kernel
theorem dX0_partsAreAble_31 : decode cX0_partsAreAble 31 = .ok (.iand, 1) := by decide +kernel
theorem dX0_partsAreAble_32 : decode cX0_partsAreAble 32 = .ok (.baload, 1) := by decide +kernel
theorem dX0_partsAreAble_33 : decode cX0_partsAreAble 33 = .ok (.ifCond .ne 5, 3) := by decide +kernel
theorem dX0_partsAreAble_36 : decode cX0_partsAreAble 36 = .ok (.iconst 0, 1) := by decide +kernel
theorem dX0_partsAreAble_37 : decode cX0_partsAreAble 37 = .ok (.ireturn, 1) := by decide +kernel
theorem dX0_partsAreAble_38 : decode cX0_partsAreAble 38 = .ok (.iinc 2 1, 3) := by decide +kernel
theorem dX0_partsAreAble_41 : decode cX0_partsAreAble 41 = .ok (.goto (-39), 3) := by decide +kernel
theorem dX0_partsAreAble_44 : decode cX0_partsAreAble 44 = .ok (.iconst 1, 1) := by decide +kernel
theorem dX0_partsAreAble_45 : decode cX0_partsAreAble 45 = .ok (.ireturn, 1) := by decide +kernel
theorem dX0_settle_0 : decode cX0_settle 0 = .ok (.iload_n 2, 1) := by decide +kernel
theorem dX0_settle_1 : decode cX0_settle 1 = .ok (.aload_n 0, 1) := by decide +kernel
theorem dX0_settle_2 : decode cX0_settle 2 = .ok (.getfield 53, 3) := by decide +kernel
theorem dX0_settle_5 : decode cX0_settle 5 = .ok (.getfield 65, 3) := by decide +kernel
theorem dX0_settle_8 : decode cX0_settle 8 = .ok (.if_icmp .lt 5, 3) := by decide +kernel
theorem dX0_settle_11 : decode cX0_settle 11 = .ok (.iconst 1, 1) := by decide +kernel
theorem dX0_settle_12 : decode cX0_settle 12 = .ok (.ireturn, 1) := by decide +kernel
theorem dX0_settle_13 : decode cX0_settle 13 = .ok (.iload_n 1, 1) := by decide +kernel
theorem dX0_settle_14 : decode cX0_settle 14 = .ok (.iload_n 2, 1) := by decide +kernel
theorem dX0_settle_15 : decode cX0_settle 15 = .ok (.invokestatic 103, 3) := by decide +kernel
theorem dX0_settle_18 : decode cX0_settle 18 = .ok (.ifCond .ne 21, 3) := by decide +kernel
theorem dX0_settle_21 : decode cX0_settle 21 = .ok (.aload_n 0, 1) := by decide +kernel
theorem dX0_settle_22 : decode cX0_settle 22 = .ok (.getfield 26, 3) := by decide +kernel
theorem dX0_settle_25 : decode cX0_settle 25 = .ok (.iload_n 2, 1) := by decide +kernel
theorem dX0_settle_26 : decode cX0_settle 26 = .ok (.bipush 112, 2) := by decide +kernel
theorem dX0_settle_28 : decode cX0_settle 28 = .ok (.iastore, 1) := by decide +kernel
theorem dX0_settle_29 : decode cX0_settle 29 = .ok (.aload_n 0, 1) := by decide +kernel
theorem dX0_settle_30 : decode cX0_settle 30 = .ok (.iload_n 1, 1) := by decide +kernel
theorem dX0_settle_31 : decode cX0_settle 31 = .ok (.iload_n 2, 1) := by decide +kernel
theorem dX0_settle_32 : decode cX0_settle 32 = .ok (.iconst 1, 1) := by decide +kernel
theorem dX0_settle_33 : decode cX0_settle 33 = .ok (.iadd, 1) := by decide +kernel
theorem dX0_settle_34 : decode cX0_settle 34 = .ok (.lload_n 3, 1) := by decide +kernel
theorem dX0_settle_35 : decode cX0_settle 35 = .ok (.invokevirtual 86, 3) := by decide +kernel
theorem dX0_settle_38 : decode cX0_settle 38 = .ok (.ireturn, 1) := by decide +kernel
theorem dX0_settle_39 : decode cX0_settle 39 = .ok (.iload_n 1, 1) := by decide +kernel
theorem dX0_settle_40 : decode cX0_settle 40 = .ok (.iconst 1, 1) := by decide +kernel
theorem dX0_settle_41 : decode cX0_settle 41 = .ok (.iload_n 2, 1) := by decide +kernel
theorem dX0_settle_42 : decode cX0_settle 42 = .ok (.ishl, 1) := by decide +kernel
theorem dX0_settle_43 : decode cX0_settle 43 = .ok (.ineg, 1) := by decide +kernel
theorem dX0_settle_44 : decode cX0_settle 44 = .ok (.iand, 1) := by decide +kernel
theorem dX0_settle_45 : decode cX0_settle 45 = .ok (.istore 5, 2) := by decide +kernel
theorem dX0_settle_47 : decode cX0_settle 47 = .ok (.aload_n 0, 1) := by decide +kernel
theorem dX0_settle_48 : decode cX0_settle 48 = .ok (.getfield 39, 3) := by decide +kernel
theorem dX0_settle_51 : decode cX0_settle 51 = .ok (.iload 5, 2) := by decide +kernel
theorem dX0_settle_53 : decode cX0_settle 53 = .ok (.iaload, 1) := by decide +kernel
theorem dX0_settle_54 : decode cX0_settle 54 = .ok (.aload_n 0, 1) := by decide +kernel
theorem dX0_settle_55 : decode cX0_settle 55 = .ok (.lload_n 3, 1) := by decide +kernel
theorem dX0_settle_56 : decode cX0_settle 56 = .ok (.invokevirtual 194, 3) := by decide +kernel
theorem dX0_settle_59 : decode cX0_settle 59 = .ok (.if_icmp .gt 13, 3) := by decide +kernel
theorem dX0_settle_62 : decode cX0_settle 62 = .ok (.aload_n 0, 1) := by decide +kernel
theorem dX0_settle_63 : decode cX0_settle 63 = .ok (.iload 5, 2) := by decide +kernel
theorem dX0_settle_65 : decode cX0_settle 65 = .ok (.lload_n 3, 1) := by decide +kernel
theorem dX0_settle_66 : decode cX0_settle 66 = .ok (.invokevirtual 197, 3) := by decide +kernel
theorem dX0_settle_69 : decode cX0_settle 69 = .ok (.ifCond .eq 5, 3) := by decide +kernel
theorem dX0_settle_72 : decode cX0_settle 72 = .ok (.iconst 0, 1) := by decide +kernel
theorem dX0_settle_73 : decode cX0_settle 73 = .ok (.ireturn, 1) := by decide +kernel
theorem dX0_settle_74 : decode cX0_settle 74 = .ok (.aload_n 0, 1) := by decide +kernel
theorem dX0_settle_75 : decode cX0_settle 75 = .ok (.getfield 53, 3) := by decide +kernel
theorem dX0_settle_78 : decode cX0_settle 78 = .ok (.getfield 119, 3) := by decide +kernel
theorem dX0_settle_81 : decode cX0_settle 81 = .ok (.iload_n 2, 1) := by decide +kernel
theorem dX0_settle_82 : decode cX0_settle 82 = .ok (.aaload, 1) := by decide +kernel
theorem dX0_settle_83 : decode cX0_settle 83 = .ok (.getfield 123, 3) := by decide +kernel
theorem dX0_settle_86 : decode cX0_settle 86 = .ok (.istore 6, 2) := by decide +kernel
theorem dX0_settle_88 : decode cX0_settle 88 = .ok (.iconst 0, 1) := by decide +kernel
theorem dX0_settle_89 : decode cX0_settle 89 = .ok (.istore 7, 2) := by decide +kernel
theorem dX0_settle_91 : decode cX0_settle 91 = .ok (.iload 7, 2) := by decide +kernel
theorem dX0_settle_93 : decode cX0_settle 93 = .ok (.aload_n 0, 1) := by decide +kernel
theorem dX0_settle_94 : decode cX0_settle 94 = .ok (.getfield 16, 3) := by decide +kernel
theorem dX0_settle_97 : decode cX0_settle 97 = .ok (.iload_n 2, 1) := by decide +kernel
theorem dX0_settle_98 : decode cX0_settle 98 = .ok (.iaload, 1) := by decide +kernel
theorem dX0_settle_99 : decode cX0_settle 99 = .ok (.if_icmp .ge 61, 3) := by decide +kernel
theorem dX0_settle_102 : decode cX0_settle 102 = .ok (.aload_n 0, 1) := by decide +kernel
theorem dX0_settle_103 : decode cX0_settle 103 = .ok (.getfield 13, 3) := by decide +kernel
theorem dX0_settle_106 : decode cX0_settle 106 = .ok (.iload_n 2, 1) := by decide +kernel
theorem dX0_settle_107 : decode cX0_settle 107 = .ok (.aaload, 1) := by decide +kernel
theorem dX0_settle_108 : decode cX0_settle 108 = .ok (.iload 7, 2) := by decide +kernel
theorem dX0_settle_110 : decode cX0_settle 110 = .ok (.iaload, 1) := by decide +kernel
theorem dX0_settle_111 : decode cX0_settle 111 = .ok (.istore 8, 2) := by decide +kernel
theorem dX0_settle_113 : decode cX0_settle 113 = .ok (.iload 8, 2) := by decide +kernel
theorem dX0_settle_115 : decode cX0_settle 115 = .ok (.iload 6, 2) := by decide +kernel
theorem dX0_settle_117 : decode cX0_settle 117 = .ok (.lload_n 3, 1) := by decide +kernel
theorem dX0_settle_118 : decode cX0_settle 118 = .ok (.invokestatic 128, 3) := by decide +kernel
theorem dX0_settle_121 : decode cX0_settle 121 = .ok (.ifCond .eq 33, 3) := by decide +kernel
theorem dX0_settle_124 : decode cX0_settle 124 = .ok (.aload_n 0, 1) := by decide +kernel
theorem dX0_settle_125 : decode cX0_settle 125 = .ok (.getfield 26, 3) := by decide +kernel
theorem dX0_settle_128 : decode cX0_settle 128 = .ok (.iload_n 2, 1) := by decide +kernel
theorem dX0_settle_129 : decode cX0_settle 129 = .ok (.iload 7, 2) := by decide +kernel
theorem dX0_settle_131 : decode cX0_settle 131 = .ok (.iastore, 1) := by decide +kernel
theorem dX0_settle_132 : decode cX0_settle 132 = .ok (.aload_n 0, 1) := by decide +kernel
theorem dX0_settle_133 : decode cX0_settle 133 = .ok (.iload_n 1, 1) := by decide +kernel
theorem dX0_settle_134 : decode cX0_settle 134 = .ok (.iload_n 2, 1) := by decide +kernel
theorem dX0_settle_135 : decode cX0_settle 135 = .ok (.iconst 1, 1) := by decide +kernel
theorem dX0_settle_136 : decode cX0_settle 136 = .ok (.iadd, 1) := by decide +kernel
theorem dX0_settle_137 : decode cX0_settle 137 = .ok (.lload_n 3, 1) := by decide +kernel
theorem dX0_settle_138 : decode cX0_settle 138 = .ok (.iload 8, 2) := by decide +kernel
theorem dX0_settle_140 : decode cX0_settle 140 = .ok (.iload 6, 2) := by decide +kernel
theorem dX0_settle_142 : decode cX0_settle 142 = .ok (.invokestatic 156, 3) := by decide +kernel
theorem dX0_settle_145 : decode cX0_settle 145 = .ok (.lor, 1) := by decide +kernel
theorem dX0_settle_146 : decode cX0_settle 146 = .ok (.invokevirtual 86, 3) := by decide +kernel
theorem dX0_settle_149 : decode cX0_settle 149 = .ok (.ifCond .eq 5, 3) := by decide +kernel
theorem dX0_settle_152 : decode cX0_settle 152 = .ok (.iconst 1, 1) := by decide +kernel
theorem dX0_settle_153 : decode cX0_settle 153 = .ok (.ireturn, 1) := by decide +kernel
theorem dX0_settle_154 : decode cX0_settle 154 = .ok (.iinc 7 1, 3) := by decide +kernel
theorem dX0_settle_157 : decode cX0_settle 157 = .ok (.goto (-66), 3) := by decide +kernel
theorem dX0_settle_160 : decode cX0_settle 160 = .ok (.aload_n 0, 1) := by decide +kernel
theorem dX0_settle_161 : decode cX0_settle 161 = .ok (.iload 5, 2) := by decide +kernel
theorem dX0_settle_163 : decode cX0_settle 163 = .ok (.lload_n 3, 1) := by decide +kernel
theorem dX0_settle_164 : decode cX0_settle 164 = .ok (.invokevirtual 201, 3) := by decide +kernel
theorem dX0_settle_167 : decode cX0_settle 167 = .ok (.iconst 0, 1) := by decide +kernel
theorem dX0_settle_168 : decode cX0_settle 168 = .ok (.ireturn, 1) := by decide +kernel
theorem dX0_slotsLeft_0 : decode cX0_slotsLeft 0 = .ok (.aload_n 0, 1) := by decide +kernel
theorem dX0_slotsLeft_1 : decode cX0_slotsLeft 1 = .ok (.getfield 49, 3) := by decide +kernel
theorem dX0_slotsLeft_4 : decode cX0_slotsLeft 4 = .ok (.getfield 81, 3) := by decide +kernel
theorem dX0_slotsLeft_7 : decode cX0_slotsLeft 7 = .ok (.lload_n 1, 1) := by decide +kernel
theorem dX0_slotsLeft_8 : decode cX0_slotsLeft 8 = .ok (.lload_n 1, 1) := by decide +kernel
theorem dX0_slotsLeft_9 : decode cX0_slotsLeft 9 = .ok (.bipush 16, 2) := by decide +kernel
theorem dX0_slotsLeft_11 : decode cX0_slotsLeft 11 = .ok (.lshr, 1) := by decide +kernel
theorem dX0_slotsLeft_12 : decode cX0_slotsLeft 12 = .ok (.land, 1) := by decide +kernel
theorem dX0_slotsLeft_13 : decode cX0_slotsLeft 13 = .ok (.lload_n 1, 1) := by decide +kernel
theorem dX0_slotsLeft_14 : decode cX0_slotsLeft 14 = .ok (.bipush 32, 2) := by decide +kernel
theorem dX0_slotsLeft_16 : decode cX0_slotsLeft 16 = .ok (.lshr, 1) := by decide +kernel
theorem dX0_slotsLeft_17 : decode cX0_slotsLeft 17 = .ok (.land, 1) := by decide +kernel
theorem dX0_slotsLeft_18 : decode cX0_slotsLeft 18 = .ok (.ldc2_w 205, 3) := by decide +kernel
theorem dX0_slotsLeft_21 : decode cX0_slotsLeft 21 = .ok (.land, 1) := by decide +kernel
theorem dX0_slotsLeft_22 : decode cX0_slotsLeft 22 = .ok (.invokestatic 207, 3) := by decide +kernel
theorem dX0_slotsLeft_25 : decode cX0_slotsLeft 25 = .ok (.isub, 1) := by decide +kernel
theorem dX0_slotsLeft_26 : decode cX0_slotsLeft 26 = .ok (.ireturn, 1) := by decide +kernel
theorem dX0_tryKey_0 : decode cX0_tryKey 0 = .ok (.lload_n 2, 1) := by decide +kernel
theorem dX0_tryKey_1 : decode cX0_tryKey 1 = .ok (.aload_n 0, 1) := by decide +kernel
theorem dX0_tryKey_2 : decode cX0_tryKey 2 = .ok (.getfield 42, 3) := by decide +kernel
theorem dX0_tryKey_5 : decode cX0_tryKey 5 = .ok (.iload_n 1, 1) := by decide +kernel
theorem dX0_tryKey_6 : decode cX0_tryKey 6 = .ok (.laload, 1) := by decide +kernel
theorem dX0_tryKey_7 : decode cX0_tryKey 7 = .ok (.land, 1) := by decide +kernel
theorem dX0_tryKey_8 : decode cX0_tryKey 8 = .ok (.iload_n 1, 1) := by decide +kernel
theorem dX0_tryKey_9 : decode cX0_tryKey 9 = .ok (.i2l, 1) := by decide +kernel
theorem dX0_tryKey_10 : decode cX0_tryKey 10 = .ok (.bipush 48, 2) := by decide +kernel
theorem dX0_tryKey_12 : decode cX0_tryKey 12 = .ok (.lshl, 1) := by decide +kernel
theorem dX0_tryKey_13 : decode cX0_tryKey 13 = .ok (.lor, 1) := by decide +kernel
theorem dX0_tryKey_14 : decode cX0_tryKey 14 = .ok (.aload_n 0, 1) := by decide +kernel
theorem dX0_tryKey_15 : decode cX0_tryKey 15 = .ok (.getfield 61, 3) := by decide +kernel
theorem dX0_tryKey_18 : decode cX0_tryKey 18 = .ok (.i2l, 1) := by decide +kernel
theorem dX0_tryKey_19 : decode cX0_tryKey 19 = .ok (.bipush 53, 2) := by decide +kernel
theorem dX0_tryKey_21 : decode cX0_tryKey 21 = .ok (.lshl, 1) := by decide +kernel
theorem dX0_tryKey_22 : decode cX0_tryKey 22 = .ok (.lor, 1) := by decide +kernel
theorem dX0_tryKey_23 : decode cX0_tryKey 23 = .ok (.lreturn, 1) := by decide +kernel
theorem dX0_memoryPlace_0 : decode cX0_memoryPlace 0 = .ok (.lload_n 0, 1) := by decide +kernel
theorem dX0_memoryPlace_1 : decode cX0_memoryPlace 1 = .ok (.ldc2_w 212, 3) := by decide +kernel
theorem dX0_memoryPlace_4 : decode cX0_memoryPlace 4 = .ok (.lmul, 1) := by decide +kernel
theorem dX0_memoryPlace_5 : decode cX0_memoryPlace 5 = .ok (.bipush 54, 2) := by decide +kernel
theorem dX0_memoryPlace_7 : decode cX0_memoryPlace 7 = .ok (.lushr, 1) := by decide +kernel
theorem dX0_memoryPlace_8 : decode cX0_memoryPlace 8 = .ok (.l2i, 1) := by decide +kernel
theorem dX0_memoryPlace_9 : decode cX0_memoryPlace 9 = .ok (.ireturn, 1) := by decide +kernel
theorem dX0_isHopeless_0 : decode cX0_isHopeless 0 = .ok (.aload_n 0, 1) := by decide +kernel
theorem dX0_isHopeless_1 : decode cX0_isHopeless 1 = .ok (.iload_n 1, 1) := by decide +kernel
theorem dX0_isHopeless_2 : decode cX0_isHopeless 2 = .ok (.lload_n 2, 1) := by decide +kernel
theorem dX0_isHopeless_3 : decode cX0_isHopeless 3 = .ok (.invokevirtual 214, 3) := by decide +kernel
theorem dX0_isHopeless_6 : decode cX0_isHopeless 6 = .ok (.lstore 4, 2) := by decide +kernel
theorem dX0_isHopeless_8 : decode cX0_isHopeless 8 = .ok (.aload_n 0, 1) := by decide +kernel
theorem dX0_isHopeless_9 : decode cX0_isHopeless 9 = .ok (.getfield 46, 3) := by decide +kernel
theorem dX0_isHopeless_12 : decode cX0_isHopeless 12 = .ok (.lload 4, 2) := by decide +kernel
theorem dX0_isHopeless_14 : decode cX0_isHopeless 14 = .ok (.invokestatic 218, 3) := by decide +kernel
theorem dX0_isHopeless_17 : decode cX0_isHopeless 17 = .ok (.laload, 1) := by decide +kernel
theorem dX0_isHopeless_18 : decode cX0_isHopeless 18 = .ok (.lload 4, 2) := by decide +kernel
theorem dX0_isHopeless_20 : decode cX0_isHopeless 20 = .ok (.lcmp, 1) := by decide +kernel
theorem dX0_isHopeless_21 : decode cX0_isHopeless 21 = .ok (.ifCond .ne 7, 3) := by decide +kernel
theorem dX0_isHopeless_24 : decode cX0_isHopeless 24 = .ok (.iconst 1, 1) := by decide +kernel
theorem dX0_isHopeless_25 : decode cX0_isHopeless 25 = .ok (.goto 4, 3) := by decide +kernel
theorem dX0_isHopeless_28 : decode cX0_isHopeless 28 = .ok (.iconst 0, 1) := by decide +kernel
theorem dX0_isHopeless_29 : decode cX0_isHopeless 29 = .ok (.ireturn, 1) := by decide +kernel
theorem dX0_keepHopeless_0 : decode cX0_keepHopeless 0 = .ok (.aload_n 0, 1) := by decide +kernel
theorem dX0_keepHopeless_1 : decode cX0_keepHopeless 1 = .ok (.iload_n 1, 1) := by decide +kernel
theorem dX0_keepHopeless_2 : decode cX0_keepHopeless 2 = .ok (.lload_n 2, 1) := by decide +kernel
theorem dX0_keepHopeless_3 : decode cX0_keepHopeless 3 = .ok (.invokevirtual 214, 3) := by decide +kernel
theorem dX0_keepHopeless_6 : decode cX0_keepHopeless 6 = .ok (.lstore 4, 2) := by decide +kernel
theorem dX0_keepHopeless_8 : decode cX0_keepHopeless 8 = .ok (.aload_n 0, 1) := by decide +kernel
theorem dX0_keepHopeless_9 : decode cX0_keepHopeless 9 = .ok (.getfield 46, 3) := by decide +kernel
theorem dX0_keepHopeless_12 : decode cX0_keepHopeless 12 = .ok (.lload 4, 2) := by decide +kernel
theorem dX0_keepHopeless_14 : decode cX0_keepHopeless 14 = .ok (.invokestatic 218, 3) := by decide +kernel
theorem dX0_keepHopeless_17 : decode cX0_keepHopeless 17 = .ok (.lload 4, 2) := by decide +kernel
theorem dX0_keepHopeless_19 : decode cX0_keepHopeless 19 = .ok (.lastore, 1) := by decide +kernel
theorem dX0_keepHopeless_20 : decode cX0_keepHopeless 20 = .ok (.return_, 1) := by decide +kernel
theorem dX0_isFree_0 : decode cX0_isFree 0 = .ok (.lload_n 2, 1) := by decide +kernel
theorem dX0_isFree_1 : decode cX0_isFree 1 = .ok (.bipush 16, 2) := by decide +kernel
theorem dX0_isFree_3 : decode cX0_isFree 3 = .ok (.iload_n 1, 1) := by decide +kernel
theorem dX0_isFree_4 : decode cX0_isFree 4 = .ok (.imul, 1) := by decide +kernel
theorem dX0_isFree_5 : decode cX0_isFree 5 = .ok (.lshr, 1) := by decide +kernel
theorem dX0_isFree_6 : decode cX0_isFree 6 = .ok (.iload_n 0, 1) := by decide +kernel
theorem dX0_isFree_7 : decode cX0_isFree 7 = .ok (.i2l, 1) := by decide +kernel
theorem dX0_isFree_8 : decode cX0_isFree 8 = .ok (.land, 1) := by decide +kernel
theorem dX0_isFree_9 : decode cX0_isFree 9 = .ok (.lconst 0, 1) := by decide +kernel
theorem dX0_isFree_10 : decode cX0_isFree 10 = .ok (.lcmp, 1) := by decide +kernel
theorem dX0_isFree_11 : decode cX0_isFree 11 = .ok (.ifCond .ne 7, 3) := by decide +kernel
theorem dX0_isFree_14 : decode cX0_isFree 14 = .ok (.iconst 1, 1) := by decide +kernel
theorem dX0_isFree_15 : decode cX0_isFree 15 = .ok (.goto 4, 3) := by decide +kernel
theorem dX0_isFree_18 : decode cX0_isFree 18 = .ok (.iconst 0, 1) := by decide +kernel
theorem dX0_isFree_19 : decode cX0_isFree 19 = .ok (.ireturn, 1) := by decide +kernel
theorem dX0_takenBy_0 : decode cX0_takenBy 0 = .ok (.iload_n 0, 1) := by decide +kernel
theorem dX0_takenBy_1 : decode cX0_takenBy 1 = .ok (.iload_n 0, 1) := by decide +kernel
theorem dX0_takenBy_2 : decode cX0_takenBy 2 = .ok (.iconst 1, 1) := by decide +kernel
theorem dX0_takenBy_3 : decode cX0_takenBy 3 = .ok (.ishl, 1) := by decide +kernel
theorem dX0_takenBy_4 : decode cX0_takenBy 4 = .ok (.ior, 1) := by decide +kernel
theorem dX0_takenBy_5 : decode cX0_takenBy 5 = .ok (.iload_n 0, 1) := by decide +kernel
theorem dX0_takenBy_6 : decode cX0_takenBy 6 = .ok (.iconst 1, 1) := by decide +kernel
theorem dX0_takenBy_7 : decode cX0_takenBy 7 = .ok (.ishr, 1) := by decide +kernel
theorem dX0_takenBy_8 : decode cX0_takenBy 8 = .ok (.ior, 1) := by decide +kernel
theorem dX0_takenBy_9 : decode cX0_takenBy 9 = .ok (.i2l, 1) := by decide +kernel
theorem dX0_takenBy_10 : decode cX0_takenBy 10 = .ok (.lstore_n 2, 1) := by decide +kernel
theorem dX0_takenBy_11 : decode cX0_takenBy 11 = .ok (.lconst 0, 1) := by decide +kernel
theorem dX0_takenBy_12 : decode cX0_takenBy 12 = .ok (.lstore 4, 2) := by decide +kernel
theorem dX0_takenBy_14 : decode cX0_takenBy 14 = .ok (.iconst 0, 1) := by decide +kernel
theorem dX0_takenBy_15 : decode cX0_takenBy 15 = .ok (.istore 6, 2) := by decide +kernel
theorem dX0_takenBy_17 : decode cX0_takenBy 17 = .ok (.iload 6, 2) := by decide +kernel
theorem dX0_takenBy_19 : decode cX0_takenBy 19 = .ok (.iconst 3, 1) := by decide +kernel
theorem dX0_takenBy_20 : decode cX0_takenBy 20 = .ok (.if_icmp .ge 32, 3) := by decide +kernel
theorem dX0_takenBy_23 : decode cX0_takenBy 23 = .ok (.lload 4, 2) := by decide +kernel
theorem dX0_takenBy_25 : decode cX0_takenBy 25 = .ok (.iload 6, 2) := by decide +kernel
theorem dX0_takenBy_27 : decode cX0_takenBy 27 = .ok (.iload_n 1, 1) := by decide +kernel
theorem dX0_takenBy_28 : decode cX0_takenBy 28 = .ok (.if_icmp .ne 8, 3) := by decide +kernel
theorem dX0_takenBy_31 : decode cX0_takenBy 31 = .ok (.iload_n 0, 1) := by decide +kernel
theorem dX0_takenBy_32 : decode cX0_takenBy 32 = .ok (.i2l, 1) := by decide +kernel
theorem dX0_takenBy_33 : decode cX0_takenBy 33 = .ok (.goto 4, 3) := by decide +kernel
theorem dX0_takenBy_36 : decode cX0_takenBy 36 = .ok (.lload_n 2, 1) := by decide +kernel
theorem dX0_takenBy_37 : decode cX0_takenBy 37 = .ok (.bipush 16, 2) := by decide +kernel
theorem dX0_takenBy_39 : decode cX0_takenBy 39 = .ok (.iload 6, 2) := by decide +kernel
theorem dX0_takenBy_41 : decode cX0_takenBy 41 = .ok (.imul, 1) := by decide +kernel
theorem dX0_takenBy_42 : decode cX0_takenBy 42 = .ok (.lshl, 1) := by decide +kernel
theorem dX0_takenBy_43 : decode cX0_takenBy 43 = .ok (.lor, 1) := by decide +kernel
theorem dX0_takenBy_44 : decode cX0_takenBy 44 = .ok (.lstore 4, 2) := by decide +kernel
theorem dX0_takenBy_46 : decode cX0_takenBy 46 = .ok (.iinc 6 1, 3) := by decide +kernel
theorem dX0_takenBy_49 : decode cX0_takenBy 49 = .ok (.goto (-32), 3) := by decide +kernel
theorem dX0_takenBy_52 : decode cX0_takenBy 52 = .ok (.lload 4, 2) := by decide +kernel
theorem dX0_takenBy_54 : decode cX0_takenBy 54 = .ok (.lreturn, 1) := by decide +kernel
theorem dX0_bestOf_0 : decode cX0_bestOf 0 = .ok (.iconst 0, 1) := by decide +kernel
theorem dX0_bestOf_1 : decode cX0_bestOf 1 = .ok (.istore_n 3, 1) := by decide +kernel
theorem dX0_bestOf_2 : decode cX0_bestOf 2 = .ok (.iconst 1, 1) := by decide +kernel
theorem dX0_bestOf_3 : decode cX0_bestOf 3 = .ok (.istore 4, 2) := by decide +kernel
theorem dX0_bestOf_5 : decode cX0_bestOf 5 = .ok (.iload 4, 2) := by decide +kernel
theorem dX0_bestOf_7 : decode cX0_bestOf 7 = .ok (.iconst 1, 1) := by decide +kernel
theorem dX0_bestOf_8 : decode cX0_bestOf 8 = .ok (.aload_n 0, 1) := by decide +kernel
theorem dX0_bestOf_9 : decode cX0_bestOf 9 = .ok (.getfield 53, 3) := by decide +kernel
theorem dX0_bestOf_12 : decode cX0_bestOf 12 = .ok (.getfield 65, 3) := by decide +kernel
theorem dX0_bestOf_15 : decode cX0_bestOf 15 = .ok (.ishl, 1) := by decide +kernel
theorem dX0_bestOf_16 : decode cX0_bestOf 16 = .ok (.if_icmp .ge 34, 3) := by decide +kernel
theorem dX0_bestOf_19 : decode cX0_bestOf 19 = .ok (.aload_n 0, 1) := by decide +kernel
theorem dX0_bestOf_20 : decode cX0_bestOf 20 = .ok (.getfield 29, 3) := by decide +kernel
theorem dX0_bestOf_23 : decode cX0_bestOf 23 = .ok (.iload 4, 2) := by decide +kernel
theorem dX0_bestOf_25 : decode cX0_bestOf 25 = .ok (.baload, 1) := by decide +kernel
theorem dX0_bestOf_26 : decode cX0_bestOf 26 = .ok (.ifCond .eq 18, 3) := by decide +kernel
theorem dX0_bestOf_29 : decode cX0_bestOf 29 = .ok (.aload_n 0, 1) := by decide +kernel
theorem dX0_bestOf_30 : decode cX0_bestOf 30 = .ok (.iload 4, 2) := by decide +kernel
theorem dX0_bestOf_32 : decode cX0_bestOf 32 = .ok (.iload_n 3, 1) := by decide +kernel
theorem dX0_bestOf_33 : decode cX0_bestOf 33 = .ok (.iload_n 1, 1) := by decide +kernel
theorem dX0_bestOf_34 : decode cX0_bestOf 34 = .ok (.iload_n 2, 1) := by decide +kernel
theorem dX0_bestOf_35 : decode cX0_bestOf 35 = .ok (.invokevirtual 221, 3) := by decide +kernel
theorem dX0_bestOf_38 : decode cX0_bestOf 38 = .ok (.ifCond .eq 6, 3) := by decide +kernel
theorem dX0_bestOf_41 : decode cX0_bestOf 41 = .ok (.iload 4, 2) := by decide +kernel
theorem dX0_bestOf_43 : decode cX0_bestOf 43 = .ok (.istore_n 3, 1) := by decide +kernel
theorem dX0_bestOf_44 : decode cX0_bestOf 44 = .ok (.iinc 4 1, 3) := by decide +kernel
theorem dX0_bestOf_47 : decode cX0_bestOf 47 = .ok (.goto (-42), 3) := by decide +kernel
theorem dX0_bestOf_50 : decode cX0_bestOf 50 = .ok (.iload_n 3, 1) := by decide +kernel
theorem dX0_bestOf_51 : decode cX0_bestOf 51 = .ok (.ireturn, 1) := by decide +kernel
theorem dX0_isBetter_0 : decode cX0_isBetter 0 = .ok (.aload_n 0, 1) := by decide +kernel
theorem dX0_isBetter_1 : decode cX0_isBetter 1 = .ok (.iload_n 1, 1) := by decide +kernel
theorem dX0_isBetter_2 : decode cX0_isBetter 2 = .ok (.iload_n 3, 1) := by decide +kernel
theorem dX0_isBetter_3 : decode cX0_isBetter 3 = .ok (.iload 4, 2) := by decide +kernel
theorem dX0_isBetter_5 : decode cX0_isBetter 5 = .ok (.invokevirtual 225, 3) := by decide +kernel
theorem dX0_isBetter_8 : decode cX0_isBetter 8 = .ok (.aload_n 0, 1) := by decide +kernel
theorem dX0_isBetter_9 : decode cX0_isBetter 9 = .ok (.iload_n 2, 1) := by decide +kernel
theorem dX0_isBetter_10 : decode cX0_isBetter 10 = .ok (.iload_n 3, 1) := by decide +kernel
theorem dX0_isBetter_11 : decode cX0_isBetter 11 = .ok (.iload 4, 2) := by decide +kernel
theorem dX0_isBetter_13 : decode cX0_isBetter 13 = .ok (.invokevirtual 225, 3) := by decide +kernel
theorem dX0_isBetter_16 : decode cX0_isBetter 16 = .ok (.isub, 1) := by decide +kernel
theorem dX0_isBetter_17 : decode cX0_isBetter 17 = .ok (.istore 5, 2) := by decide +kernel
theorem dX0_isBetter_19 : decode cX0_isBetter 19 = .ok (.iload 5, 2) := by decide +kernel
theorem dX0_isBetter_21 : decode cX0_isBetter 21 = .ok (.ifCond .eq 14, 3) := by decide +kernel
theorem dX0_isBetter_24 : decode cX0_isBetter 24 = .ok (.iload 5, 2) := by decide +kernel
theorem dX0_isBetter_26 : decode cX0_isBetter 26 = .ok (.ifCond .le 7, 3) := by decide +kernel
theorem dX0_isBetter_29 : decode cX0_isBetter 29 = .ok (.iconst 1, 1) := by decide +kernel
theorem dX0_isBetter_30 : decode cX0_isBetter 30 = .ok (.goto 4, 3) := by decide +kernel
theorem dX0_isBetter_33 : decode cX0_isBetter 33 = .ok (.iconst 0, 1) := by decide +kernel
theorem dX0_isBetter_34 : decode cX0_isBetter 34 = .ok (.ireturn, 1) := by decide +kernel
theorem dX0_isBetter_35 : decode cX0_isBetter 35 = .ok (.aload_n 0, 1) := by decide +kernel
theorem dX0_isBetter_36 : decode cX0_isBetter 36 = .ok (.getfield 39, 3) := by decide +kernel
theorem dX0_isBetter_39 : decode cX0_isBetter 39 = .ok (.iload_n 1, 1) := by decide +kernel
theorem dX0_isBetter_40 : decode cX0_isBetter 40 = .ok (.iaload, 1) := by decide +kernel
theorem dX0_isBetter_41 : decode cX0_isBetter 41 = .ok (.aload_n 0, 1) := by decide +kernel
theorem dX0_isBetter_42 : decode cX0_isBetter 42 = .ok (.getfield 39, 3) := by decide +kernel
theorem dX0_isBetter_45 : decode cX0_isBetter 45 = .ok (.iload_n 2, 1) := by decide +kernel
theorem dX0_isBetter_46 : decode cX0_isBetter 46 = .ok (.iaload, 1) := by decide +kernel
theorem dX0_isBetter_47 : decode cX0_isBetter 47 = .ok (.if_icmp .eq 24, 3) := by decide +kernel
theorem dX0_isBetter_50 : decode cX0_isBetter 50 = .ok (.aload_n 0, 1) := by decide +kernel
theorem dX0_isBetter_51 : decode cX0_isBetter 51 = .ok (.getfield 39, 3) := by decide +kernel
theorem dX0_isBetter_54 : decode cX0_isBetter 54 = .ok (.iload_n 1, 1) := by decide +kernel
theorem dX0_isBetter_55 : decode cX0_isBetter 55 = .ok (.iaload, 1) := by decide +kernel
theorem dX0_isBetter_56 : decode cX0_isBetter 56 = .ok (.aload_n 0, 1) := by decide +kernel
theorem dX0_isBetter_57 : decode cX0_isBetter 57 = .ok (.getfield 39, 3) := by decide +kernel
theorem dX0_isBetter_60 : decode cX0_isBetter 60 = .ok (.iload_n 2, 1) := by decide +kernel
theorem dX0_isBetter_61 : decode cX0_isBetter 61 = .ok (.iaload, 1) := by decide +kernel
theorem dX0_isBetter_62 : decode cX0_isBetter 62 = .ok (.if_icmp .ge 7, 3) := by decide +kernel
theorem dX0_isBetter_65 : decode cX0_isBetter 65 = .ok (.iconst 1, 1) := by decide +kernel
theorem dX0_isBetter_66 : decode cX0_isBetter 66 = .ok (.goto 4, 3) := by decide +kernel
theorem dX0_isBetter_69 : decode cX0_isBetter 69 = .ok (.iconst 0, 1) := by decide +kernel
theorem dX0_isBetter_70 : decode cX0_isBetter 70 = .ok (.ireturn, 1) := by decide +kernel
theorem dX0_isBetter_71 : decode cX0_isBetter 71 = .ok (.iconst 0, 1) := by decide +kernel
theorem dX0_isBetter_72 : decode cX0_isBetter 72 = .ok (.istore 6, 2) := by decide +kernel
theorem dX0_isBetter_74 : decode cX0_isBetter 74 = .ok (.iload 6, 2) := by decide +kernel
theorem dX0_isBetter_76 : decode cX0_isBetter 76 = .ok (.aload_n 0, 1) := by decide +kernel
theorem dX0_isBetter_77 : decode cX0_isBetter 77 = .ok (.getfield 53, 3) := by decide +kernel
theorem dX0_isBetter_80 : decode cX0_isBetter 80 = .ok (.getfield 65, 3) := by decide +kernel
theorem dX0_isBetter_83 : decode cX0_isBetter 83 = .ok (.if_icmp .ge 57, 3) := by decide +kernel
theorem dX0_isBetter_86 : decode cX0_isBetter 86 = .ok (.aload_n 0, 1) := by decide +kernel
theorem dX0_isBetter_87 : decode cX0_isBetter 87 = .ok (.getfield 33, 3) := by decide +kernel
theorem dX0_isBetter_90 : decode cX0_isBetter 90 = .ok (.iload_n 1, 1) := by decide +kernel
theorem dX0_isBetter_91 : decode cX0_isBetter 91 = .ok (.aaload, 1) := by decide +kernel
theorem dX0_isBetter_92 : decode cX0_isBetter 92 = .ok (.iload 6, 2) := by decide +kernel
theorem dX0_isBetter_94 : decode cX0_isBetter 94 = .ok (.iaload, 1) := by decide +kernel
theorem dX0_isBetter_95 : decode cX0_isBetter 95 = .ok (.aload_n 0, 1) := by decide +kernel
theorem dX0_isBetter_96 : decode cX0_isBetter 96 = .ok (.getfield 33, 3) := by decide +kernel
theorem dX0_isBetter_99 : decode cX0_isBetter 99 = .ok (.iload_n 2, 1) := by decide +kernel
theorem dX0_isBetter_100 : decode cX0_isBetter 100 = .ok (.aaload, 1) := by decide +kernel
theorem dX0_isBetter_101 : decode cX0_isBetter 101 = .ok (.iload 6, 2) := by decide +kernel
theorem dX0_isBetter_103 : decode cX0_isBetter 103 = .ok (.iaload, 1) := by decide +kernel
theorem dX0_isBetter_104 : decode cX0_isBetter 104 = .ok (.if_icmp .eq 30, 3) := by decide +kernel
theorem dX0_isBetter_107 : decode cX0_isBetter 107 = .ok (.aload_n 0, 1) := by decide +kernel
theorem dX0_isBetter_108 : decode cX0_isBetter 108 = .ok (.getfield 33, 3) := by decide +kernel
theorem dX0_isBetter_111 : decode cX0_isBetter 111 = .ok (.iload_n 1, 1) := by decide +kernel
theorem dX0_isBetter_112 : decode cX0_isBetter 112 = .ok (.aaload, 1) := by decide +kernel
theorem dX0_isBetter_113 : decode cX0_isBetter 113 = .ok (.iload 6, 2) := by decide +kernel
theorem dX0_isBetter_115 : decode cX0_isBetter 115 = .ok (.iaload, 1) := by decide +kernel
theorem dX0_isBetter_116 : decode cX0_isBetter 116 = .ok (.aload_n 0, 1) := by decide +kernel
theorem dX0_isBetter_117 : decode cX0_isBetter 117 = .ok (.getfield 33, 3) := by decide +kernel
theorem dX0_isBetter_120 : decode cX0_isBetter 120 = .ok (.iload_n 2, 1) := by decide +kernel
theorem dX0_isBetter_121 : decode cX0_isBetter 121 = .ok (.aaload, 1) := by decide +kernel
theorem dX0_isBetter_122 : decode cX0_isBetter 122 = .ok (.iload 6, 2) := by decide +kernel
theorem dX0_isBetter_124 : decode cX0_isBetter 124 = .ok (.iaload, 1) := by decide +kernel
theorem dX0_isBetter_125 : decode cX0_isBetter 125 = .ok (.if_icmp .ge 7, 3) := by decide +kernel
theorem dX0_isBetter_128 : decode cX0_isBetter 128 = .ok (.iconst 1, 1) := by decide +kernel
theorem dX0_isBetter_129 : decode cX0_isBetter 129 = .ok (.goto 4, 3) := by decide +kernel
theorem dX0_isBetter_132 : decode cX0_isBetter 132 = .ok (.iconst 0, 1) := by decide +kernel
theorem dX0_isBetter_133 : decode cX0_isBetter 133 = .ok (.ireturn, 1) := by decide +kernel
theorem dX0_isBetter_134 : decode cX0_isBetter 134 = .ok (.iinc 6 1, 3) := by decide +kernel
theorem dX0_isBetter_137 : decode cX0_isBetter 137 = .ok (.goto (-63), 3) := by decide +kernel
theorem dX0_isBetter_140 : decode cX0_isBetter 140 = .ok (.iconst 0, 1) := by decide +kernel
theorem dX0_isBetter_141 : decode cX0_isBetter 141 = .ok (.ireturn, 1) := by decide +kernel
theorem dX0_worthIf_0 : decode cX0_worthIf 0 = .ok (.iload_n 2, 1) := by decide +kernel
theorem dX0_worthIf_1 : decode cX0_worthIf 1 = .ok (.iconst (-1), 1) := by decide +kernel
theorem dX0_worthIf_2 : decode cX0_worthIf 2 = .ok (.if_icmp .eq 11, 3) := by decide +kernel
theorem dX0_worthIf_5 : decode cX0_worthIf 5 = .ok (.iload_n 1, 1) := by decide +kernel
theorem dX0_worthIf_6 : decode cX0_worthIf 6 = .ok (.iload_n 2, 1) := by decide +kernel
theorem dX0_worthIf_7 : decode cX0_worthIf 7 = .ok (.invokestatic 103, 3) := by decide +kernel
theorem dX0_worthIf_10 : decode cX0_worthIf 10 = .ok (.ifCond .ne 10, 3) := by decide +kernel
theorem dX0_worthIf_13 : decode cX0_worthIf 13 = .ok (.aload_n 0, 1) := by decide +kernel
theorem dX0_worthIf_14 : decode cX0_worthIf 14 = .ok (.getfield 36, 3) := by decide +kernel
theorem dX0_worthIf_17 : decode cX0_worthIf 17 = .ok (.iload_n 1, 1) := by decide +kernel
theorem dX0_worthIf_18 : decode cX0_worthIf 18 = .ok (.iaload, 1) := by decide +kernel
theorem dX0_worthIf_19 : decode cX0_worthIf 19 = .ok (.ireturn, 1) := by decide +kernel
theorem dX0_worthIf_20 : decode cX0_worthIf 20 = .ok (.aload_n 0, 1) := by decide +kernel
theorem dX0_worthIf_21 : decode cX0_worthIf 21 = .ok (.getfield 36, 3) := by decide +kernel
theorem dX0_worthIf_24 : decode cX0_worthIf 24 = .ok (.iload_n 1, 1) := by decide +kernel
theorem dX0_worthIf_25 : decode cX0_worthIf 25 = .ok (.iaload, 1) := by decide +kernel
theorem dX0_worthIf_26 : decode cX0_worthIf 26 = .ok (.aload_n 0, 1) := by decide +kernel
theorem dX0_worthIf_27 : decode cX0_worthIf 27 = .ok (.getfield 53, 3) := by decide +kernel
theorem dX0_worthIf_30 : decode cX0_worthIf 30 = .ok (.getfield 119, 3) := by decide +kernel
theorem dX0_worthIf_33 : decode cX0_worthIf 33 = .ok (.iload_n 2, 1) := by decide +kernel
theorem dX0_worthIf_34 : decode cX0_worthIf 34 = .ok (.aaload, 1) := by decide +kernel
theorem dX0_worthIf_35 : decode cX0_worthIf 35 = .ok (.getfield 188, 3) := by decide +kernel
theorem dX0_worthIf_38 : decode cX0_worthIf 38 = .ok (.isub, 1) := by decide +kernel
theorem dX0_worthIf_39 : decode cX0_worthIf 39 = .ok (.iload_n 3, 1) := by decide +kernel
theorem dX0_worthIf_40 : decode cX0_worthIf 40 = .ok (.iadd, 1) := by decide +kernel
theorem dX0_worthIf_41 : decode cX0_worthIf 41 = .ok (.ireturn, 1) := by decide +kernel
theorem dX1_init_0 : decode cX1_init 0 = .ok (.aload_n 0, 1) := by decide +kernel
theorem dX1_init_1 : decode cX1_init 1 = .ok (.invokespecial 3, 3) := by decide +kernel
theorem dX1_init_4 : decode cX1_init 4 = .ok (.aload_n 0, 1) := by decide +kernel
theorem dX1_init_5 : decode cX1_init 5 = .ok (.iconst 5, 1) := by decide +kernel
theorem dX1_init_6 : decode cX1_init 6 = .ok (.anewarray 9, 3) := by decide +kernel
theorem dX1_init_9 : decode cX1_init 9 = .ok (.putfield 11, 3) := by decide +kernel
theorem dX1_init_12 : decode cX1_init 12 = .ok (.iconst 0, 1) := by decide +kernel
theorem dX1_init_13 : decode cX1_init 13 = .ok (.istore_n 1, 1) := by decide +kernel
theorem dX1_init_14 : decode cX1_init 14 = .ok (.iload_n 1, 1) := by decide +kernel
theorem dX1_init_15 : decode cX1_init 15 = .ok (.iconst 5, 1) := by decide +kernel
theorem dX1_init_16 : decode cX1_init 16 = .ok (.if_icmp .ge 22, 3) := by decide +kernel
theorem dX1_init_19 : decode cX1_init 19 = .ok (.aload_n 0, 1) := by decide +kernel
theorem dX1_init_20 : decode cX1_init 20 = .ok (.getfield 11, 3) := by decide +kernel
theorem dX1_init_23 : decode cX1_init 23 = .ok (.iload_n 1, 1) := by decide +kernel
