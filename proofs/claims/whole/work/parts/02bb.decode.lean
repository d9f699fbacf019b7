theorem dX1_init_24 : decode cX1_init 24 = .ok (.new 9, 3) := by decide +kernel
theorem dX1_init_27 : decode cX1_init 27 = .ok (.dup, 1) := by decide +kernel
theorem dX1_init_28 : decode cX1_init 28 = .ok (.invokespecial 17, 3) := by decide +kernel
theorem dX1_init_31 : decode cX1_init 31 = .ok (.aastore, 1) := by decide +kernel
theorem dX1_init_32 : decode cX1_init 32 = .ok (.iinc 1 1, 3) := by decide +kernel
theorem dX1_init_35 : decode cX1_init 35 = .ok (.goto (-21), 3) := by decide +kernel
theorem dX1_init_38 : decode cX1_init 38 = .ok (.return_, 1) := by decide +kernel
theorem dX1_has_0 : decode cX1_has 0 = .ok (.iload_n 1, 1) := by decide +kernel
theorem dX1_has_1 : decode cX1_has 1 = .ok (.ifCond .lt 15, 3) := by decide +kernel
theorem dX1_has_4 : decode cX1_has 4 = .ok (.iload_n 1, 1) := by decide +kernel
theorem dX1_has_5 : decode cX1_has 5 = .ok (.aload_n 0, 1) := by decide +kernel
theorem dX1_has_6 : decode cX1_has 6 = .ok (.getfield 18, 3) := by decide +kernel
theorem dX1_has_9 : decode cX1_has 9 = .ok (.if_icmp .ge 7, 3) := by decide +kernel
theorem dX1_has_12 : decode cX1_has 12 = .ok (.iconst 1, 1) := by decide +kernel
theorem dX1_has_13 : decode cX1_has 13 = .ok (.goto 4, 3) := by decide +kernel
theorem dX1_has_16 : decode cX1_has 16 = .ok (.iconst 0, 1) := by decide +kernel
theorem dX1_has_17 : decode cX1_has 17 = .ok (.ireturn, 1) := by decide +kernel
theorem dX1_add_0 : decode cX1_add 0 = .ok (.aload_n 0, 1) := by decide +kernel
theorem dX1_add_1 : decode cX1_add 1 = .ok (.getfield 18, 3) := by decide +kernel
theorem dX1_add_4 : decode cX1_add 4 = .ok (.iconst 5, 1) := by decide +kernel
theorem dX1_add_5 : decode cX1_add 5 = .ok (.if_icmp .lt 5, 3) := by decide +kernel
theorem dX1_add_8 : decode cX1_add 8 = .ok (.aload_n 1, 1) := by decide +kernel
theorem dX1_add_9 : decode cX1_add 9 = .ok (.areturn, 1) := by decide +kernel
theorem dX1_add_10 : decode cX1_add 10 = .ok (.aload_n 0, 1) := by decide +kernel
theorem dX1_add_11 : decode cX1_add 11 = .ok (.getfield 11, 3) := by decide +kernel
theorem dX1_add_14 : decode cX1_add 14 = .ok (.aload_n 0, 1) := by decide +kernel
theorem dX1_add_15 : decode cX1_add 15 = .ok (.getfield 18, 3) := by decide +kernel
theorem dX1_add_18 : decode cX1_add 18 = .ok (.aaload, 1) := by decide +kernel
theorem dX1_add_19 : decode cX1_add 19 = .ok (.astore_n 2, 1) := by decide +kernel
theorem dX1_add_20 : decode cX1_add 20 = .ok (.aload_n 0, 1) := by decide +kernel
theorem dX1_add_21 : decode cX1_add 21 = .ok (.getfield 11, 3) := by decide +kernel
theorem dX1_add_24 : decode cX1_add 24 = .ok (.aload_n 0, 1) := by decide +kernel
theorem dX1_add_25 : decode cX1_add 25 = .ok (.getfield 18, 3) := by decide +kernel
theorem dX1_add_28 : decode cX1_add 28 = .ok (.aload_n 1, 1) := by decide +kernel
theorem dX1_add_29 : decode cX1_add 29 = .ok (.aastore, 1) := by decide +kernel
theorem dX1_add_30 : decode cX1_add 30 = .ok (.aload_n 0, 1) := by decide +kernel
theorem dX1_add_31 : decode cX1_add 31 = .ok (.dup, 1) := by decide +kernel
theorem dX1_add_32 : decode cX1_add 32 = .ok (.getfield 18, 3) := by decide +kernel
theorem dX1_add_35 : decode cX1_add 35 = .ok (.iconst 1, 1) := by decide +kernel
theorem dX1_add_36 : decode cX1_add 36 = .ok (.iadd, 1) := by decide +kernel
theorem dX1_add_37 : decode cX1_add 37 = .ok (.putfield 18, 3) := by decide +kernel
theorem dX1_add_40 : decode cX1_add 40 = .ok (.aload_n 2, 1) := by decide +kernel
theorem dX1_add_41 : decode cX1_add 41 = .ok (.areturn, 1) := by decide +kernel
theorem dX1_remove_0 : decode cX1_remove 0 = .ok (.aload_n 0, 1) := by decide +kernel
theorem dX1_remove_1 : decode cX1_remove 1 = .ok (.iload_n 1, 1) := by decide +kernel
theorem dX1_remove_2 : decode cX1_remove 2 = .ok (.invokevirtual 22, 3) := by decide +kernel
theorem dX1_remove_5 : decode cX1_remove 5 = .ok (.ifCond .ne 4, 3) := by decide +kernel
theorem dX1_remove_8 : decode cX1_remove 8 = .ok (.return_, 1) := by decide +kernel
theorem dX1_remove_9 : decode cX1_remove 9 = .ok (.aload_n 0, 1) := by decide +kernel
theorem dX1_remove_10 : decode cX1_remove 10 = .ok (.getfield 11, 3) := by decide +kernel
theorem dX1_remove_13 : decode cX1_remove 13 = .ok (.iload_n 1, 1) := by decide +kernel
theorem dX1_remove_14 : decode cX1_remove 14 = .ok (.aaload, 1) := by decide +kernel
theorem dX1_remove_15 : decode cX1_remove 15 = .ok (.astore_n 2, 1) := by decide +kernel
theorem dX1_remove_16 : decode cX1_remove 16 = .ok (.iload_n 1, 1) := by decide +kernel
theorem dX1_remove_17 : decode cX1_remove 17 = .ok (.istore_n 3, 1) := by decide +kernel
theorem dX1_remove_18 : decode cX1_remove 18 = .ok (.iload_n 3, 1) := by decide +kernel
theorem dX1_remove_19 : decode cX1_remove 19 = .ok (.iconst 1, 1) := by decide +kernel
theorem dX1_remove_20 : decode cX1_remove 20 = .ok (.iadd, 1) := by decide +kernel
theorem dX1_remove_21 : decode cX1_remove 21 = .ok (.aload_n 0, 1) := by decide +kernel
theorem dX1_remove_22 : decode cX1_remove 22 = .ok (.getfield 18, 3) := by decide +kernel
theorem dX1_remove_25 : decode cX1_remove 25 = .ok (.if_icmp .ge 23, 3) := by decide +kernel
theorem dX1_remove_28 : decode cX1_remove 28 = .ok (.aload_n 0, 1) := by decide +kernel
theorem dX1_remove_29 : decode cX1_remove 29 = .ok (.getfield 11, 3) := by decide +kernel
theorem dX1_remove_32 : decode cX1_remove 32 = .ok (.iload_n 3, 1) := by decide +kernel
theorem dX1_remove_33 : decode cX1_remove 33 = .ok (.aload_n 0, 1) := by decide +kernel
theorem dX1_remove_34 : decode cX1_remove 34 = .ok (.getfield 11, 3) := by decide +kernel
theorem dX1_remove_37 : decode cX1_remove 37 = .ok (.iload_n 3, 1) := by decide +kernel
theorem dX1_remove_38 : decode cX1_remove 38 = .ok (.iconst 1, 1) := by decide +kernel
theorem dX1_remove_39 : decode cX1_remove 39 = .ok (.iadd, 1) := by decide +kernel
theorem dX1_remove_40 : decode cX1_remove 40 = .ok (.aaload, 1) := by decide +kernel
theorem dX1_remove_41 : decode cX1_remove 41 = .ok (.aastore, 1) := by decide +kernel
theorem dX1_remove_42 : decode cX1_remove 42 = .ok (.iinc 3 1, 3) := by decide +kernel
theorem dX1_remove_45 : decode cX1_remove 45 = .ok (.goto (-27), 3) := by decide +kernel
theorem dX1_remove_48 : decode cX1_remove 48 = .ok (.aload_n 0, 1) := by decide +kernel
theorem dX1_remove_49 : decode cX1_remove 49 = .ok (.dup, 1) := by decide +kernel
theorem dX1_remove_50 : decode cX1_remove 50 = .ok (.getfield 18, 3) := by decide +kernel
theorem dX1_remove_53 : decode cX1_remove 53 = .ok (.iconst 1, 1) := by decide +kernel
theorem dX1_remove_54 : decode cX1_remove 54 = .ok (.isub, 1) := by decide +kernel
theorem dX1_remove_55 : decode cX1_remove 55 = .ok (.putfield 18, 3) := by decide +kernel
theorem dX1_remove_58 : decode cX1_remove 58 = .ok (.aload_n 0, 1) := by decide +kernel
theorem dX1_remove_59 : decode cX1_remove 59 = .ok (.getfield 11, 3) := by decide +kernel
theorem dX1_remove_62 : decode cX1_remove 62 = .ok (.aload_n 0, 1) := by decide +kernel
theorem dX1_remove_63 : decode cX1_remove 63 = .ok (.getfield 18, 3) := by decide +kernel
theorem dX1_remove_66 : decode cX1_remove 66 = .ok (.aload_n 2, 1) := by decide +kernel
theorem dX1_remove_67 : decode cX1_remove 67 = .ok (.aastore, 1) := by decide +kernel
theorem dX1_remove_68 : decode cX1_remove 68 = .ok (.return_, 1) := by decide +kernel
theorem dX2_init_0 : decode cX2_init 0 = .ok (.aload_n 0, 1) := by decide +kernel
theorem dX2_init_1 : decode cX2_init 1 = .ok (.invokespecial 3, 3) := by decide +kernel
theorem dX2_init_4 : decode cX2_init 4 = .ok (.aload_n 0, 1) := by decide +kernel
theorem dX2_init_5 : decode cX2_init 5 = .ok (.sipush 160, 3) := by decide +kernel
theorem dX2_init_8 : decode cX2_init 8 = .ok (.newarray .int, 2) := by decide +kernel
theorem dX2_init_10 : decode cX2_init 10 = .ok (.putfield 9, 3) := by decide +kernel
theorem dX2_init_13 : decode cX2_init 13 = .ok (.aload_n 0, 1) := by decide +kernel
theorem dX2_init_14 : decode cX2_init 14 = .ok (.new 15, 3) := by decide +kernel
theorem dX2_init_17 : decode cX2_init 17 = .ok (.dup, 1) := by decide +kernel
theorem dX2_init_18 : decode cX2_init 18 = .ok (.invokespecial 17, 3) := by decide +kernel
theorem dX2_init_21 : decode cX2_init 21 = .ok (.putfield 18, 3) := by decide +kernel
theorem dX2_init_24 : decode cX2_init 24 = .ok (.return_, 1) := by decide +kernel
theorem dX2_append_0 : decode cX2_append 0 = .ok (.iconst 0, 1) := by decide +kernel
theorem dX2_append_1 : decode cX2_append 1 = .ok (.istore 4, 2) := by decide +kernel
theorem dX2_append_3 : decode cX2_append 3 = .ok (.iload 4, 2) := by decide +kernel
theorem dX2_append_5 : decode cX2_append 5 = .ok (.iload_n 3, 1) := by decide +kernel
theorem dX2_append_6 : decode cX2_append 6 = .ok (.if_icmp .ge 50, 3) := by decide +kernel
theorem dX2_append_9 : decode cX2_append 9 = .ok (.aload_n 0, 1) := by decide +kernel
theorem dX2_append_10 : decode cX2_append 10 = .ok (.getfield 22, 3) := by decide +kernel
theorem dX2_append_13 : decode cX2_append 13 = .ok (.sipush 160, 3) := by decide +kernel
theorem dX2_append_16 : decode cX2_append 16 = .ok (.if_icmp .ge 40, 3) := by decide +kernel
theorem dX2_append_19 : decode cX2_append 19 = .ok (.aload_n 0, 1) := by decide +kernel
theorem dX2_append_20 : decode cX2_append 20 = .ok (.getfield 9, 3) := by decide +kernel
theorem dX2_append_23 : decode cX2_append 23 = .ok (.aload_n 0, 1) := by decide +kernel
theorem dX2_append_24 : decode cX2_append 24 = .ok (.getfield 22, 3) := by decide +kernel
theorem dX2_append_27 : decode cX2_append 27 = .ok (.lload_n 1, 1) := by decide +kernel
theorem dX2_append_28 : decode cX2_append 28 = .ok (.bipush 8, 2) := by decide +kernel
theorem dX2_append_30 : decode cX2_append 30 = .ok (.iload 4, 2) := by decide +kernel
theorem dX2_append_32 : decode cX2_append 32 = .ok (.imul, 1) := by decide +kernel
theorem dX2_append_33 : decode cX2_append 33 = .ok (.lshr, 1) := by decide +kernel
theorem dX2_append_34 : decode cX2_append 34 = .ok (.ldc2_w 26, 3) := by decide +kernel
theorem dX2_append_37 : decode cX2_append 37 = .ok (.land, 1) := by decide +kernel
theorem dX2_append_38 : decode cX2_append 38 = .ok (.l2i, 1) := by decide +kernel
theorem dX2_append_39 : decode cX2_append 39 = .ok (.iastore, 1) := by decide +kernel
theorem dX2_append_40 : decode cX2_append 40 = .ok (.aload_n 0, 1) := by decide +kernel
theorem dX2_append_41 : decode cX2_append 41 = .ok (.dup, 1) := by decide +kernel
theorem dX2_append_42 : decode cX2_append 42 = .ok (.getfield 22, 3) := by decide +kernel
theorem dX2_append_45 : decode cX2_append 45 = .ok (.iconst 1, 1) := by decide +kernel
theorem dX2_append_46 : decode cX2_append 46 = .ok (.iadd, 1) := by decide +kernel
theorem dX2_append_47 : decode cX2_append 47 = .ok (.putfield 22, 3) := by decide +kernel
theorem dX2_append_50 : decode cX2_append 50 = .ok (.iinc 4 1, 3) := by decide +kernel
theorem dX2_append_53 : decode cX2_append 53 = .ok (.goto (-50), 3) := by decide +kernel
theorem dX2_append_56 : decode cX2_append 56 = .ok (.return_, 1) := by decide +kernel
theorem dX2_read_0 : decode cX2_read 0 = .ok (.aload_n 0, 1) := by decide +kernel
theorem dX2_read_1 : decode cX2_read 1 = .ok (.iconst (-1), 1) := by decide +kernel
theorem dX2_read_2 : decode cX2_read 2 = .ok (.putfield 28, 3) := by decide +kernel
theorem dX2_read_5 : decode cX2_read 5 = .ok (.aload_n 0, 1) := by decide +kernel
theorem dX2_read_6 : decode cX2_read 6 = .ok (.iconst 0, 1) := by decide +kernel
theorem dX2_read_7 : decode cX2_read 7 = .ok (.putfield 31, 3) := by decide +kernel
theorem dX2_read_10 : decode cX2_read 10 = .ok (.aload_n 0, 1) := by decide +kernel
theorem dX2_read_11 : decode cX2_read 11 = .ok (.iconst 0, 1) := by decide +kernel
theorem dX2_read_12 : decode cX2_read 12 = .ok (.putfield 34, 3) := by decide +kernel
theorem dX2_read_15 : decode cX2_read 15 = .ok (.aload_n 0, 1) := by decide +kernel
theorem dX2_read_16 : decode cX2_read 16 = .ok (.iconst 0, 1) := by decide +kernel
theorem dX2_read_17 : decode cX2_read 17 = .ok (.putfield 37, 3) := by decide +kernel
theorem dX2_read_20 : decode cX2_read 20 = .ok (.aload_n 0, 1) := by decide +kernel
theorem dX2_read_21 : decode cX2_read 21 = .ok (.iconst 0, 1) := by decide +kernel
theorem dX2_read_22 : decode cX2_read 22 = .ok (.putfield 40, 3) := by decide +kernel
theorem dX2_read_25 : decode cX2_read 25 = .ok (.iconst 0, 1) := by decide +kernel
theorem dX2_read_26 : decode cX2_read 26 = .ok (.istore_n 2, 1) := by decide +kernel
theorem dX2_read_27 : decode cX2_read 27 = .ok (.iload_n 2, 1) := by decide +kernel
theorem dX2_read_28 : decode cX2_read 28 = .ok (.sipush 160, 3) := by decide +kernel
theorem dX2_read_31 : decode cX2_read 31 = .ok (.if_icmp .gt 60, 3) := by decide +kernel
theorem dX2_read_34 : decode cX2_read 34 = .ok (.aload_n 0, 1) := by decide +kernel
theorem dX2_read_35 : decode cX2_read 35 = .ok (.invokevirtual 43, 3) := by decide +kernel
theorem dX2_read_38 : decode cX2_read 38 = .ok (.aload_n 0, 1) := by decide +kernel
theorem dX2_read_39 : decode cX2_read 39 = .ok (.iload_n 1, 1) := by decide +kernel
theorem dX2_read_40 : decode cX2_read 40 = .ok (.invokevirtual 46, 3) := by decide +kernel
theorem dX2_read_43 : decode cX2_read 43 = .ok (.ifCond .ne 20, 3) := by decide +kernel
theorem dX2_read_46 : decode cX2_read 46 = .ok (.aload_n 0, 1) := by decide +kernel
theorem dX2_read_47 : decode cX2_read 47 = .ok (.aload_n 0, 1) := by decide +kernel
theorem dX2_read_48 : decode cX2_read 48 = .ok (.getfield 50, 3) := by decide +kernel
theorem dX2_read_51 : decode cX2_read 51 = .ok (.putfield 28, 3) := by decide +kernel
theorem dX2_read_54 : decode cX2_read 54 = .ok (.aload_n 0, 1) := by decide +kernel
theorem dX2_read_55 : decode cX2_read 55 = .ok (.aload_n 0, 1) := by decide +kernel
theorem dX2_read_56 : decode cX2_read 56 = .ok (.invokevirtual 53, 3) := by decide +kernel
theorem dX2_read_59 : decode cX2_read 59 = .ok (.putfield 31, 3) := by decide +kernel
theorem dX2_read_62 : decode cX2_read 62 = .ok (.return_, 1) := by decide +kernel
theorem dX2_read_63 : decode cX2_read 63 = .ok (.aload_n 0, 1) := by decide +kernel
theorem dX2_read_64 : decode cX2_read 64 = .ok (.getfield 57, 3) := by decide +kernel
theorem dX2_read_67 : decode cX2_read 67 = .ok (.iconst 3, 1) := by decide +kernel
theorem dX2_read_68 : decode cX2_read 68 = .ok (.if_icmp .ne 17, 3) := by decide +kernel
theorem dX2_read_71 : decode cX2_read 71 = .ok (.aload_n 0, 1) := by decide +kernel
theorem dX2_read_72 : decode cX2_read 72 = .ok (.getfield 18, 3) := by decide +kernel
theorem dX2_read_75 : decode cX2_read 75 = .ok (.aload_n 0, 1) := by decide +kernel
theorem dX2_read_76 : decode cX2_read 76 = .ok (.getfield 40, 3) := by decide +kernel
theorem dX2_read_79 : decode cX2_read 79 = .ok (.iconst 1, 1) := by decide +kernel
theorem dX2_read_80 : decode cX2_read 80 = .ok (.iadd, 1) := by decide +kernel
theorem dX2_read_81 : decode cX2_read 81 = .ok (.putfield 60, 3) := by decide +kernel
theorem dX2_read_84 : decode cX2_read 84 = .ok (.return_, 1) := by decide +kernel
theorem dX2_read_85 : decode cX2_read 85 = .ok (.iinc 2 1, 3) := by decide +kernel
theorem dX2_read_88 : decode cX2_read 88 = .ok (.goto (-61), 3) := by decide +kernel
theorem dX2_read_91 : decode cX2_read 91 = .ok (.return_, 1) := by decide +kernel
theorem dX2_readToken_0 : decode cX2_readToken 0 = .ok (.aload_n 0, 1) := by decide +kernel
theorem dX2_readToken_1 : decode cX2_readToken 1 = .ok (.getfield 34, 3) := by decide +kernel
theorem dX2_readToken_4 : decode cX2_readToken 4 = .ok (.istore_n 1, 1) := by decide +kernel
theorem dX2_readToken_5 : decode cX2_readToken 5 = .ok (.iload_n 1, 1) := by decide +kernel
theorem dX2_readToken_6 : decode cX2_readToken 6 = .ok (.aload_n 0, 1) := by decide +kernel
theorem dX2_readToken_7 : decode cX2_readToken 7 = .ok (.getfield 22, 3) := by decide +kernel
theorem dX2_readToken_10 : decode cX2_readToken 10 = .ok (.if_icmp .ge 20, 3) := by decide +kernel
theorem dX2_readToken_13 : decode cX2_readToken 13 = .ok (.aload_n 0, 1) := by decide +kernel
theorem dX2_readToken_14 : decode cX2_readToken 14 = .ok (.getfield 9, 3) := by decide +kernel
theorem dX2_readToken_17 : decode cX2_readToken 17 = .ok (.iload_n 1, 1) := by decide +kernel
theorem dX2_readToken_18 : decode cX2_readToken 18 = .ok (.iaload, 1) := by decide +kernel
theorem dX2_readToken_19 : decode cX2_readToken 19 = .ok (.bipush 32, 2) := by decide +kernel
theorem dX2_readToken_21 : decode cX2_readToken 21 = .ok (.if_icmp .ne 9, 3) := by decide +kernel
theorem dX2_readToken_24 : decode cX2_readToken 24 = .ok (.iinc 1 1, 3) := by decide +kernel
theorem dX2_readToken_27 : decode cX2_readToken 27 = .ok (.goto (-22), 3) := by decide +kernel
theorem dX2_readToken_30 : decode cX2_readToken 30 = .ok (.aload_n 0, 1) := by decide +kernel
theorem dX2_readToken_31 : decode cX2_readToken 31 = .ok (.iload_n 1, 1) := by decide +kernel
theorem dX2_readToken_32 : decode cX2_readToken 32 = .ok (.putfield 50, 3) := by decide +kernel
theorem dX2_readToken_35 : decode cX2_readToken 35 = .ok (.iload_n 1, 1) := by decide +kernel
theorem dX2_readToken_36 : decode cX2_readToken 36 = .ok (.aload_n 0, 1) := by decide +kernel
theorem dX2_readToken_37 : decode cX2_readToken 37 = .ok (.getfield 22, 3) := by decide +kernel
theorem dX2_readToken_40 : decode cX2_readToken 40 = .ok (.if_icmp .lt 16, 3) := by decide +kernel
theorem dX2_readToken_43 : decode cX2_readToken 43 = .ok (.aload_n 0, 1) := by decide +kernel
theorem dX2_readToken_44 : decode cX2_readToken 44 = .ok (.iload_n 1, 1) := by decide +kernel
theorem dX2_readToken_45 : decode cX2_readToken 45 = .ok (.putfield 34, 3) := by decide +kernel
theorem dX2_readToken_48 : decode cX2_readToken 48 = .ok (.aload_n 0, 1) := by decide +kernel
theorem dX2_readToken_49 : decode cX2_readToken 49 = .ok (.iconst 3, 1) := by decide +kernel
theorem dX2_readToken_50 : decode cX2_readToken 50 = .ok (.putfield 57, 3) := by decide +kernel
theorem dX2_readToken_53 : decode cX2_readToken 53 = .ok (.goto 79, 3) := by decide +kernel
theorem dX2_readToken_56 : decode cX2_readToken 56 = .ok (.aload_n 0, 1) := by decide +kernel
theorem dX2_readToken_57 : decode cX2_readToken 57 = .ok (.getfield 9, 3) := by decide +kernel
theorem dX2_readToken_60 : decode cX2_readToken 60 = .ok (.iload_n 1, 1) := by decide +kernel
theorem dX2_readToken_61 : decode cX2_readToken 61 = .ok (.iaload, 1) := by decide +kernel
theorem dX2_readToken_62 : decode cX2_readToken 62 = .ok (.invokestatic 63, 3) := by decide +kernel
theorem dX2_readToken_65 : decode cX2_readToken 65 = .ok (.ifCond .eq 10, 3) := by decide +kernel
theorem dX2_readToken_68 : decode cX2_readToken 68 = .ok (.aload_n 0, 1) := by decide +kernel
theorem dX2_readToken_69 : decode cX2_readToken 69 = .ok (.invokevirtual 66, 3) := by decide +kernel
theorem dX2_readToken_72 : decode cX2_readToken 72 = .ok (.goto 60, 3) := by decide +kernel
theorem dX2_readToken_75 : decode cX2_readToken 75 = .ok (.aload_n 0, 1) := by decide +kernel
theorem dX2_readToken_76 : decode cX2_readToken 76 = .ok (.getfield 9, 3) := by decide +kernel
theorem dX2_readToken_79 : decode cX2_readToken 79 = .ok (.iload_n 1, 1) := by decide +kernel
theorem dX2_readToken_80 : decode cX2_readToken 80 = .ok (.iaload, 1) := by decide +kernel
theorem dX2_readToken_81 : decode cX2_readToken 81 = .ok (.invokestatic 69, 3) := by decide +kernel
theorem dX2_readToken_84 : decode cX2_readToken 84 = .ok (.ifCond .eq 10, 3) := by decide +kernel
theorem dX2_readToken_87 : decode cX2_readToken 87 = .ok (.aload_n 0, 1) := by decide +kernel
theorem dX2_readToken_88 : decode cX2_readToken 88 = .ok (.invokevirtual 72, 3) := by decide +kernel
theorem dX2_readToken_91 : decode cX2_readToken 91 = .ok (.goto 41, 3) := by decide +kernel
theorem dX2_readToken_94 : decode cX2_readToken 94 = .ok (.aload_n 0, 1) := by decide +kernel
theorem dX2_readToken_95 : decode cX2_readToken 95 = .ok (.iload_n 1, 1) := by decide +kernel
theorem dX2_readToken_96 : decode cX2_readToken 96 = .ok (.iconst 1, 1) := by decide +kernel
theorem dX2_readToken_97 : decode cX2_readToken 97 = .ok (.iadd, 1) := by decide +kernel
theorem dX2_readToken_98 : decode cX2_readToken 98 = .ok (.putfield 34, 3) := by decide +kernel
theorem dX2_readToken_101 : decode cX2_readToken 101 = .ok (.aload_n 0, 1) := by decide +kernel
theorem dX2_readToken_102 : decode cX2_readToken 102 = .ok (.aload_n 0, 1) := by decide +kernel
theorem dX2_readToken_103 : decode cX2_readToken 103 = .ok (.getfield 9, 3) := by decide +kernel
theorem dX2_readToken_106 : decode cX2_readToken 106 = .ok (.iload_n 1, 1) := by decide +kernel
theorem dX2_readToken_107 : decode cX2_readToken 107 = .ok (.iaload, 1) := by decide +kernel
theorem dX2_readToken_108 : decode cX2_readToken 108 = .ok (.bipush 58, 2) := by decide +kernel
theorem dX2_readToken_110 : decode cX2_readToken 110 = .ok (.if_icmp .eq 14, 3) := by decide +kernel
theorem dX2_readToken_113 : decode cX2_readToken 113 = .ok (.aload_n 0, 1) := by decide +kernel
theorem dX2_readToken_114 : decode cX2_readToken 114 = .ok (.getfield 9, 3) := by decide +kernel
theorem dX2_readToken_117 : decode cX2_readToken 117 = .ok (.iload_n 1, 1) := by decide +kernel
theorem dX2_readToken_118 : decode cX2_readToken 118 = .ok (.iaload, 1) := by decide +kernel
theorem dX2_readToken_119 : decode cX2_readToken 119 = .ok (.bipush 44, 2) := by decide +kernel
theorem dX2_readToken_121 : decode cX2_readToken 121 = .ok (.if_icmp .ne 7, 3) := by decide +kernel
theorem dX2_readToken_124 : decode cX2_readToken 124 = .ok (.iconst 2, 1) := by decide +kernel
theorem dX2_readToken_125 : decode cX2_readToken 125 = .ok (.goto 4, 3) := by decide +kernel
theorem dX2_readToken_128 : decode cX2_readToken 128 = .ok (.iconst 4, 1) := by decide +kernel
theorem dX2_readToken_129 : decode cX2_readToken 129 = .ok (.putfield 57, 3) := by decide +kernel
theorem dX2_readToken_132 : decode cX2_readToken 132 = .ok (.return_, 1) := by decide +kernel
theorem dX2_readWord_0 : decode cX2_readWord 0 = .ok (.aload_n 0, 1) := by decide +kernel
theorem dX2_readWord_1 : decode cX2_readWord 1 = .ok (.getfield 50, 3) := by decide +kernel
theorem dX2_readWord_4 : decode cX2_readWord 4 = .ok (.istore_n 1, 1) := by decide +kernel
theorem dX2_readWord_5 : decode cX2_readWord 5 = .ok (.iload_n 1, 1) := by decide +kernel
theorem dX2_readWord_6 : decode cX2_readWord 6 = .ok (.aload_n 0, 1) := by decide +kernel
theorem dX2_readWord_7 : decode cX2_readWord 7 = .ok (.getfield 22, 3) := by decide +kernel
theorem dX2_readWord_10 : decode cX2_readWord 10 = .ok (.if_icmp .ge 21, 3) := by decide +kernel
theorem dX2_readWord_13 : decode cX2_readWord 13 = .ok (.aload_n 0, 1) := by decide +kernel
theorem dX2_readWord_14 : decode cX2_readWord 14 = .ok (.getfield 9, 3) := by decide +kernel
theorem dX2_readWord_17 : decode cX2_readWord 17 = .ok (.iload_n 1, 1) := by decide +kernel
theorem dX2_readWord_18 : decode cX2_readWord 18 = .ok (.iaload, 1) := by decide +kernel
theorem dX2_readWord_19 : decode cX2_readWord 19 = .ok (.invokestatic 63, 3) := by decide +kernel
theorem dX2_readWord_22 : decode cX2_readWord 22 = .ok (.ifCond .eq 9, 3) := by decide +kernel
theorem dX2_readWord_25 : decode cX2_readWord 25 = .ok (.iinc 1 1, 3) := by decide +kernel
theorem dX2_readWord_28 : decode cX2_readWord 28 = .ok (.goto (-23), 3) := by decide +kernel
theorem dX2_readWord_31 : decode cX2_readWord 31 = .ok (.aload_n 0, 1) := by decide +kernel
theorem dX2_readWord_32 : decode cX2_readWord 32 = .ok (.iload_n 1, 1) := by decide +kernel
theorem dX2_readWord_33 : decode cX2_readWord 33 = .ok (.putfield 34, 3) := by decide +kernel
theorem dX2_readWord_36 : decode cX2_readWord 36 = .ok (.aload_n 0, 1) := by decide +kernel
theorem dX2_readWord_37 : decode cX2_readWord 37 = .ok (.iconst 0, 1) := by decide +kernel
theorem dX2_readWord_38 : decode cX2_readWord 38 = .ok (.putfield 57, 3) := by decide +kernel
theorem dX2_readWord_41 : decode cX2_readWord 41 = .ok (.return_, 1) := by decide +kernel
theorem dX2_readNumber_0 : decode cX2_readNumber 0 = .ok (.aload_n 0, 1) := by decide +kernel
theorem dX2_readNumber_1 : decode cX2_readNumber 1 = .ok (.getfield 50, 3) := by decide +kernel
theorem dX2_readNumber_4 : decode cX2_readNumber 4 = .ok (.istore_n 1, 1) := by decide +kernel
theorem dX2_readNumber_5 : decode cX2_readNumber 5 = .ok (.aload_n 0, 1) := by decide +kernel
theorem dX2_readNumber_6 : decode cX2_readNumber 6 = .ok (.iconst 0, 1) := by decide +kernel
theorem dX2_readNumber_7 : decode cX2_readNumber 7 = .ok (.putfield 75, 3) := by decide +kernel
theorem dX2_readNumber_10 : decode cX2_readNumber 10 = .ok (.iload_n 1, 1) := by decide +kernel
theorem dX2_readNumber_11 : decode cX2_readNumber 11 = .ok (.aload_n 0, 1) := by decide +kernel
theorem dX2_readNumber_12 : decode cX2_readNumber 12 = .ok (.getfield 22, 3) := by decide +kernel
theorem dX2_readNumber_15 : decode cX2_readNumber 15 = .ok (.if_icmp .ge 42, 3) := by decide +kernel
theorem dX2_readNumber_18 : decode cX2_readNumber 18 = .ok (.aload_n 0, 1) := by decide +kernel
theorem dX2_readNumber_19 : decode cX2_readNumber 19 = .ok (.getfield 9, 3) := by decide +kernel
theorem dX2_readNumber_22 : decode cX2_readNumber 22 = .ok (.iload_n 1, 1) := by decide +kernel
theorem dX2_readNumber_23 : decode cX2_readNumber 23 = .ok (.iaload, 1) := by decide +kernel
theorem dX2_readNumber_24 : decode cX2_readNumber 24 = .ok (.invokestatic 69, 3) := by decide +kernel
theorem dX2_readNumber_27 : decode cX2_readNumber 27 = .ok (.ifCond .eq 30, 3) := by decide +kernel
theorem dX2_readNumber_30 : decode cX2_readNumber 30 = .ok (.aload_n 0, 1) := by decide +kernel
theorem dX2_readNumber_31 : decode cX2_readNumber 31 = .ok (.aload_n 0, 1) := by decide +kernel
theorem dX2_readNumber_32 : decode cX2_readNumber 32 = .ok (.getfield 75, 3) := by decide +kernel
theorem dX2_readNumber_35 : decode cX2_readNumber 35 = .ok (.bipush 10, 2) := by decide +kernel
theorem dX2_readNumber_37 : decode cX2_readNumber 37 = .ok (.imul, 1) := by decide +kernel
theorem dX2_readNumber_38 : decode cX2_readNumber 38 = .ok (.aload_n 0, 1) := by decide +kernel
theorem dX2_readNumber_39 : decode cX2_readNumber 39 = .ok (.getfield 9, 3) := by decide +kernel
theorem dX2_readNumber_42 : decode cX2_readNumber 42 = .ok (.iload_n 1, 1) := by decide +kernel
theorem dX2_readNumber_43 : decode cX2_readNumber 43 = .ok (.iaload, 1) := by decide +kernel
theorem dX2_readNumber_44 : decode cX2_readNumber 44 = .ok (.iadd, 1) := by decide +kernel
theorem dX2_readNumber_45 : decode cX2_readNumber 45 = .ok (.bipush 48, 2) := by decide +kernel
theorem dX2_readNumber_47 : decode cX2_readNumber 47 = .ok (.isub, 1) := by decide +kernel
theorem dX2_readNumber_48 : decode cX2_readNumber 48 = .ok (.putfield 75, 3) := by decide +kernel
theorem dX2_readNumber_51 : decode cX2_readNumber 51 = .ok (.iinc 1 1, 3) := by decide +kernel
theorem dX2_readNumber_54 : decode cX2_readNumber 54 = .ok (.goto (-44), 3) := by decide +kernel
theorem dX2_readNumber_57 : decode cX2_readNumber 57 = .ok (.aload_n 0, 1) := by decide +kernel
theorem dX2_readNumber_58 : decode cX2_readNumber 58 = .ok (.iload_n 1, 1) := by decide +kernel
theorem dX2_readNumber_59 : decode cX2_readNumber 59 = .ok (.putfield 34, 3) := by decide +kernel
theorem dX2_readNumber_62 : decode cX2_readNumber 62 = .ok (.aload_n 0, 1) := by decide +kernel
theorem dX2_readNumber_63 : decode cX2_readNumber 63 = .ok (.iload_n 1, 1) := by decide +kernel
theorem dX2_readNumber_64 : decode cX2_readNumber 64 = .ok (.aload_n 0, 1) := by decide +kernel
theorem dX2_readNumber_65 : decode cX2_readNumber 65 = .ok (.getfield 50, 3) := by decide +kernel
theorem dX2_readNumber_68 : decode cX2_readNumber 68 = .ok (.isub, 1) := by decide +kernel
theorem dX2_readNumber_69 : decode cX2_readNumber 69 = .ok (.iconst 2, 1) := by decide +kernel
theorem dX2_readNumber_70 : decode cX2_readNumber 70 = .ok (.if_icmp .le 7, 3) := by decide +kernel
theorem dX2_readNumber_73 : decode cX2_readNumber 73 = .ok (.iconst 4, 1) := by decide +kernel
theorem dX2_readNumber_74 : decode cX2_readNumber 74 = .ok (.goto 4, 3) := by decide +kernel
theorem dX2_readNumber_77 : decode cX2_readNumber 77 = .ok (.iconst 1, 1) := by decide +kernel
theorem dX2_readNumber_78 : decode cX2_readNumber 78 = .ok (.putfield 57, 3) := by decide +kernel
theorem dX2_readNumber_81 : decode cX2_readNumber 81 = .ok (.return_, 1) := by decide +kernel
theorem dX2_isLetter_0 : decode cX2_isLetter 0 = .ok (.iload_n 0, 1) := by decide +kernel
theorem dX2_isLetter_1 : decode cX2_isLetter 1 = .ok (.bipush 97, 2) := by decide +kernel
theorem dX2_isLetter_3 : decode cX2_isLetter 3 = .ok (.if_icmp .lt 13, 3) := by decide +kernel
theorem dX2_isLetter_6 : decode cX2_isLetter 6 = .ok (.iload_n 0, 1) := by decide +kernel
theorem dX2_isLetter_7 : decode cX2_isLetter 7 = .ok (.bipush 122, 2) := by decide +kernel
theorem dX2_isLetter_9 : decode cX2_isLetter 9 = .ok (.if_icmp .gt 7, 3) := by decide +kernel
theorem dX2_isLetter_12 : decode cX2_isLetter 12 = .ok (.iconst 1, 1) := by decide +kernel
theorem dX2_isLetter_13 : decode cX2_isLetter 13 = .ok (.goto 4, 3) := by decide +kernel
theorem dX2_isLetter_16 : decode cX2_isLetter 16 = .ok (.iconst 0, 1) := by decide +kernel
theorem dX2_isLetter_17 : decode cX2_isLetter 17 = .ok (.ireturn, 1) := by decide +kernel
theorem dX2_isDigit_0 : decode cX2_isDigit 0 = .ok (.iload_n 0, 1) := by decide +kernel
theorem dX2_isDigit_1 : decode cX2_isDigit 1 = .ok (.bipush 48, 2) := by decide +kernel
theorem dX2_isDigit_3 : decode cX2_isDigit 3 = .ok (.if_icmp .lt 13, 3) := by decide +kernel
theorem dX2_isDigit_6 : decode cX2_isDigit 6 = .ok (.iload_n 0, 1) := by decide +kernel
theorem dX2_isDigit_7 : decode cX2_isDigit 7 = .ok (.bipush 57, 2) := by decide +kernel
theorem dX2_isDigit_9 : decode cX2_isDigit 9 = .ok (.if_icmp .gt 7, 3) := by decide +kernel
theorem dX2_isDigit_12 : decode cX2_isDigit 12 = .ok (.iconst 1, 1) := by decide +kernel
theorem dX2_isDigit_13 : decode cX2_isDigit 13 = .ok (.goto 4, 3) := by decide +kernel
theorem dX2_isDigit_16 : decode cX2_isDigit 16 = .ok (.iconst 0, 1) := by decide +kernel
theorem dX2_isDigit_17 : decode cX2_isDigit 17 = .ok (.ireturn, 1) := by decide +kernel
theorem dX2_takeToken_0 : decode cX2_takeToken 0 = .ok (.aload_n 0, 1) := by decide +kernel
theorem dX2_takeToken_1 : decode cX2_takeToken 1 = .ok (.getfield 57, 3) := by decide +kernel
theorem dX2_takeToken_4 : decode cX2_takeToken 4 = .ok (.tableswitch 72 0 3 #[32, 37, 43, 48], 32) := by decide +kernel
theorem dX2_takeToken_36 : decode cX2_takeToken 36 = .ok (.aload_n 0, 1) := by decide +kernel
theorem dX2_takeToken_37 : decode cX2_takeToken 37 = .ok (.invokevirtual 78, 3) := by decide +kernel
theorem dX2_takeToken_40 : decode cX2_takeToken 40 = .ok (.ireturn, 1) := by decide +kernel
theorem dX2_takeToken_41 : decode cX2_takeToken 41 = .ok (.aload_n 0, 1) := by decide +kernel
theorem dX2_takeToken_42 : decode cX2_takeToken 42 = .ok (.iload_n 1, 1) := by decide +kernel
theorem dX2_takeToken_43 : decode cX2_takeToken 43 = .ok (.invokevirtual 82, 3) := by decide +kernel
theorem dX2_takeToken_46 : decode cX2_takeToken 46 = .ok (.ireturn, 1) := by decide +kernel
theorem dX2_takeToken_47 : decode cX2_takeToken 47 = .ok (.aload_n 0, 1) := by decide +kernel
theorem dX2_takeToken_48 : decode cX2_takeToken 48 = .ok (.invokevirtual 85, 3) := by decide +kernel
theorem dX2_takeToken_51 : decode cX2_takeToken 51 = .ok (.ireturn, 1) := by decide +kernel
theorem dX2_takeToken_52 : decode cX2_takeToken 52 = .ok (.aload_n 0, 1) := by decide +kernel
theorem dX2_takeToken_53 : decode cX2_takeToken 53 = .ok (.getfield 37, 3) := by decide +kernel
theorem dX2_takeToken_56 : decode cX2_takeToken 56 = .ok (.bipush 15, 2) := by decide +kernel
theorem dX2_takeToken_58 : decode cX2_takeToken 58 = .ok (.if_icmp .eq 12, 3) := by decide +kernel
theorem dX2_takeToken_61 : decode cX2_takeToken 61 = .ok (.aload_n 0, 1) := by decide +kernel
theorem dX2_takeToken_62 : decode cX2_takeToken 62 = .ok (.getfield 37, 3) := by decide +kernel
theorem dX2_takeToken_65 : decode cX2_takeToken 65 = .ok (.bipush 16, 2) := by decide +kernel
theorem dX2_takeToken_67 : decode cX2_takeToken 67 = .ok (.if_icmp .ne 7, 3) := by decide +kernel
theorem dX2_takeToken_70 : decode cX2_takeToken 70 = .ok (.iconst 1, 1) := by decide +kernel
theorem dX2_takeToken_71 : decode cX2_takeToken 71 = .ok (.goto 4, 3) := by decide +kernel
theorem dX2_takeToken_74 : decode cX2_takeToken 74 = .ok (.iconst 0, 1) := by decide +kernel
theorem dX2_takeToken_75 : decode cX2_takeToken 75 = .ok (.ireturn, 1) := by decide +kernel
theorem dX2_takeToken_76 : decode cX2_takeToken 76 = .ok (.iconst 0, 1) := by decide +kernel
theorem dX2_takeToken_77 : decode cX2_takeToken 77 = .ok (.ireturn, 1) := by decide +kernel
theorem dX2_takeWord_0 : decode cX2_takeWord 0 = .ok (.aload_n 0, 1) := by decide +kernel
theorem dX2_takeWord_1 : decode cX2_takeWord 1 = .ok (.aload_n 0, 1) := by decide +kernel
theorem dX2_takeWord_2 : decode cX2_takeWord 2 = .ok (.getfield 37, 3) := by decide +kernel
theorem dX2_takeWord_5 : decode cX2_takeWord 5 = .ok (.invokestatic 88, 3) := by decide +kernel
theorem dX2_takeWord_8 : decode cX2_takeWord 8 = .ok (.invokevirtual 92, 3) := by decide +kernel
theorem dX2_takeWord_11 : decode cX2_takeWord 11 = .ok (.ifCond .ne 5, 3) := by decide +kernel
theorem dX2_takeWord_14 : decode cX2_takeWord 14 = .ok (.iconst 0, 1) := by decide +kernel
theorem dX2_takeWord_15 : decode cX2_takeWord 15 = .ok (.ireturn, 1) := by decide +kernel
theorem dX2_takeWord_16 : decode cX2_takeWord 16 = .ok (.aload_n 0, 1) := by decide +kernel
theorem dX2_takeWord_17 : decode cX2_takeWord 17 = .ok (.getfield 37, 3) := by decide +kernel
theorem dX2_takeWord_20 : decode cX2_takeWord 20 = .ok (.bipush 15, 2) := by decide +kernel
theorem dX2_takeWord_22 : decode cX2_takeWord 22 = .ok (.if_icmp .ne 19, 3) := by decide +kernel
theorem dX2_takeWord_25 : decode cX2_takeWord 25 = .ok (.aload_n 0, 1) := by decide +kernel
theorem dX2_takeWord_26 : decode cX2_takeWord 26 = .ok (.getfield 18, 3) := by decide +kernel
theorem dX2_takeWord_29 : decode cX2_takeWord 29 = .ok (.getfield 96, 3) := by decide +kernel
theorem dX2_takeWord_32 : decode cX2_takeWord 32 = .ok (.aload_n 0, 1) := by decide +kernel
theorem dX2_takeWord_33 : decode cX2_takeWord 33 = .ok (.getfield 40, 3) := by decide +kernel
theorem dX2_takeWord_36 : decode cX2_takeWord 36 = .ok (.aaload, 1) := by decide +kernel
theorem dX2_takeWord_37 : decode cX2_takeWord 37 = .ok (.iconst 1, 1) := by decide +kernel
theorem dX2_takeWord_38 : decode cX2_takeWord 38 = .ok (.putfield 100, 3) := by decide +kernel
theorem dX2_takeWord_41 : decode cX2_takeWord 41 = .ok (.aload_n 0, 1) := by decide +kernel
theorem dX2_takeWord_42 : decode cX2_takeWord 42 = .ok (.dup, 1) := by decide +kernel
theorem dX2_takeWord_43 : decode cX2_takeWord 43 = .ok (.getfield 37, 3) := by decide +kernel
theorem dX2_takeWord_46 : decode cX2_takeWord 46 = .ok (.iconst 1, 1) := by decide +kernel
theorem dX2_takeWord_47 : decode cX2_takeWord 47 = .ok (.iadd, 1) := by decide +kernel
theorem dX2_takeWord_48 : decode cX2_takeWord 48 = .ok (.putfield 37, 3) := by decide +kernel
theorem dX2_takeWord_51 : decode cX2_takeWord 51 = .ok (.iconst 1, 1) := by decide +kernel
theorem dX2_takeWord_52 : decode cX2_takeWord 52 = .ok (.ireturn, 1) := by decide +kernel
theorem dX2_takeNumber_0 : decode cX2_takeNumber 0 = .ok (.aload_n 0, 1) := by decide +kernel
theorem dX2_takeNumber_1 : decode cX2_takeNumber 1 = .ok (.getfield 37, 3) := by decide +kernel
theorem dX2_takeNumber_4 : decode cX2_takeNumber 4 = .ok (.invokestatic 106, 3) := by decide +kernel
theorem dX2_takeNumber_7 : decode cX2_takeNumber 7 = .ok (.ifCond .eq 26, 3) := by decide +kernel
theorem dX2_takeNumber_10 : decode cX2_takeNumber 10 = .ok (.aload_n 0, 1) := by decide +kernel
theorem dX2_takeNumber_11 : decode cX2_takeNumber 11 = .ok (.getfield 75, 3) := by decide +kernel
theorem dX2_takeNumber_14 : decode cX2_takeNumber 14 = .ok (.aload_n 0, 1) := by decide +kernel
theorem dX2_takeNumber_15 : decode cX2_takeNumber 15 = .ok (.invokevirtual 109, 3) := by decide +kernel
theorem dX2_takeNumber_18 : decode cX2_takeNumber 18 = .ok (.if_icmp .lt 15, 3) := by decide +kernel
theorem dX2_takeNumber_21 : decode cX2_takeNumber 21 = .ok (.aload_n 0, 1) := by decide +kernel
theorem dX2_takeNumber_22 : decode cX2_takeNumber 22 = .ok (.getfield 75, 3) := by decide +kernel
theorem dX2_takeNumber_25 : decode cX2_takeNumber 25 = .ok (.aload_n 0, 1) := by decide +kernel
theorem dX2_takeNumber_26 : decode cX2_takeNumber 26 = .ok (.iload_n 1, 1) := by decide +kernel
theorem dX2_takeNumber_27 : decode cX2_takeNumber 27 = .ok (.invokevirtual 112, 3) := by decide +kernel
theorem dX2_takeNumber_30 : decode cX2_takeNumber 30 = .ok (.if_icmp .le 5, 3) := by decide +kernel
theorem dX2_takeNumber_33 : decode cX2_takeNumber 33 = .ok (.iconst 0, 1) := by decide +kernel
theorem dX2_takeNumber_34 : decode cX2_takeNumber 34 = .ok (.ireturn, 1) := by decide +kernel
theorem dX2_takeNumber_35 : decode cX2_takeNumber 35 = .ok (.aload_n 0, 1) := by decide +kernel
theorem dX2_takeNumber_36 : decode cX2_takeNumber 36 = .ok (.invokevirtual 116, 3) := by decide +kernel
theorem dX2_takeNumber_39 : decode cX2_takeNumber 39 = .ok (.aload_n 0, 1) := by decide +kernel
theorem dX2_takeNumber_40 : decode cX2_takeNumber 40 = .ok (.dup, 1) := by decide +kernel
theorem dX2_takeNumber_41 : decode cX2_takeNumber 41 = .ok (.getfield 37, 3) := by decide +kernel
theorem dX2_takeNumber_44 : decode cX2_takeNumber 44 = .ok (.iconst 1, 1) := by decide +kernel
theorem dX2_takeNumber_45 : decode cX2_takeNumber 45 = .ok (.iadd, 1) := by decide +kernel
theorem dX2_takeNumber_46 : decode cX2_takeNumber 46 = .ok (.putfield 37, 3) := by decide +kernel
theorem dX2_takeNumber_49 : decode cX2_takeNumber 49 = .ok (.iconst 1, 1) := by decide +kernel
theorem dX2_takeNumber_50 : decode cX2_takeNumber 50 = .ok (.ireturn, 1) := by decide +kernel
theorem dX2_takeSign_0 : decode cX2_takeSign 0 = .ok (.aload_n 0, 1) := by decide +kernel
theorem dX2_takeSign_1 : decode cX2_takeSign 1 = .ok (.getfield 9, 3) := by decide +kernel
theorem dX2_takeSign_4 : decode cX2_takeSign 4 = .ok (.aload_n 0, 1) := by decide +kernel
theorem dX2_takeSign_5 : decode cX2_takeSign 5 = .ok (.getfield 50, 3) := by decide +kernel
theorem dX2_takeSign_8 : decode cX2_takeSign 8 = .ok (.iaload, 1) := by decide +kernel
theorem dX2_takeSign_9 : decode cX2_takeSign 9 = .ok (.istore_n 1, 1) := by decide +kernel
theorem dX2_takeSign_10 : decode cX2_takeSign 10 = .ok (.aload_n 0, 1) := by decide +kernel
theorem dX2_takeSign_11 : decode cX2_takeSign 11 = .ok (.getfield 37, 3) := by decide +kernel
theorem dX2_takeSign_14 : decode cX2_takeSign 14 = .ok (.bipush 8, 2) := by decide +kernel
theorem dX2_takeSign_16 : decode cX2_takeSign 16 = .ok (.if_icmp .ne 9, 3) := by decide +kernel
theorem dX2_takeSign_19 : decode cX2_takeSign 19 = .ok (.iload_n 1, 1) := by decide +kernel
theorem dX2_takeSign_20 : decode cX2_takeSign 20 = .ok (.bipush 58, 2) := by decide +kernel
theorem dX2_takeSign_22 : decode cX2_takeSign 22 = .ok (.if_icmp .eq 18, 3) := by decide +kernel
theorem dX2_takeSign_25 : decode cX2_takeSign 25 = .ok (.aload_n 0, 1) := by decide +kernel
theorem dX2_takeSign_26 : decode cX2_takeSign 26 = .ok (.getfield 37, 3) := by decide +kernel
theorem dX2_takeSign_29 : decode cX2_takeSign 29 = .ok (.bipush 21, 2) := by decide +kernel
theorem dX2_takeSign_31 : decode cX2_takeSign 31 = .ok (.if_icmp .ne 17, 3) := by decide +kernel
theorem dX2_takeSign_34 : decode cX2_takeSign 34 = .ok (.iload_n 1, 1) := by decide +kernel
theorem dX2_takeSign_35 : decode cX2_takeSign 35 = .ok (.bipush 44, 2) := by decide +kernel
theorem dX2_takeSign_37 : decode cX2_takeSign 37 = .ok (.if_icmp .ne 11, 3) := by decide +kernel
theorem dX2_takeSign_40 : decode cX2_takeSign 40 = .ok (.aload_n 0, 1) := by decide +kernel
theorem dX2_takeSign_41 : decode cX2_takeSign 41 = .ok (.bipush 9, 2) := by decide +kernel
theorem dX2_takeSign_43 : decode cX2_takeSign 43 = .ok (.putfield 37, 3) := by decide +kernel
theorem dX2_takeSign_46 : decode cX2_takeSign 46 = .ok (.iconst 1, 1) := by decide +kernel
theorem dX2_takeSign_47 : decode cX2_takeSign 47 = .ok (.ireturn, 1) := by decide +kernel
theorem dX2_takeSign_48 : decode cX2_takeSign 48 = .ok (.aload_n 0, 1) := by decide +kernel
theorem dX2_takeSign_49 : decode cX2_takeSign 49 = .ok (.getfield 37, 3) := by decide +kernel
theorem dX2_takeSign_52 : decode cX2_takeSign 52 = .ok (.bipush 15, 2) := by decide +kernel
theorem dX2_takeSign_54 : decode cX2_takeSign 54 = .ok (.if_icmp .eq 12, 3) := by decide +kernel
theorem dX2_takeSign_57 : decode cX2_takeSign 57 = .ok (.aload_n 0, 1) := by decide +kernel
theorem dX2_takeSign_58 : decode cX2_takeSign 58 = .ok (.getfield 37, 3) := by decide +kernel
theorem dX2_takeSign_61 : decode cX2_takeSign 61 = .ok (.bipush 16, 2) := by decide +kernel
theorem dX2_takeSign_63 : decode cX2_takeSign 63 = .ok (.if_icmp .ne 37, 3) := by decide +kernel
theorem dX2_takeSign_66 : decode cX2_takeSign 66 = .ok (.iload_n 1, 1) := by decide +kernel
theorem dX2_takeSign_67 : decode cX2_takeSign 67 = .ok (.bipush 44, 2) := by decide +kernel
theorem dX2_takeSign_69 : decode cX2_takeSign 69 = .ok (.if_icmp .ne 31, 3) := by decide +kernel
theorem dX2_takeSign_72 : decode cX2_takeSign 72 = .ok (.aload_n 0, 1) := by decide +kernel
theorem dX2_takeSign_73 : decode cX2_takeSign 73 = .ok (.getfield 40, 3) := by decide +kernel
theorem dX2_takeSign_76 : decode cX2_takeSign 76 = .ok (.iconst 1, 1) := by decide +kernel
theorem dX2_takeSign_77 : decode cX2_takeSign 77 = .ok (.iadd, 1) := by decide +kernel
theorem dX2_takeSign_78 : decode cX2_takeSign 78 = .ok (.iconst 3, 1) := by decide +kernel
theorem dX2_takeSign_79 : decode cX2_takeSign 79 = .ok (.if_icmp .ge 21, 3) := by decide +kernel
theorem dX2_takeSign_82 : decode cX2_takeSign 82 = .ok (.aload_n 0, 1) := by decide +kernel
theorem dX2_takeSign_83 : decode cX2_takeSign 83 = .ok (.dup, 1) := by decide +kernel
theorem dX2_takeSign_84 : decode cX2_takeSign 84 = .ok (.getfield 40, 3) := by decide +kernel
theorem dX2_takeSign_87 : decode cX2_takeSign 87 = .ok (.iconst 1, 1) := by decide +kernel
theorem dX2_takeSign_88 : decode cX2_takeSign 88 = .ok (.iadd, 1) := by decide +kernel
theorem dX2_takeSign_89 : decode cX2_takeSign 89 = .ok (.putfield 40, 3) := by decide +kernel
theorem dX2_takeSign_92 : decode cX2_takeSign 92 = .ok (.aload_n 0, 1) := by decide +kernel
theorem dX2_takeSign_93 : decode cX2_takeSign 93 = .ok (.bipush 17, 2) := by decide +kernel
theorem dX2_takeSign_95 : decode cX2_takeSign 95 = .ok (.putfield 37, 3) := by decide +kernel
theorem dX2_takeSign_98 : decode cX2_takeSign 98 = .ok (.iconst 1, 1) := by decide +kernel
theorem dX2_takeSign_99 : decode cX2_takeSign 99 = .ok (.ireturn, 1) := by decide +kernel
theorem dX2_takeSign_100 : decode cX2_takeSign 100 = .ok (.iconst 0, 1) := by decide +kernel
theorem dX2_takeSign_101 : decode cX2_takeSign 101 = .ok (.ireturn, 1) := by decide +kernel
theorem dX2_tokenIs_0 : decode cX2_tokenIs 0 = .ok (.aload_n 0, 1) := by decide +kernel
theorem dX2_tokenIs_1 : decode cX2_tokenIs 1 = .ok (.getfield 34, 3) := by decide +kernel
theorem dX2_tokenIs_4 : decode cX2_tokenIs 4 = .ok (.aload_n 0, 1) := by decide +kernel
theorem dX2_tokenIs_5 : decode cX2_tokenIs 5 = .ok (.getfield 50, 3) := by decide +kernel
theorem dX2_tokenIs_8 : decode cX2_tokenIs 8 = .ok (.isub, 1) := by decide +kernel
theorem dX2_tokenIs_9 : decode cX2_tokenIs 9 = .ok (.istore_n 2, 1) := by decide +kernel
theorem dX2_tokenIs_10 : decode cX2_tokenIs 10 = .ok (.iload_n 2, 1) := by decide +kernel
theorem dX2_tokenIs_11 : decode cX2_tokenIs 11 = .ok (.aload_n 1, 1) := by decide +kernel
theorem dX2_tokenIs_12 : decode cX2_tokenIs 12 = .ok (.invokevirtual 119, 3) := by decide +kernel
theorem dX2_tokenIs_15 : decode cX2_tokenIs 15 = .ok (.if_icmp .eq 5, 3) := by decide +kernel
theorem dX2_tokenIs_18 : decode cX2_tokenIs 18 = .ok (.iconst 0, 1) := by decide +kernel
theorem dX2_tokenIs_19 : decode cX2_tokenIs 19 = .ok (.ireturn, 1) := by decide +kernel
theorem dX2_tokenIs_20 : decode cX2_tokenIs 20 = .ok (.iconst 0, 1) := by decide +kernel
theorem dX2_tokenIs_21 : decode cX2_tokenIs 21 = .ok (.istore_n 3, 1) := by decide +kernel
theorem dX2_tokenIs_22 : decode cX2_tokenIs 22 = .ok (.iload_n 3, 1) := by decide +kernel
theorem dX2_tokenIs_23 : decode cX2_tokenIs 23 = .ok (.iload_n 2, 1) := by decide +kernel
theorem dX2_tokenIs_24 : decode cX2_tokenIs 24 = .ok (.if_icmp .ge 30, 3) := by decide +kernel
theorem dX2_tokenIs_27 : decode cX2_tokenIs 27 = .ok (.aload_n 0, 1) := by decide +kernel
theorem dX2_tokenIs_28 : decode cX2_tokenIs 28 = .ok (.getfield 9, 3) := by decide +kernel
theorem dX2_tokenIs_31 : decode cX2_tokenIs 31 = .ok (.aload_n 0, 1) := by decide +kernel
theorem dX2_tokenIs_32 : decode cX2_tokenIs 32 = .ok (.getfield 50, 3) := by decide +kernel
theorem dX2_tokenIs_35 : decode cX2_tokenIs 35 = .ok (.iload_n 3, 1) := by decide +kernel
theorem dX2_tokenIs_36 : decode cX2_tokenIs 36 = .ok (.iadd, 1) := by decide +kernel
theorem dX2_tokenIs_37 : decode cX2_tokenIs 37 = .ok (.iaload, 1) := by decide +kernel
theorem dX2_tokenIs_38 : decode cX2_tokenIs 38 = .ok (.aload_n 1, 1) := by decide +kernel
theorem dX2_tokenIs_39 : decode cX2_tokenIs 39 = .ok (.iload_n 3, 1) := by decide +kernel
theorem dX2_tokenIs_40 : decode cX2_tokenIs 40 = .ok (.invokevirtual 124, 3) := by decide +kernel
theorem dX2_tokenIs_43 : decode cX2_tokenIs 43 = .ok (.if_icmp .eq 5, 3) := by decide +kernel
theorem dX2_tokenIs_46 : decode cX2_tokenIs 46 = .ok (.iconst 0, 1) := by decide +kernel
theorem dX2_tokenIs_47 : decode cX2_tokenIs 47 = .ok (.ireturn, 1) := by decide +kernel
theorem dX2_tokenIs_48 : decode cX2_tokenIs 48 = .ok (.iinc 3 1, 3) := by decide +kernel
theorem dX2_tokenIs_51 : decode cX2_tokenIs 51 = .ok (.goto (-29), 3) := by decide +kernel
theorem dX2_tokenIs_54 : decode cX2_tokenIs 54 = .ok (.iconst 1, 1) := by decide +kernel
theorem dX2_tokenIs_55 : decode cX2_tokenIs 55 = .ok (.ireturn, 1) := by decide +kernel
theorem dX2_wordAt_0 : decode cX2_wordAt 0 = .ok (.iload_n 0, 1) := by decide +kernel
theorem dX2_wordAt_1 : decode cX2_wordAt 1 = .ok (.tableswitch 125 0 19 #[95, 125, 98, 125, 101, 125, 104, 125, 125, 107, 125, 110, 125, 113, 125, 116, 125, 119, 125, 122], 95) := by decide +kernel
theorem dX2_wordAt_96 : decode cX2_wordAt 96 = .ok (.ldc 128, 2) := by decide +kernel
theorem dX2_wordAt_98 : decode cX2_wordAt 98 = .ok (.areturn, 1) := by decide +kernel
theorem dX2_wordAt_99 : decode cX2_wordAt 99 = .ok (.ldc 130, 2) := by decide +kernel
theorem dX2_wordAt_101 : decode cX2_wordAt 101 = .ok (.areturn, 1) := by decide +kernel
theorem dX2_wordAt_102 : decode cX2_wordAt 102 = .ok (.ldc 132, 2) := by decide +kernel
theorem dX2_wordAt_104 : decode cX2_wordAt 104 = .ok (.areturn, 1) := by decide +kernel
theorem dX2_wordAt_105 : decode cX2_wordAt 105 = .ok (.ldc 134, 2) := by decide +kernel
theorem dX2_wordAt_107 : decode cX2_wordAt 107 = .ok (.areturn, 1) := by decide +kernel
theorem dX2_wordAt_108 : decode cX2_wordAt 108 = .ok (.ldc 136, 2) := by decide +kernel
theorem dX2_wordAt_110 : decode cX2_wordAt 110 = .ok (.areturn, 1) := by decide +kernel
theorem dX2_wordAt_111 : decode cX2_wordAt 111 = .ok (.ldc 138, 2) := by decide +kernel
theorem dX2_wordAt_113 : decode cX2_wordAt 113 = .ok (.areturn, 1) := by decide +kernel
theorem dX2_wordAt_114 : decode cX2_wordAt 114 = .ok (.ldc 140, 2) := by decide +kernel
theorem dX2_wordAt_116 : decode cX2_wordAt 116 = .ok (.areturn, 1) := by decide +kernel
theorem dX2_wordAt_117 : decode cX2_wordAt 117 = .ok (.ldc 142, 2) := by decide +kernel
theorem dX2_wordAt_119 : decode cX2_wordAt 119 = .ok (.areturn, 1) := by decide +kernel
theorem dX2_wordAt_120 : decode cX2_wordAt 120 = .ok (.ldc 143, 2) := by decide +kernel
theorem dX2_wordAt_122 : decode cX2_wordAt 122 = .ok (.areturn, 1) := by decide +kernel
theorem dX2_wordAt_123 : decode cX2_wordAt 123 = .ok (.ldc 145, 2) := by decide +kernel
theorem dX2_wordAt_125 : decode cX2_wordAt 125 = .ok (.areturn, 1) := by decide +kernel
theorem dX2_wordAt_126 : decode cX2_wordAt 126 = .ok (.ldc 147, 2) := by decide +kernel
theorem dX2_wordAt_128 : decode cX2_wordAt 128 = .ok (.areturn, 1) := by decide +kernel
theorem dX2_isNumberPlace_0 : decode cX2_isNumberPlace 0 = .ok (.iload_n 0, 1) := by decide +kernel
theorem dX2_isNumberPlace_1 : decode cX2_isNumberPlace 1 = .ok (.tableswitch 97 1 20 #[95, 97, 95, 97, 95, 97, 95, 97, 97, 95, 97, 95, 97, 95, 97, 97, 97, 95, 97, 95], 95) := by decide +kernel
theorem dX2_isNumberPlace_96 : decode cX2_isNumberPlace 96 = .ok (.iconst 1, 1) := by decide +kernel
theorem dX2_isNumberPlace_97 : decode cX2_isNumberPlace 97 = .ok (.ireturn, 1) := by decide +kernel
theorem dX2_isNumberPlace_98 : decode cX2_isNumberPlace 98 = .ok (.iconst 0, 1) := by decide +kernel
theorem dX2_isNumberPlace_99 : decode cX2_isNumberPlace 99 = .ok (.ireturn, 1) := by decide +kernel
theorem dX2_leastNumber_0 : decode cX2_leastNumber 0 = .ok (.aload_n 0, 1) := by decide +kernel
theorem dX2_leastNumber_1 : decode cX2_leastNumber 1 = .ok (.getfield 37, 3) := by decide +kernel
theorem dX2_leastNumber_4 : decode cX2_leastNumber 4 = .ok (.lookupswitch 54 #[(7, 36), (10, 36), (20, 38)], 36) := by decide +kernel
theorem dX2_leastNumber_40 : decode cX2_leastNumber 40 = .ok (.iconst 1, 1) := by decide +kernel
theorem dX2_leastNumber_41 : decode cX2_leastNumber 41 = .ok (.ireturn, 1) := by decide +kernel
theorem dX2_leastNumber_42 : decode cX2_leastNumber 42 = .ok (.aload_n 0, 1) := by decide +kernel
theorem dX2_leastNumber_43 : decode cX2_leastNumber 43 = .ok (.getfield 18, 3) := by decide +kernel
theorem dX2_leastNumber_46 : decode cX2_leastNumber 46 = .ok (.getfield 96, 3) := by decide +kernel
theorem dX2_leastNumber_49 : decode cX2_leastNumber 49 = .ok (.aload_n 0, 1) := by decide +kernel
theorem dX2_leastNumber_50 : decode cX2_leastNumber 50 = .ok (.getfield 40, 3) := by decide +kernel
theorem dX2_leastNumber_53 : decode cX2_leastNumber 53 = .ok (.aaload, 1) := by decide +kernel
theorem dX2_leastNumber_54 : decode cX2_leastNumber 54 = .ok (.getfield 149, 3) := by decide +kernel
theorem dX2_leastNumber_57 : decode cX2_leastNumber 57 = .ok (.ireturn, 1) := by decide +kernel
theorem dX2_leastNumber_58 : decode cX2_leastNumber 58 = .ok (.iconst 0, 1) := by decide +kernel
theorem dX2_leastNumber_59 : decode cX2_leastNumber 59 = .ok (.ireturn, 1) := by decide +kernel
theorem dX2_mostNumber_0 : decode cX2_mostNumber 0 = .ok (.aload_n 0, 1) := by decide +kernel
theorem dX2_mostNumber_1 : decode cX2_mostNumber 1 = .ok (.getfield 37, 3) := by decide +kernel
theorem dX2_mostNumber_4 : decode cX2_mostNumber 4 = .ok (.tableswitch 109 1 18 #[88, 109, 90, 109, 92, 109, 96, 109, 109, 99, 109, 101, 109, 103, 109, 109, 109, 106], 88) := by decide +kernel
theorem dX2_mostNumber_92 : decode cX2_mostNumber 92 = .ok (.iconst 3, 1) := by decide +kernel
theorem dX2_mostNumber_93 : decode cX2_mostNumber 93 = .ok (.ireturn, 1) := by decide +kernel
theorem dX2_mostNumber_94 : decode cX2_mostNumber 94 = .ok (.iconst 2, 1) := by decide +kernel
theorem dX2_mostNumber_95 : decode cX2_mostNumber 95 = .ok (.ireturn, 1) := by decide +kernel
theorem dX2_mostNumber_96 : decode cX2_mostNumber 96 = .ok (.iload_n 1, 1) := by decide +kernel
theorem dX2_mostNumber_97 : decode cX2_mostNumber 97 = .ok (.iconst 1, 1) := by decide +kernel
theorem dX2_mostNumber_98 : decode cX2_mostNumber 98 = .ok (.isub, 1) := by decide +kernel
theorem dX2_mostNumber_99 : decode cX2_mostNumber 99 = .ok (.ireturn, 1) := by decide +kernel
theorem dX2_mostNumber_100 : decode cX2_mostNumber 100 = .ok (.bipush 99, 2) := by decide +kernel
theorem dX2_mostNumber_102 : decode cX2_mostNumber 102 = .ok (.ireturn, 1) := by decide +kernel
theorem dX2_mostNumber_103 : decode cX2_mostNumber 103 = .ok (.iconst 4, 1) := by decide +kernel
theorem dX2_mostNumber_104 : decode cX2_mostNumber 104 = .ok (.ireturn, 1) := by decide +kernel
theorem dX2_mostNumber_105 : decode cX2_mostNumber 105 = .ok (.iconst 3, 1) := by decide +kernel
theorem dX2_mostNumber_106 : decode cX2_mostNumber 106 = .ok (.ireturn, 1) := by decide +kernel
theorem dX2_mostNumber_107 : decode cX2_mostNumber 107 = .ok (.bipush 8, 2) := by decide +kernel
theorem dX2_mostNumber_109 : decode cX2_mostNumber 109 = .ok (.ireturn, 1) := by decide +kernel
theorem dX2_mostNumber_110 : decode cX2_mostNumber 110 = .ok (.bipush 6, 2) := by decide +kernel
theorem dX2_mostNumber_112 : decode cX2_mostNumber 112 = .ok (.ireturn, 1) := by decide +kernel
theorem dX2_mostNumber_113 : decode cX2_mostNumber 113 = .ok (.aload_n 0, 1) := by decide +kernel
theorem dX2_mostNumber_114 : decode cX2_mostNumber 114 = .ok (.getfield 18, 3) := by decide +kernel
theorem dX2_mostNumber_117 : decode cX2_mostNumber 117 = .ok (.getfield 96, 3) := by decide +kernel
theorem dX2_mostNumber_120 : decode cX2_mostNumber 120 = .ok (.aload_n 0, 1) := by decide +kernel
theorem dX2_mostNumber_121 : decode cX2_mostNumber 121 = .ok (.getfield 40, 3) := by decide +kernel
theorem dX2_mostNumber_124 : decode cX2_mostNumber 124 = .ok (.aaload, 1) := by decide +kernel
theorem dX2_mostNumber_125 : decode cX2_mostNumber 125 = .ok (.getfield 149, 3) := by decide +kernel
theorem dX2_mostNumber_128 : decode cX2_mostNumber 128 = .ok (.iconst 3, 1) := by decide +kernel
theorem dX2_mostNumber_129 : decode cX2_mostNumber 129 = .ok (.iadd, 1) := by decide +kernel
theorem dX2_mostNumber_130 : decode cX2_mostNumber 130 = .ok (.ireturn, 1) := by decide +kernel
theorem dX2_keepNumber_0 : decode cX2_keepNumber 0 = .ok (.aload_n 0, 1) := by decide +kernel
theorem dX2_keepNumber_1 : decode cX2_keepNumber 1 = .ok (.getfield 18, 3) := by decide +kernel
theorem dX2_keepNumber_4 : decode cX2_keepNumber 4 = .ok (.getfield 96, 3) := by decide +kernel
theorem dX2_keepNumber_7 : decode cX2_keepNumber 7 = .ok (.aload_n 0, 1) := by decide +kernel
theorem dX2_keepNumber_8 : decode cX2_keepNumber 8 = .ok (.getfield 40, 3) := by decide +kernel
theorem dX2_keepNumber_11 : decode cX2_keepNumber 11 = .ok (.aaload, 1) := by decide +kernel
theorem dX2_keepNumber_12 : decode cX2_keepNumber 12 = .ok (.astore_n 1, 1) := by decide +kernel
theorem dX2_keepNumber_13 : decode cX2_keepNumber 13 = .ok (.aload_n 0, 1) := by decide +kernel
theorem dX2_keepNumber_14 : decode cX2_keepNumber 14 = .ok (.getfield 37, 3) := by decide +kernel
theorem dX2_keepNumber_17 : decode cX2_keepNumber 17 = .ok (.tableswitch 192 1 18 #[87, 192, 101, 192, 115, 192, 129, 192, 192, 143, 192, 154, 192, 165, 192, 192, 192, 181], 87) := by decide +kernel
theorem dX2_keepNumber_104 : decode cX2_keepNumber 104 = .ok (.aload_n 0, 1) := by decide +kernel
theorem dX2_keepNumber_105 : decode cX2_keepNumber 105 = .ok (.getfield 18, 3) := by decide +kernel
theorem dX2_keepNumber_108 : decode cX2_keepNumber 108 = .ok (.aload_n 0, 1) := by decide +kernel
theorem dX2_keepNumber_109 : decode cX2_keepNumber 109 = .ok (.getfield 75, 3) := by decide +kernel
theorem dX2_keepNumber_112 : decode cX2_keepNumber 112 = .ok (.putfield 152, 3) := by decide +kernel
theorem dX2_keepNumber_115 : decode cX2_keepNumber 115 = .ok (.goto 102, 3) := by decide +kernel
theorem dX2_keepNumber_118 : decode cX2_keepNumber 118 = .ok (.aload_n 0, 1) := by decide +kernel
theorem dX2_keepNumber_119 : decode cX2_keepNumber 119 = .ok (.getfield 18, 3) := by decide +kernel
theorem dX2_keepNumber_122 : decode cX2_keepNumber 122 = .ok (.aload_n 0, 1) := by decide +kernel
theorem dX2_keepNumber_123 : decode cX2_keepNumber 123 = .ok (.getfield 75, 3) := by decide +kernel
theorem dX2_keepNumber_126 : decode cX2_keepNumber 126 = .ok (.putfield 154, 3) := by decide +kernel
theorem dX2_keepNumber_129 : decode cX2_keepNumber 129 = .ok (.goto 88, 3) := by decide +kernel
theorem dX2_keepNumber_132 : decode cX2_keepNumber 132 = .ok (.aload_n 0, 1) := by decide +kernel
theorem dX2_keepNumber_133 : decode cX2_keepNumber 133 = .ok (.getfield 18, 3) := by decide +kernel
theorem dX2_keepNumber_136 : decode cX2_keepNumber 136 = .ok (.aload_n 0, 1) := by decide +kernel
theorem dX2_keepNumber_137 : decode cX2_keepNumber 137 = .ok (.getfield 75, 3) := by decide +kernel
theorem dX2_keepNumber_140 : decode cX2_keepNumber 140 = .ok (.putfield 157, 3) := by decide +kernel
theorem dX2_keepNumber_143 : decode cX2_keepNumber 143 = .ok (.goto 74, 3) := by decide +kernel
theorem dX2_keepNumber_146 : decode cX2_keepNumber 146 = .ok (.aload_n 0, 1) := by decide +kernel
theorem dX2_keepNumber_147 : decode cX2_keepNumber 147 = .ok (.getfield 18, 3) := by decide +kernel
theorem dX2_keepNumber_150 : decode cX2_keepNumber 150 = .ok (.aload_n 0, 1) := by decide +kernel
theorem dX2_keepNumber_151 : decode cX2_keepNumber 151 = .ok (.getfield 75, 3) := by decide +kernel
theorem dX2_keepNumber_154 : decode cX2_keepNumber 154 = .ok (.putfield 160, 3) := by decide +kernel
theorem dX2_keepNumber_157 : decode cX2_keepNumber 157 = .ok (.goto 60, 3) := by decide +kernel
theorem dX2_keepNumber_160 : decode cX2_keepNumber 160 = .ok (.aload_n 1, 1) := by decide +kernel
theorem dX2_keepNumber_161 : decode cX2_keepNumber 161 = .ok (.aload_n 0, 1) := by decide +kernel
theorem dX2_keepNumber_162 : decode cX2_keepNumber 162 = .ok (.getfield 75, 3) := by decide +kernel
theorem dX2_keepNumber_165 : decode cX2_keepNumber 165 = .ok (.putfield 162, 3) := by decide +kernel
theorem dX2_keepNumber_168 : decode cX2_keepNumber 168 = .ok (.goto 49, 3) := by decide +kernel
theorem dX2_keepNumber_171 : decode cX2_keepNumber 171 = .ok (.aload_n 1, 1) := by decide +kernel
theorem dX2_keepNumber_172 : decode cX2_keepNumber 172 = .ok (.aload_n 0, 1) := by decide +kernel
theorem dX2_keepNumber_173 : decode cX2_keepNumber 173 = .ok (.getfield 75, 3) := by decide +kernel
theorem dX2_keepNumber_176 : decode cX2_keepNumber 176 = .ok (.putfield 165, 3) := by decide +kernel
theorem dX2_keepNumber_179 : decode cX2_keepNumber 179 = .ok (.goto 38, 3) := by decide +kernel
theorem dX2_keepNumber_182 : decode cX2_keepNumber 182 = .ok (.aload_n 1, 1) := by decide +kernel
theorem dX2_keepNumber_183 : decode cX2_keepNumber 183 = .ok (.aload_n 0, 1) := by decide +kernel
theorem dX2_keepNumber_184 : decode cX2_keepNumber 184 = .ok (.getfield 75, 3) := by decide +kernel
theorem dX2_keepNumber_187 : decode cX2_keepNumber 187 = .ok (.putfield 168, 3) := by decide +kernel
theorem dX2_keepNumber_190 : decode cX2_keepNumber 190 = .ok (.aload_n 1, 1) := by decide +kernel
theorem dX2_keepNumber_191 : decode cX2_keepNumber 191 = .ok (.iconst 0, 1) := by decide +kernel
theorem dX2_keepNumber_192 : decode cX2_keepNumber 192 = .ok (.putfield 100, 3) := by decide +kernel
theorem dX2_keepNumber_195 : decode cX2_keepNumber 195 = .ok (.goto 22, 3) := by decide +kernel
theorem dX2_keepNumber_198 : decode cX2_keepNumber 198 = .ok (.aload_n 1, 1) := by decide +kernel
theorem dX2_keepNumber_199 : decode cX2_keepNumber 199 = .ok (.aload_n 0, 1) := by decide +kernel
theorem dX2_keepNumber_200 : decode cX2_keepNumber 200 = .ok (.getfield 75, 3) := by decide +kernel
theorem dX2_keepNumber_203 : decode cX2_keepNumber 203 = .ok (.putfield 149, 3) := by decide +kernel
theorem dX2_keepNumber_206 : decode cX2_keepNumber 206 = .ok (.goto 11, 3) := by decide +kernel
theorem dX2_keepNumber_209 : decode cX2_keepNumber 209 = .ok (.aload_n 1, 1) := by decide +kernel
theorem dX2_keepNumber_210 : decode cX2_keepNumber 210 = .ok (.aload_n 0, 1) := by decide +kernel
theorem dX2_keepNumber_211 : decode cX2_keepNumber 211 = .ok (.getfield 75, 3) := by decide +kernel
theorem dX2_keepNumber_214 : decode cX2_keepNumber 214 = .ok (.putfield 171, 3) := by decide +kernel
theorem dX2_keepNumber_217 : decode cX2_keepNumber 217 = .ok (.return_, 1) := by decide +kernel
theorem dX2_whatCanStand_0 : decode cX2_whatCanStand 0 = .ok (.aload_n 0, 1) := by decide +kernel
theorem dX2_whatCanStand_1 : decode cX2_whatCanStand 1 = .ok (.getfield 40, 3) := by decide +kernel
theorem dX2_whatCanStand_4 : decode cX2_whatCanStand 4 = .ok (.iconst 1, 1) := by decide +kernel
theorem dX2_whatCanStand_5 : decode cX2_whatCanStand 5 = .ok (.iadd, 1) := by decide +kernel
theorem dX2_whatCanStand_6 : decode cX2_whatCanStand 6 = .ok (.iconst 3, 1) := by decide +kernel
theorem dX2_whatCanStand_7 : decode cX2_whatCanStand 7 = .ok (.if_icmp .ge 7, 3) := by decide +kernel
theorem dX2_whatCanStand_10 : decode cX2_whatCanStand 10 = .ok (.iconst 4, 1) := by decide +kernel
theorem dX2_whatCanStand_11 : decode cX2_whatCanStand 11 = .ok (.goto 4, 3) := by decide +kernel
theorem dX2_whatCanStand_14 : decode cX2_whatCanStand 14 = .ok (.iconst 0, 1) := by decide +kernel
theorem dX2_whatCanStand_15 : decode cX2_whatCanStand 15 = .ok (.istore_n 1, 1) := by decide +kernel
theorem dX2_whatCanStand_16 : decode cX2_whatCanStand 16 = .ok (.aload_n 0, 1) := by decide +kernel
theorem dX2_whatCanStand_17 : decode cX2_whatCanStand 17 = .ok (.getfield 37, 3) := by decide +kernel
theorem dX2_whatCanStand_20 : decode cX2_whatCanStand 20 = .ok (.lookupswitch 56 #[(8, 44), (15, 46), (16, 51), (21, 44)], 44) := by decide +kernel
theorem dX2_whatCanStand_64 : decode cX2_whatCanStand 64 = .ok (.iconst 4, 1) := by decide +kernel
theorem dX2_whatCanStand_65 : decode cX2_whatCanStand 65 = .ok (.ireturn, 1) := by decide +kernel
theorem dX2_whatCanStand_66 : decode cX2_whatCanStand 66 = .ok (.bipush 24, 2) := by decide +kernel
theorem dX2_whatCanStand_68 : decode cX2_whatCanStand 68 = .ok (.iload_n 1, 1) := by decide +kernel
theorem dX2_whatCanStand_69 : decode cX2_whatCanStand 69 = .ok (.ior, 1) := by decide +kernel
theorem dX2_whatCanStand_70 : decode cX2_whatCanStand 70 = .ok (.ireturn, 1) := by decide +kernel
theorem dX2_whatCanStand_71 : decode cX2_whatCanStand 71 = .ok (.bipush 8, 2) := by decide +kernel
theorem dX2_whatCanStand_73 : decode cX2_whatCanStand 73 = .ok (.iload_n 1, 1) := by decide +kernel
theorem dX2_whatCanStand_74 : decode cX2_whatCanStand 74 = .ok (.ior, 1) := by decide +kernel
theorem dX2_whatCanStand_75 : decode cX2_whatCanStand 75 = .ok (.ireturn, 1) := by decide +kernel
theorem dX2_whatCanStand_76 : decode cX2_whatCanStand 76 = .ok (.aload_n 0, 1) := by decide +kernel
theorem dX2_whatCanStand_77 : decode cX2_whatCanStand 77 = .ok (.getfield 37, 3) := by decide +kernel
theorem dX2_whatCanStand_80 : decode cX2_whatCanStand 80 = .ok (.invokestatic 106, 3) := by decide +kernel
theorem dX2_whatCanStand_83 : decode cX2_whatCanStand 83 = .ok (.ifCond .eq 7, 3) := by decide +kernel
theorem dX2_whatCanStand_86 : decode cX2_whatCanStand 86 = .ok (.iconst 2, 1) := by decide +kernel
theorem dX2_whatCanStand_87 : decode cX2_whatCanStand 87 = .ok (.goto 4, 3) := by decide +kernel
theorem dX2_whatCanStand_90 : decode cX2_whatCanStand 90 = .ok (.iconst 1, 1) := by decide +kernel
theorem dX2_whatCanStand_91 : decode cX2_whatCanStand 91 = .ok (.ireturn, 1) := by decide +kernel
theorem dX3_init_0 : decode cX3_init 0 = .ok (.aload_n 0, 1) := by decide +kernel
theorem dX3_init_1 : decode cX3_init 1 = .ok (.invokespecial 3, 3) := by decide +kernel
theorem dX3_init_4 : decode cX3_init 4 = .ok (.aload_n 0, 1) := by decide +kernel
theorem dX3_init_5 : decode cX3_init 5 = .ok (.bipush 8, 2) := by decide +kernel
theorem dX3_init_7 : decode cX3_init 7 = .ok (.newarray .int, 2) := by decide +kernel
theorem dX3_init_9 : decode cX3_init 9 = .ok (.putfield 9, 3) := by decide +kernel
theorem dX3_init_12 : decode cX3_init 12 = .ok (.aload_n 0, 1) := by decide +kernel
theorem dX3_init_13 : decode cX3_init 13 = .ok (.iconst 4, 1) := by decide +kernel
theorem dX3_init_14 : decode cX3_init 14 = .ok (.newarray .int, 2) := by decide +kernel
theorem dX3_init_16 : decode cX3_init 16 = .ok (.putfield 15, 3) := by decide +kernel
theorem dX3_init_19 : decode cX3_init 19 = .ok (.iconst 0, 1) := by decide +kernel
theorem dX3_init_20 : decode cX3_init 20 = .ok (.istore_n 1, 1) := by decide +kernel
theorem dX3_init_21 : decode cX3_init 21 = .ok (.iload_n 1, 1) := by decide +kernel
theorem dX3_init_22 : decode cX3_init 22 = .ok (.iconst 4, 1) := by decide +kernel
theorem dX3_init_23 : decode cX3_init 23 = .ok (.if_icmp .ge 16, 3) := by decide +kernel
theorem dX3_init_26 : decode cX3_init 26 = .ok (.aload_n 0, 1) := by decide +kernel
theorem dX3_init_27 : decode cX3_init 27 = .ok (.getfield 15, 3) := by decide +kernel
theorem dX3_init_30 : decode cX3_init 30 = .ok (.iload_n 1, 1) := by decide +kernel
theorem dX3_init_31 : decode cX3_init 31 = .ok (.iconst 1, 1) := by decide +kernel
theorem dX3_init_32 : decode cX3_init 32 = .ok (.iastore, 1) := by decide +kernel
theorem dX3_init_33 : decode cX3_init 33 = .ok (.iinc 1 1, 3) := by decide +kernel
theorem dX3_init_36 : decode cX3_init 36 = .ok (.goto (-15), 3) := by decide +kernel
theorem dX3_init_39 : decode cX3_init 39 = .ok (.return_, 1) := by decide +kernel
theorem dX3_enter_0 : decode cX3_enter 0 = .ok (.aload_n 0, 1) := by decide +kernel
theorem dX3_enter_1 : decode cX3_enter 1 = .ok (.getfield 9, 3) := by decide +kernel
theorem dX3_enter_4 : decode cX3_enter 4 = .ok (.iload_n 1, 1) := by decide +kernel
theorem dX3_enter_5 : decode cX3_enter 5 = .ok (.dup2, 1) := by decide +kernel
theorem dX3_enter_6 : decode cX3_enter 6 = .ok (.iaload, 1) := by decide +kernel
theorem dX3_enter_7 : decode cX3_enter 7 = .ok (.iconst 1, 1) := by decide +kernel
theorem dX3_enter_8 : decode cX3_enter 8 = .ok (.iadd, 1) := by decide +kernel
theorem dX3_enter_9 : decode cX3_enter 9 = .ok (.iastore, 1) := by decide +kernel
theorem dX3_enter_10 : decode cX3_enter 10 = .ok (.aload_n 0, 1) := by decide +kernel
theorem dX3_enter_11 : decode cX3_enter 11 = .ok (.getfield 9, 3) := by decide +kernel
theorem dX3_enter_14 : decode cX3_enter 14 = .ok (.bipush 7, 2) := by decide +kernel
theorem dX3_enter_16 : decode cX3_enter 16 = .ok (.dup2, 1) := by decide +kernel
theorem dX3_enter_17 : decode cX3_enter 17 = .ok (.iaload, 1) := by decide +kernel
theorem dX3_enter_18 : decode cX3_enter 18 = .ok (.iconst 1, 1) := by decide +kernel
theorem dX3_enter_19 : decode cX3_enter 19 = .ok (.iadd, 1) := by decide +kernel
theorem dX3_enter_20 : decode cX3_enter 20 = .ok (.iastore, 1) := by decide +kernel
theorem dX3_enter_21 : decode cX3_enter 21 = .ok (.return_, 1) := by decide +kernel
theorem dX3_debtOf_0 : decode cX3_debtOf 0 = .ok (.iconst 0, 1) := by decide +kernel
theorem dX3_debtOf_1 : decode cX3_debtOf 1 = .ok (.istore_n 2, 1) := by decide +kernel
theorem dX3_debtOf_2 : decode cX3_debtOf 2 = .ok (.iconst 0, 1) := by decide +kernel
theorem dX3_debtOf_3 : decode cX3_debtOf 3 = .ok (.istore_n 3, 1) := by decide +kernel
theorem dX3_debtOf_4 : decode cX3_debtOf 4 = .ok (.iconst 0, 1) := by decide +kernel
theorem dX3_debtOf_5 : decode cX3_debtOf 5 = .ok (.istore 4, 2) := by decide +kernel
theorem dX3_debtOf_7 : decode cX3_debtOf 7 = .ok (.iload 4, 2) := by decide +kernel
theorem dX3_debtOf_9 : decode cX3_debtOf 9 = .ok (.iconst 4, 1) := by decide +kernel
theorem dX3_debtOf_10 : decode cX3_debtOf 10 = .ok (.if_icmp .ge 29, 3) := by decide +kernel
theorem dX3_debtOf_13 : decode cX3_debtOf 13 = .ok (.iload_n 2, 1) := by decide +kernel
theorem dX3_debtOf_14 : decode cX3_debtOf 14 = .ok (.aload_n 0, 1) := by decide +kernel
theorem dX3_debtOf_15 : decode cX3_debtOf 15 = .ok (.getfield 9, 3) := by decide +kernel
theorem dX3_debtOf_18 : decode cX3_debtOf 18 = .ok (.iload 4, 2) := by decide +kernel
theorem dX3_debtOf_20 : decode cX3_debtOf 20 = .ok (.iaload, 1) := by decide +kernel
theorem dX3_debtOf_21 : decode cX3_debtOf 21 = .ok (.iadd, 1) := by decide +kernel
theorem dX3_debtOf_22 : decode cX3_debtOf 22 = .ok (.istore_n 2, 1) := by decide +kernel
theorem dX3_debtOf_23 : decode cX3_debtOf 23 = .ok (.iload_n 3, 1) := by decide +kernel
theorem dX3_debtOf_24 : decode cX3_debtOf 24 = .ok (.aload_n 0, 1) := by decide +kernel
theorem dX3_debtOf_25 : decode cX3_debtOf 25 = .ok (.getfield 15, 3) := by decide +kernel
theorem dX3_debtOf_28 : decode cX3_debtOf 28 = .ok (.iload 4, 2) := by decide +kernel
theorem dX3_debtOf_30 : decode cX3_debtOf 30 = .ok (.iaload, 1) := by decide +kernel
theorem dX3_debtOf_31 : decode cX3_debtOf 31 = .ok (.iadd, 1) := by decide +kernel
theorem dX3_debtOf_32 : decode cX3_debtOf 32 = .ok (.istore_n 3, 1) := by decide +kernel
theorem dX3_debtOf_33 : decode cX3_debtOf 33 = .ok (.iinc 4 1, 3) := by decide +kernel
theorem dX3_debtOf_36 : decode cX3_debtOf 36 = .ok (.goto (-29), 3) := by decide +kernel
theorem dX3_debtOf_39 : decode cX3_debtOf 39 = .ok (.aload_n 0, 1) := by decide +kernel
theorem dX3_debtOf_40 : decode cX3_debtOf 40 = .ok (.getfield 15, 3) := by decide +kernel
theorem dX3_debtOf_43 : decode cX3_debtOf 43 = .ok (.iload_n 1, 1) := by decide +kernel
theorem dX3_debtOf_44 : decode cX3_debtOf 44 = .ok (.iaload, 1) := by decide +kernel
theorem dX3_debtOf_45 : decode cX3_debtOf 45 = .ok (.iload_n 2, 1) := by decide +kernel
theorem dX3_debtOf_46 : decode cX3_debtOf 46 = .ok (.imul, 1) := by decide +kernel
theorem dX3_debtOf_47 : decode cX3_debtOf 47 = .ok (.iload_n 3, 1) := by decide +kernel
theorem dX3_debtOf_48 : decode cX3_debtOf 48 = .ok (.aload_n 0, 1) := by decide +kernel
theorem dX3_debtOf_49 : decode cX3_debtOf 49 = .ok (.getfield 9, 3) := by decide +kernel
theorem dX3_debtOf_52 : decode cX3_debtOf 52 = .ok (.iload_n 1, 1) := by decide +kernel
theorem dX3_debtOf_53 : decode cX3_debtOf 53 = .ok (.iaload, 1) := by decide +kernel
theorem dX3_debtOf_54 : decode cX3_debtOf 54 = .ok (.imul, 1) := by decide +kernel
theorem dX3_debtOf_55 : decode cX3_debtOf 55 = .ok (.isub, 1) := by decide +kernel
theorem dX3_debtOf_56 : decode cX3_debtOf 56 = .ok (.ireturn, 1) := by decide +kernel
theorem dX3_deepestInDebt_0 : decode cX3_deepestInDebt 0 = .ok (.iconst 0, 1) := by decide +kernel
theorem dX3_deepestInDebt_1 : decode cX3_deepestInDebt 1 = .ok (.istore_n 1, 1) := by decide +kernel
theorem dX3_deepestInDebt_2 : decode cX3_deepestInDebt 2 = .ok (.iconst 1, 1) := by decide +kernel
theorem dX3_deepestInDebt_3 : decode cX3_deepestInDebt 3 = .ok (.istore_n 2, 1) := by decide +kernel
theorem dX3_deepestInDebt_4 : decode cX3_deepestInDebt 4 = .ok (.iload_n 2, 1) := by decide +kernel
theorem dX3_deepestInDebt_5 : decode cX3_deepestInDebt 5 = .ok (.iconst 4, 1) := by decide +kernel
theorem dX3_deepestInDebt_6 : decode cX3_deepestInDebt 6 = .ok (.if_icmp .ge 24, 3) := by decide +kernel
theorem dX3_deepestInDebt_9 : decode cX3_deepestInDebt 9 = .ok (.aload_n 0, 1) := by decide +kernel
theorem dX3_deepestInDebt_10 : decode cX3_deepestInDebt 10 = .ok (.iload_n 2, 1) := by decide +kernel
theorem dX3_deepestInDebt_11 : decode cX3_deepestInDebt 11 = .ok (.invokevirtual 18, 3) := by decide +kernel
theorem dX3_deepestInDebt_14 : decode cX3_deepestInDebt 14 = .ok (.aload_n 0, 1) := by decide +kernel
theorem dX3_deepestInDebt_15 : decode cX3_deepestInDebt 15 = .ok (.iload_n 1, 1) := by decide +kernel
theorem dX3_deepestInDebt_16 : decode cX3_deepestInDebt 16 = .ok (.invokevirtual 18, 3) := by decide +kernel
theorem dX3_deepestInDebt_19 : decode cX3_deepestInDebt 19 = .ok (.if_icmp .le 5, 3) := by decide +kernel
theorem dX3_deepestInDebt_22 : decode cX3_deepestInDebt 22 = .ok (.iload_n 2, 1) := by decide +kernel
theorem dX3_deepestInDebt_23 : decode cX3_deepestInDebt 23 = .ok (.istore_n 1, 1) := by decide +kernel
theorem dX3_deepestInDebt_24 : decode cX3_deepestInDebt 24 = .ok (.iinc 2 1, 3) := by decide +kernel
theorem dX3_deepestInDebt_27 : decode cX3_deepestInDebt 27 = .ok (.goto (-23), 3) := by decide +kernel
theorem dX3_deepestInDebt_30 : decode cX3_deepestInDebt 30 = .ok (.iload_n 1, 1) := by decide +kernel
theorem dX3_deepestInDebt_31 : decode cX3_deepestInDebt 31 = .ok (.ireturn, 1) := by decide +kernel
theorem dX4_init_0 : decode cX4_init 0 = .ok (.aload_n 0, 1) := by decide +kernel
theorem dX4_init_1 : decode cX4_init 1 = .ok (.invokespecial 3, 3) := by decide +kernel
theorem dX4_init_4 : decode cX4_init 4 = .ok (.aload_n 0, 1) := by decide +kernel
theorem dX4_init_5 : decode cX4_init 5 = .ok (.bipush 10, 2) := by decide +kernel
theorem dX4_init_7 : decode cX4_init 7 = .ok (.putfield 9, 3) := by decide +kernel
theorem dX4_init_10 : decode cX4_init 10 = .ok (.aload_n 0, 1) := by decide +kernel
theorem dX4_init_11 : decode cX4_init 11 = .ok (.bipush 8, 2) := by decide +kernel
theorem dX4_init_13 : decode cX4_init 13 = .ok (.anewarray 15, 3) := by decide +kernel
theorem dX4_init_16 : decode cX4_init 16 = .ok (.putfield 17, 3) := by decide +kernel
theorem dX4_init_19 : decode cX4_init 19 = .ok (.aload_n 0, 1) := by decide +kernel
theorem dX4_init_20 : decode cX4_init 20 = .ok (.bipush 6, 2) := by decide +kernel
theorem dX4_init_22 : decode cX4_init 22 = .ok (.bipush 12, 2) := by decide +kernel
theorem dX4_init_24 : decode cX4_init 24 = .ok (.multianewarray 21 2, 4) := by decide +kernel
theorem dX4_init_28 : decode cX4_init 28 = .ok (.putfield 23, 3) := by decide +kernel
theorem dX4_init_31 : decode cX4_init 31 = .ok (.aload_n 0, 1) := by decide +kernel
theorem dX4_init_32 : decode cX4_init 32 = .ok (.iconst 4, 1) := by decide +kernel
theorem dX4_init_33 : decode cX4_init 33 = .ok (.newarray .int, 2) := by decide +kernel
theorem dX4_init_35 : decode cX4_init 35 = .ok (.putfield 26, 3) := by decide +kernel
theorem dX4_init_38 : decode cX4_init 38 = .ok (.iconst 0, 1) := by decide +kernel
theorem dX4_init_39 : decode cX4_init 39 = .ok (.istore_n 1, 1) := by decide +kernel
theorem dX4_init_40 : decode cX4_init 40 = .ok (.iload_n 1, 1) := by decide +kernel
theorem dX4_init_41 : decode cX4_init 41 = .ok (.bipush 8, 2) := by decide +kernel
theorem dX4_init_43 : decode cX4_init 43 = .ok (.if_icmp .ge 22, 3) := by decide +kernel
theorem dX4_init_46 : decode cX4_init 46 = .ok (.aload_n 0, 1) := by decide +kernel
theorem dX4_init_47 : decode cX4_init 47 = .ok (.getfield 17, 3) := by decide +kernel
theorem dX4_init_50 : decode cX4_init 50 = .ok (.iload_n 1, 1) := by decide +kernel
theorem dX4_init_51 : decode cX4_init 51 = .ok (.new 15, 3) := by decide +kernel
theorem dX4_init_54 : decode cX4_init 54 = .ok (.dup, 1) := by decide +kernel
theorem dX4_init_55 : decode cX4_init 55 = .ok (.invokespecial 30, 3) := by decide +kernel
theorem dX4_init_58 : decode cX4_init 58 = .ok (.aastore, 1) := by decide +kernel
theorem dX4_init_59 : decode cX4_init 59 = .ok (.iinc 1 1, 3) := by decide +kernel
theorem dX4_init_62 : decode cX4_init 62 = .ok (.goto (-22), 3) := by decide +kernel
theorem dX4_init_65 : decode cX4_init 65 = .ok (.aload_n 0, 1) := by decide +kernel
theorem dX4_init_66 : decode cX4_init 66 = .ok (.invokevirtual 31, 3) := by decide +kernel
theorem dX4_init_69 : decode cX4_init 69 = .ok (.return_, 1) := by decide +kernel
theorem dX4_clearSky_0 : decode cX4_clearSky 0 = .ok (.aload_n 0, 1) := by decide +kernel
theorem dX4_clearSky_1 : decode cX4_clearSky 1 = .ok (.iconst (-1), 1) := by decide +kernel
theorem dX4_clearSky_2 : decode cX4_clearSky 2 = .ok (.putfield 34, 3) := by decide +kernel
theorem dX4_clearSky_5 : decode cX4_clearSky 5 = .ok (.iconst 0, 1) := by decide +kernel
theorem dX4_clearSky_6 : decode cX4_clearSky 6 = .ok (.istore_n 1, 1) := by decide +kernel
theorem dX4_clearSky_7 : decode cX4_clearSky 7 = .ok (.iload_n 1, 1) := by decide +kernel
theorem dX4_clearSky_8 : decode cX4_clearSky 8 = .ok (.bipush 12, 2) := by decide +kernel
theorem dX4_clearSky_10 : decode cX4_clearSky 10 = .ok (.if_icmp .ge 27, 3) := by decide +kernel
theorem dX4_clearSky_13 : decode cX4_clearSky 13 = .ok (.aload_n 0, 1) := by decide +kernel
theorem dX4_clearSky_14 : decode cX4_clearSky 14 = .ok (.getfield 23, 3) := by decide +kernel
theorem dX4_clearSky_17 : decode cX4_clearSky 17 = .ok (.iconst 0, 1) := by decide +kernel
theorem dX4_clearSky_18 : decode cX4_clearSky 18 = .ok (.aaload, 1) := by decide +kernel
theorem dX4_clearSky_19 : decode cX4_clearSky 19 = .ok (.iload_n 1, 1) := by decide +kernel
theorem dX4_clearSky_20 : decode cX4_clearSky 20 = .ok (.iconst 1, 1) := by decide +kernel
theorem dX4_clearSky_21 : decode cX4_clearSky 21 = .ok (.iastore, 1) := by decide +kernel
theorem dX4_clearSky_22 : decode cX4_clearSky 22 = .ok (.aload_n 0, 1) := by decide +kernel
theorem dX4_clearSky_23 : decode cX4_clearSky 23 = .ok (.getfield 23, 3) := by decide +kernel
theorem dX4_clearSky_26 : decode cX4_clearSky 26 = .ok (.iconst 1, 1) := by decide +kernel
theorem dX4_clearSky_27 : decode cX4_clearSky 27 = .ok (.aaload, 1) := by decide +kernel
theorem dX4_clearSky_28 : decode cX4_clearSky 28 = .ok (.iload_n 1, 1) := by decide +kernel
theorem dX4_clearSky_29 : decode cX4_clearSky 29 = .ok (.iconst 1, 1) := by decide +kernel
theorem dX4_clearSky_30 : decode cX4_clearSky 30 = .ok (.iastore, 1) := by decide +kernel
theorem dX4_clearSky_31 : decode cX4_clearSky 31 = .ok (.iinc 1 1, 3) := by decide +kernel
theorem dX4_clearSky_34 : decode cX4_clearSky 34 = .ok (.goto (-27), 3) := by decide +kernel
theorem dX4_clearSky_37 : decode cX4_clearSky 37 = .ok (.return_, 1) := by decide +kernel
theorem dX4_hasSlot_0 : decode cX4_hasSlot 0 = .ok (.iload_n 1, 1) := by decide +kernel
theorem dX4_hasSlot_1 : decode cX4_hasSlot 1 = .ok (.ifCond .lt 15, 3) := by decide +kernel
theorem dX4_hasSlot_4 : decode cX4_hasSlot 4 = .ok (.iload_n 1, 1) := by decide +kernel
theorem dX4_hasSlot_5 : decode cX4_hasSlot 5 = .ok (.aload_n 0, 1) := by decide +kernel
theorem dX4_hasSlot_6 : decode cX4_hasSlot 6 = .ok (.getfield 9, 3) := by decide +kernel
theorem dX4_hasSlot_9 : decode cX4_hasSlot 9 = .ok (.if_icmp .ge 7, 3) := by decide +kernel
theorem dX4_hasSlot_12 : decode cX4_hasSlot 12 = .ok (.iconst 1, 1) := by decide +kernel
theorem dX4_hasSlot_13 : decode cX4_hasSlot 13 = .ok (.goto 4, 3) := by decide +kernel
theorem dX4_hasSlot_16 : decode cX4_hasSlot 16 = .ok (.iconst 0, 1) := by decide +kernel
theorem dX4_hasSlot_17 : decode cX4_hasSlot 17 = .ok (.ireturn, 1) := by decide +kernel
theorem dX4_hasTarget_0 : decode cX4_hasTarget 0 = .ok (.iload_n 1, 1) := by decide +kernel
theorem dX4_hasTarget_1 : decode cX4_hasTarget 1 = .ok (.ifCond .lt 15, 3) := by decide +kernel
theorem dX4_hasTarget_4 : decode cX4_hasTarget 4 = .ok (.iload_n 1, 1) := by decide +kernel
theorem dX4_hasTarget_5 : decode cX4_hasTarget 5 = .ok (.aload_n 0, 1) := by decide +kernel
theorem dX4_hasTarget_6 : decode cX4_hasTarget 6 = .ok (.getfield 37, 3) := by decide +kernel
theorem dX4_hasTarget_9 : decode cX4_hasTarget 9 = .ok (.if_icmp .ge 7, 3) := by decide +kernel
theorem dX4_hasTarget_12 : decode cX4_hasTarget 12 = .ok (.iconst 1, 1) := by decide +kernel
theorem dX4_hasTarget_13 : decode cX4_hasTarget 13 = .ok (.goto 4, 3) := by decide +kernel
theorem dX4_hasTarget_16 : decode cX4_hasTarget 16 = .ok (.iconst 0, 1) := by decide +kernel
theorem dX4_hasTarget_17 : decode cX4_hasTarget 17 = .ok (.ireturn, 1) := by decide +kernel
theorem dX4_hasSky_0 : decode cX4_hasSky 0 = .ok (.iload_n 1, 1) := by decide +kernel
theorem dX4_hasSky_1 : decode cX4_hasSky 1 = .ok (.ifCond .lt 17, 3) := by decide +kernel
theorem dX4_hasSky_4 : decode cX4_hasSky 4 = .ok (.iload_n 1, 1) := by decide +kernel
theorem dX4_hasSky_5 : decode cX4_hasSky 5 = .ok (.iconst 2, 1) := by decide +kernel
theorem dX4_hasSky_6 : decode cX4_hasSky 6 = .ok (.aload_n 0, 1) := by decide +kernel
theorem dX4_hasSky_7 : decode cX4_hasSky 7 = .ok (.getfield 40, 3) := by decide +kernel
theorem dX4_hasSky_10 : decode cX4_hasSky 10 = .ok (.iadd, 1) := by decide +kernel
theorem dX4_hasSky_11 : decode cX4_hasSky 11 = .ok (.if_icmp .ge 7, 3) := by decide +kernel
theorem dX4_hasSky_14 : decode cX4_hasSky 14 = .ok (.iconst 1, 1) := by decide +kernel
theorem dX4_hasSky_15 : decode cX4_hasSky 15 = .ok (.goto 4, 3) := by decide +kernel
theorem dX4_hasSky_18 : decode cX4_hasSky 18 = .ok (.iconst 0, 1) := by decide +kernel
theorem dX4_hasSky_19 : decode cX4_hasSky 19 = .ok (.ireturn, 1) := by decide +kernel
theorem dX4_addTarget_0 : decode cX4_addTarget 0 = .ok (.aload_n 0, 1) := by decide +kernel
theorem dX4_addTarget_1 : decode cX4_addTarget 1 = .ok (.getfield 17, 3) := by decide +kernel
theorem dX4_addTarget_4 : decode cX4_addTarget 4 = .ok (.aload_n 0, 1) := by decide +kernel
theorem dX4_addTarget_5 : decode cX4_addTarget 5 = .ok (.getfield 37, 3) := by decide +kernel
theorem dX4_addTarget_8 : decode cX4_addTarget 8 = .ok (.aaload, 1) := by decide +kernel
theorem dX4_addTarget_9 : decode cX4_addTarget 9 = .ok (.astore 4, 2) := by decide +kernel
theorem dX4_addTarget_11 : decode cX4_addTarget 11 = .ok (.aload 4, 2) := by decide +kernel
theorem dX4_addTarget_13 : decode cX4_addTarget 13 = .ok (.iload_n 1, 1) := by decide +kernel
theorem dX4_addTarget_14 : decode cX4_addTarget 14 = .ok (.putfield 43, 3) := by decide +kernel
theorem dX4_addTarget_17 : decode cX4_addTarget 17 = .ok (.aload 4, 2) := by decide +kernel
theorem dX4_addTarget_19 : decode cX4_addTarget 19 = .ok (.iload_n 2, 1) := by decide +kernel
theorem dX4_addTarget_20 : decode cX4_addTarget 20 = .ok (.putfield 46, 3) := by decide +kernel
theorem dX4_addTarget_23 : decode cX4_addTarget 23 = .ok (.aload 4, 2) := by decide +kernel
theorem dX4_addTarget_25 : decode cX4_addTarget 25 = .ok (.iload_n 3, 1) := by decide +kernel
theorem dX4_addTarget_26 : decode cX4_addTarget 26 = .ok (.putfield 49, 3) := by decide +kernel
theorem dX4_addTarget_29 : decode cX4_addTarget 29 = .ok (.aload_n 0, 1) := by decide +kernel
theorem dX4_addTarget_30 : decode cX4_addTarget 30 = .ok (.dup, 1) := by decide +kernel
theorem dX4_addTarget_31 : decode cX4_addTarget 31 = .ok (.getfield 37, 3) := by decide +kernel
theorem dX4_addTarget_34 : decode cX4_addTarget 34 = .ok (.iconst 1, 1) := by decide +kernel
theorem dX4_addTarget_35 : decode cX4_addTarget 35 = .ok (.iadd, 1) := by decide +kernel
theorem dX4_addTarget_36 : decode cX4_addTarget 36 = .ok (.putfield 37, 3) := by decide +kernel
theorem dX4_addTarget_39 : decode cX4_addTarget 39 = .ok (.aload_n 0, 1) := by decide +kernel
theorem dX4_addTarget_40 : decode cX4_addTarget 40 = .ok (.getfield 37, 3) := by decide +kernel
theorem dX4_addTarget_43 : decode cX4_addTarget 43 = .ok (.iconst 1, 1) := by decide +kernel
theorem dX4_addTarget_44 : decode cX4_addTarget 44 = .ok (.isub, 1) := by decide +kernel
theorem dX4_addTarget_45 : decode cX4_addTarget 45 = .ok (.ireturn, 1) := by decide +kernel
theorem dX4_addWorld_0 : decode cX4_addWorld 0 = .ok (.aload_n 0, 1) := by decide +kernel
theorem dX4_addWorld_1 : decode cX4_addWorld 1 = .ok (.getfield 26, 3) := by decide +kernel
theorem dX4_addWorld_4 : decode cX4_addWorld 4 = .ok (.aload_n 0, 1) := by decide +kernel
theorem dX4_addWorld_5 : decode cX4_addWorld 5 = .ok (.getfield 40, 3) := by decide +kernel
theorem dX4_addWorld_8 : decode cX4_addWorld 8 = .ok (.iload_n 1, 1) := by decide +kernel
theorem dX4_addWorld_9 : decode cX4_addWorld 9 = .ok (.iastore, 1) := by decide +kernel
theorem dX4_addWorld_10 : decode cX4_addWorld 10 = .ok (.iconst 0, 1) := by decide +kernel
theorem dX4_addWorld_11 : decode cX4_addWorld 11 = .ok (.istore_n 2, 1) := by decide +kernel
theorem dX4_addWorld_12 : decode cX4_addWorld 12 = .ok (.iload_n 2, 1) := by decide +kernel
theorem dX4_addWorld_13 : decode cX4_addWorld 13 = .ok (.bipush 12, 2) := by decide +kernel
theorem dX4_addWorld_15 : decode cX4_addWorld 15 = .ok (.if_icmp .ge 30, 3) := by decide +kernel
theorem dX4_addWorld_18 : decode cX4_addWorld 18 = .ok (.aload_n 0, 1) := by decide +kernel
theorem dX4_addWorld_19 : decode cX4_addWorld 19 = .ok (.getfield 23, 3) := by decide +kernel
theorem dX4_addWorld_22 : decode cX4_addWorld 22 = .ok (.iconst 2, 1) := by decide +kernel
theorem dX4_addWorld_23 : decode cX4_addWorld 23 = .ok (.aload_n 0, 1) := by decide +kernel
theorem dX4_addWorld_24 : decode cX4_addWorld 24 = .ok (.getfield 40, 3) := by decide +kernel
theorem dX4_addWorld_27 : decode cX4_addWorld 27 = .ok (.iadd, 1) := by decide +kernel
theorem dX4_addWorld_28 : decode cX4_addWorld 28 = .ok (.aaload, 1) := by decide +kernel
theorem dX4_addWorld_29 : decode cX4_addWorld 29 = .ok (.iload_n 2, 1) := by decide +kernel
theorem dX4_addWorld_30 : decode cX4_addWorld 30 = .ok (.aload_n 0, 1) := by decide +kernel
theorem dX4_addWorld_31 : decode cX4_addWorld 31 = .ok (.getfield 23, 3) := by decide +kernel
theorem dX4_addWorld_34 : decode cX4_addWorld 34 = .ok (.iconst 0, 1) := by decide +kernel
theorem dX4_addWorld_35 : decode cX4_addWorld 35 = .ok (.aaload, 1) := by decide +kernel
theorem dX4_addWorld_36 : decode cX4_addWorld 36 = .ok (.iload_n 2, 1) := by decide +kernel
theorem dX4_addWorld_37 : decode cX4_addWorld 37 = .ok (.iaload, 1) := by decide +kernel
theorem dX4_addWorld_38 : decode cX4_addWorld 38 = .ok (.iastore, 1) := by decide +kernel
theorem dX4_addWorld_39 : decode cX4_addWorld 39 = .ok (.iinc 2 1, 3) := by decide +kernel
theorem dX4_addWorld_42 : decode cX4_addWorld 42 = .ok (.goto (-30), 3) := by decide +kernel
theorem dX4_addWorld_45 : decode cX4_addWorld 45 = .ok (.aload_n 0, 1) := by decide +kernel
theorem dX4_addWorld_46 : decode cX4_addWorld 46 = .ok (.dup, 1) := by decide +kernel
theorem dX4_addWorld_47 : decode cX4_addWorld 47 = .ok (.getfield 40, 3) := by decide +kernel
theorem dX4_addWorld_50 : decode cX4_addWorld 50 = .ok (.iconst 1, 1) := by decide +kernel
theorem dX4_addWorld_51 : decode cX4_addWorld 51 = .ok (.iadd, 1) := by decide +kernel
theorem dX4_addWorld_52 : decode cX4_addWorld 52 = .ok (.putfield 40, 3) := by decide +kernel
theorem dX4_addWorld_55 : decode cX4_addWorld 55 = .ok (.aload_n 0, 1) := by decide +kernel
theorem dX4_addWorld_56 : decode cX4_addWorld 56 = .ok (.getfield 40, 3) := by decide +kernel
theorem dX4_addWorld_59 : decode cX4_addWorld 59 = .ok (.iconst 1, 1) := by decide +kernel
theorem dX4_addWorld_60 : decode cX4_addWorld 60 = .ok (.isub, 1) := by decide +kernel
theorem dX4_addWorld_61 : decode cX4_addWorld 61 = .ok (.ireturn, 1) := by decide +kernel
theorem dX4_allWeights_0 : decode cX4_allWeights 0 = .ok (.iconst 0, 1) := by decide +kernel
theorem dX4_allWeights_1 : decode cX4_allWeights 1 = .ok (.istore_n 1, 1) := by decide +kernel
theorem dX4_allWeights_2 : decode cX4_allWeights 2 = .ok (.iconst 0, 1) := by decide +kernel
theorem dX4_allWeights_3 : decode cX4_allWeights 3 = .ok (.istore_n 2, 1) := by decide +kernel
theorem dX4_allWeights_4 : decode cX4_allWeights 4 = .ok (.iload_n 2, 1) := by decide +kernel
theorem dX4_allWeights_5 : decode cX4_allWeights 5 = .ok (.aload_n 0, 1) := by decide +kernel
theorem dX4_allWeights_6 : decode cX4_allWeights 6 = .ok (.getfield 40, 3) := by decide +kernel
theorem dX4_allWeights_9 : decode cX4_allWeights 9 = .ok (.if_icmp .ge 18, 3) := by decide +kernel
theorem dX4_allWeights_12 : decode cX4_allWeights 12 = .ok (.iload_n 1, 1) := by decide +kernel
theorem dX4_allWeights_13 : decode cX4_allWeights 13 = .ok (.aload_n 0, 1) := by decide +kernel
theorem dX4_allWeights_14 : decode cX4_allWeights 14 = .ok (.getfield 26, 3) := by decide +kernel
theorem dX4_allWeights_17 : decode cX4_allWeights 17 = .ok (.iload_n 2, 1) := by decide +kernel
theorem dX4_allWeights_18 : decode cX4_allWeights 18 = .ok (.iaload, 1) := by decide +kernel
theorem dX4_allWeights_19 : decode cX4_allWeights 19 = .ok (.iadd, 1) := by decide +kernel
theorem dX4_allWeights_20 : decode cX4_allWeights 20 = .ok (.istore_n 1, 1) := by decide +kernel
theorem dX4_allWeights_21 : decode cX4_allWeights 21 = .ok (.iinc 2 1, 3) := by decide +kernel
theorem dX4_allWeights_24 : decode cX4_allWeights 24 = .ok (.goto (-20), 3) := by decide +kernel
theorem dX4_allWeights_27 : decode cX4_allWeights 27 = .ok (.iload_n 1, 1) := by decide +kernel
theorem dX4_allWeights_28 : decode cX4_allWeights 28 = .ok (.ireturn, 1) := by decide +kernel
theorem dX4_airOf_0 : decode cX4_airOf 0 = .ok (.iload_n 2, 1) := by decide +kernel
theorem dX4_airOf_1 : decode cX4_airOf 1 = .ok (.aload_n 1, 1) := by decide +kernel
theorem dX4_airOf_2 : decode cX4_airOf 2 = .ok (.getfield 43, 3) := by decide +kernel
theorem dX4_airOf_5 : decode cX4_airOf 5 = .ok (.aload_n 0, 1) := by decide +kernel
theorem dX4_airOf_6 : decode cX4_airOf 6 = .ok (.getfield 52, 3) := by decide +kernel
theorem dX4_airOf_9 : decode cX4_airOf 9 = .ok (.isub, 1) := by decide +kernel
theorem dX4_airOf_10 : decode cX4_airOf 10 = .ok (.isub, 1) := by decide +kernel
theorem dX4_airOf_11 : decode cX4_airOf 11 = .ok (.invokestatic 55, 3) := by decide +kernel
theorem dX4_airOf_14 : decode cX4_airOf 14 = .ok (.ireturn, 1) := by decide +kernel
theorem dX4_isVisible_0 : decode cX4_isVisible 0 = .ok (.aload_n 0, 1) := by decide +kernel
theorem dX4_isVisible_1 : decode cX4_isVisible 1 = .ok (.aload_n 1, 1) := by decide +kernel
theorem dX4_isVisible_2 : decode cX4_isVisible 2 = .ok (.iload_n 2, 1) := by decide +kernel
theorem dX4_isVisible_3 : decode cX4_isVisible 3 = .ok (.invokevirtual 61, 3) := by decide +kernel
theorem dX4_isVisible_6 : decode cX4_isVisible 6 = .ok (.aload_n 1, 1) := by decide +kernel
theorem dX4_isVisible_7 : decode cX4_isVisible 7 = .ok (.getfield 46, 3) := by decide +kernel
theorem dX4_isVisible_10 : decode cX4_isVisible 10 = .ok (.if_icmp .gt 7, 3) := by decide +kernel
theorem dX4_isVisible_13 : decode cX4_isVisible 13 = .ok (.iconst 1, 1) := by decide +kernel
theorem dX4_isVisible_14 : decode cX4_isVisible 14 = .ok (.goto 4, 3) := by decide +kernel
theorem dX4_isVisible_17 : decode cX4_isVisible 17 = .ok (.iconst 0, 1) := by decide +kernel
theorem dX4_isVisible_18 : decode cX4_isVisible 18 = .ok (.ireturn, 1) := by decide +kernel
theorem dX4_lastVisible_0 : decode cX4_lastVisible 0 = .ok (.aload_n 0, 1) := by decide +kernel
theorem dX4_lastVisible_1 : decode cX4_lastVisible 1 = .ok (.getfield 9, 3) := by decide +kernel
theorem dX4_lastVisible_4 : decode cX4_lastVisible 4 = .ok (.iconst 1, 1) := by decide +kernel
theorem dX4_lastVisible_5 : decode cX4_lastVisible 5 = .ok (.isub, 1) := by decide +kernel
theorem dX4_lastVisible_6 : decode cX4_lastVisible 6 = .ok (.aload_n 1, 1) := by decide +kernel
theorem dX4_lastVisible_7 : decode cX4_lastVisible 7 = .ok (.getfield 43, 3) := by decide +kernel
theorem dX4_lastVisible_10 : decode cX4_lastVisible 10 = .ok (.aload_n 0, 1) := by decide +kernel
theorem dX4_lastVisible_11 : decode cX4_lastVisible 11 = .ok (.getfield 52, 3) := by decide +kernel
theorem dX4_lastVisible_14 : decode cX4_lastVisible 14 = .ok (.isub, 1) := by decide +kernel
theorem dX4_lastVisible_15 : decode cX4_lastVisible 15 = .ok (.aload_n 1, 1) := by decide +kernel
theorem dX4_lastVisible_16 : decode cX4_lastVisible 16 = .ok (.getfield 46, 3) := by decide +kernel
theorem dX4_lastVisible_19 : decode cX4_lastVisible 19 = .ok (.iadd, 1) := by decide +kernel
theorem dX4_lastVisible_20 : decode cX4_lastVisible 20 = .ok (.invokestatic 65, 3) := by decide +kernel
theorem dX4_lastVisible_23 : decode cX4_lastVisible 23 = .ok (.ireturn, 1) := by decide +kernel
theorem dX4_isBright_0 : decode cX4_isBright 0 = .ok (.aload_n 1, 1) := by decide +kernel
theorem dX4_isBright_1 : decode cX4_isBright 1 = .ok (.getfield 49, 3) := by decide +kernel
theorem dX4_isBright_4 : decode cX4_isBright 4 = .ok (.aload_n 0, 1) := by decide +kernel
theorem dX4_isBright_5 : decode cX4_isBright 5 = .ok (.getfield 34, 3) := by decide +kernel
theorem dX4_isBright_8 : decode cX4_isBright 8 = .ok (.if_icmp .ne 23, 3) := by decide +kernel
theorem dX4_isBright_11 : decode cX4_isBright 11 = .ok (.iload_n 2, 1) := by decide +kernel
theorem dX4_isBright_12 : decode cX4_isBright 12 = .ok (.aload_n 0, 1) := by decide +kernel
theorem dX4_isBright_13 : decode cX4_isBright 13 = .ok (.getfield 69, 3) := by decide +kernel
theorem dX4_isBright_16 : decode cX4_isBright 16 = .ok (.if_icmp .lt 15, 3) := by decide +kernel
theorem dX4_isBright_19 : decode cX4_isBright 19 = .ok (.iload_n 2, 1) := by decide +kernel
theorem dX4_isBright_20 : decode cX4_isBright 20 = .ok (.aload_n 0, 1) := by decide +kernel
theorem dX4_isBright_21 : decode cX4_isBright 21 = .ok (.getfield 72, 3) := by decide +kernel
theorem dX4_isBright_24 : decode cX4_isBright 24 = .ok (.if_icmp .gt 7, 3) := by decide +kernel
theorem dX4_isBright_27 : decode cX4_isBright 27 = .ok (.iconst 1, 1) := by decide +kernel
theorem dX4_isBright_28 : decode cX4_isBright 28 = .ok (.goto 4, 3) := by decide +kernel
theorem dX4_isBright_31 : decode cX4_isBright 31 = .ok (.iconst 0, 1) := by decide +kernel
theorem dX4_isBright_32 : decode cX4_isBright 32 = .ok (.ireturn, 1) := by decide +kernel
theorem dX4_fitsAlone_0 : decode cX4_fitsAlone 0 = .ok (.aload_n 0, 1) := by decide +kernel
theorem dX4_fitsAlone_1 : decode cX4_fitsAlone 1 = .ok (.getfield 23, 3) := by decide +kernel
theorem dX4_fitsAlone_4 : decode cX4_fitsAlone 4 = .ok (.iload_n 1, 1) := by decide +kernel
theorem dX4_fitsAlone_5 : decode cX4_fitsAlone 5 = .ok (.aaload, 1) := by decide +kernel
theorem dX4_fitsAlone_6 : decode cX4_fitsAlone 6 = .ok (.iload 4, 2) := by decide +kernel
theorem dX4_fitsAlone_8 : decode cX4_fitsAlone 8 = .ok (.iaload, 1) := by decide +kernel
theorem dX4_fitsAlone_9 : decode cX4_fitsAlone 9 = .ok (.istore 5, 2) := by decide +kernel
theorem dX4_fitsAlone_11 : decode cX4_fitsAlone 11 = .ok (.aload_n 0, 1) := by decide +kernel
theorem dX4_fitsAlone_12 : decode cX4_fitsAlone 12 = .ok (.aload_n 2, 1) := by decide +kernel
theorem dX4_fitsAlone_13 : decode cX4_fitsAlone 13 = .ok (.iload 4, 2) := by decide +kernel
theorem dX4_fitsAlone_15 : decode cX4_fitsAlone 15 = .ok (.invokevirtual 61, 3) := by decide +kernel
theorem dX4_fitsAlone_18 : decode cX4_fitsAlone 18 = .ok (.istore 6, 2) := by decide +kernel
theorem dX4_fitsAlone_20 : decode cX4_fitsAlone 20 = .ok (.iload 5, 2) := by decide +kernel
theorem dX4_fitsAlone_22 : decode cX4_fitsAlone 22 = .ok (.aload_n 3, 1) := by decide +kernel
theorem dX4_fitsAlone_23 : decode cX4_fitsAlone 23 = .ok (.getfield 75, 3) := by decide +kernel
theorem dX4_fitsAlone_26 : decode cX4_fitsAlone 26 = .ok (.if_icmp .gt 48, 3) := by decide +kernel
theorem dX4_fitsAlone_29 : decode cX4_fitsAlone 29 = .ok (.iload 5, 2) := by decide +kernel
theorem dX4_fitsAlone_31 : decode cX4_fitsAlone 31 = .ok (.iconst 4, 1) := by decide +kernel
theorem dX4_fitsAlone_32 : decode cX4_fitsAlone 32 = .ok (.if_icmp .eq 42, 3) := by decide +kernel
theorem dX4_fitsAlone_35 : decode cX4_fitsAlone 35 = .ok (.iload 6, 2) := by decide +kernel
theorem dX4_fitsAlone_37 : decode cX4_fitsAlone 37 = .ok (.aload_n 2, 1) := by decide +kernel
theorem dX4_fitsAlone_38 : decode cX4_fitsAlone 38 = .ok (.getfield 46, 3) := by decide +kernel
theorem dX4_fitsAlone_41 : decode cX4_fitsAlone 41 = .ok (.if_icmp .gt 33, 3) := by decide +kernel
theorem dX4_fitsAlone_44 : decode cX4_fitsAlone 44 = .ok (.iload 6, 2) := by decide +kernel
theorem dX4_fitsAlone_46 : decode cX4_fitsAlone 46 = .ok (.aload_n 3, 1) := by decide +kernel
theorem dX4_fitsAlone_47 : decode cX4_fitsAlone 47 = .ok (.getfield 80, 3) := by decide +kernel
theorem dX4_fitsAlone_50 : decode cX4_fitsAlone 50 = .ok (.if_icmp .gt 24, 3) := by decide +kernel
theorem dX4_fitsAlone_53 : decode cX4_fitsAlone 53 = .ok (.aload_n 3, 1) := by decide +kernel
theorem dX4_fitsAlone_54 : decode cX4_fitsAlone 54 = .ok (.getfield 83, 3) := by decide +kernel
theorem dX4_fitsAlone_57 : decode cX4_fitsAlone 57 = .ok (.ifCond .eq 13, 3) := by decide +kernel
theorem dX4_fitsAlone_60 : decode cX4_fitsAlone 60 = .ok (.aload_n 0, 1) := by decide +kernel
theorem dX4_fitsAlone_61 : decode cX4_fitsAlone 61 = .ok (.aload_n 2, 1) := by decide +kernel
theorem dX4_fitsAlone_62 : decode cX4_fitsAlone 62 = .ok (.iload 4, 2) := by decide +kernel
theorem dX4_fitsAlone_64 : decode cX4_fitsAlone 64 = .ok (.invokevirtual 87, 3) := by decide +kernel
theorem dX4_fitsAlone_67 : decode cX4_fitsAlone 67 = .ok (.ifCond .ne 7, 3) := by decide +kernel
theorem dX4_fitsAlone_70 : decode cX4_fitsAlone 70 = .ok (.iconst 1, 1) := by decide +kernel
theorem dX4_fitsAlone_71 : decode cX4_fitsAlone 71 = .ok (.goto 4, 3) := by decide +kernel
theorem dX4_fitsAlone_74 : decode cX4_fitsAlone 74 = .ok (.iconst 0, 1) := by decide +kernel
theorem dX4_fitsAlone_75 : decode cX4_fitsAlone 75 = .ok (.ireturn, 1) := by decide +kernel
theorem dX4_fittingBegins_0 : decode cX4_fittingBegins 0 = .ok (.iconst 0, 1) := by decide +kernel
theorem dX4_fittingBegins_1 : decode cX4_fittingBegins 1 = .ok (.istore_n 3, 1) := by decide +kernel
theorem dX4_fittingBegins_2 : decode cX4_fittingBegins 2 = .ok (.iconst 0, 1) := by decide +kernel
theorem dX4_fittingBegins_3 : decode cX4_fittingBegins 3 = .ok (.istore 4, 2) := by decide +kernel
theorem dX4_fittingBegins_5 : decode cX4_fittingBegins 5 = .ok (.iload 4, 2) := by decide +kernel
theorem dX4_fittingBegins_7 : decode cX4_fittingBegins 7 = .ok (.aload_n 0, 1) := by decide +kernel
theorem dX4_fittingBegins_8 : decode cX4_fittingBegins 8 = .ok (.getfield 9, 3) := by decide +kernel
theorem dX4_fittingBegins_11 : decode cX4_fittingBegins 11 = .ok (.if_icmp .ge 28, 3) := by decide +kernel
theorem dX4_fittingBegins_14 : decode cX4_fittingBegins 14 = .ok (.aload_n 0, 1) := by decide +kernel
theorem dX4_fittingBegins_15 : decode cX4_fittingBegins 15 = .ok (.iconst 0, 1) := by decide +kernel
theorem dX4_fittingBegins_16 : decode cX4_fittingBegins 16 = .ok (.aload_n 1, 1) := by decide +kernel
theorem dX4_fittingBegins_17 : decode cX4_fittingBegins 17 = .ok (.aload_n 2, 1) := by decide +kernel
theorem dX4_fittingBegins_18 : decode cX4_fittingBegins 18 = .ok (.iload 4, 2) := by decide +kernel
theorem dX4_fittingBegins_20 : decode cX4_fittingBegins 20 = .ok (.invokevirtual 91, 3) := by decide +kernel
theorem dX4_fittingBegins_23 : decode cX4_fittingBegins 23 = .ok (.ifCond .eq 10, 3) := by decide +kernel
theorem dX4_fittingBegins_26 : decode cX4_fittingBegins 26 = .ok (.iload_n 3, 1) := by decide +kernel
theorem dX4_fittingBegins_27 : decode cX4_fittingBegins 27 = .ok (.iconst 1, 1) := by decide +kernel
theorem dX4_fittingBegins_28 : decode cX4_fittingBegins 28 = .ok (.iload 4, 2) := by decide +kernel
theorem dX4_fittingBegins_30 : decode cX4_fittingBegins 30 = .ok (.ishl, 1) := by decide +kernel
theorem dX4_fittingBegins_31 : decode cX4_fittingBegins 31 = .ok (.ior, 1) := by decide +kernel
theorem dX4_fittingBegins_32 : decode cX4_fittingBegins 32 = .ok (.istore_n 3, 1) := by decide +kernel
theorem dX4_fittingBegins_33 : decode cX4_fittingBegins 33 = .ok (.iinc 4 1, 3) := by decide +kernel
theorem dX4_fittingBegins_36 : decode cX4_fittingBegins 36 = .ok (.goto (-31), 3) := by decide +kernel
theorem dX4_fittingBegins_39 : decode cX4_fittingBegins 39 = .ok (.iload_n 3, 1) := by decide +kernel
theorem dX4_fittingBegins_40 : decode cX4_fittingBegins 40 = .ok (.istore 4, 2) := by decide +kernel
theorem dX4_fittingBegins_42 : decode cX4_fittingBegins 42 = .ok (.iconst 1, 1) := by decide +kernel
theorem dX4_fittingBegins_43 : decode cX4_fittingBegins 43 = .ok (.istore 5, 2) := by decide +kernel
theorem dX4_fittingBegins_45 : decode cX4_fittingBegins 45 = .ok (.iload 5, 2) := by decide +kernel
theorem dX4_fittingBegins_47 : decode cX4_fittingBegins 47 = .ok (.aload_n 2, 1) := by decide +kernel
theorem dX4_fittingBegins_48 : decode cX4_fittingBegins 48 = .ok (.getfield 95, 3) := by decide +kernel
theorem dX4_fittingBegins_51 : decode cX4_fittingBegins 51 = .ok (.if_icmp .ge 18, 3) := by decide +kernel
theorem dX4_fittingBegins_54 : decode cX4_fittingBegins 54 = .ok (.iload 4, 2) := by decide +kernel
theorem dX4_fittingBegins_56 : decode cX4_fittingBegins 56 = .ok (.iload_n 3, 1) := by decide +kernel
theorem dX4_fittingBegins_57 : decode cX4_fittingBegins 57 = .ok (.iload 5, 2) := by decide +kernel
theorem dX4_fittingBegins_59 : decode cX4_fittingBegins 59 = .ok (.ishr, 1) := by decide +kernel
theorem dX4_fittingBegins_60 : decode cX4_fittingBegins 60 = .ok (.iand, 1) := by decide +kernel
theorem dX4_fittingBegins_61 : decode cX4_fittingBegins 61 = .ok (.istore 4, 2) := by decide +kernel
theorem dX4_fittingBegins_63 : decode cX4_fittingBegins 63 = .ok (.iinc 5 1, 3) := by decide +kernel
theorem dX4_fittingBegins_66 : decode cX4_fittingBegins 66 = .ok (.goto (-21), 3) := by decide +kernel
theorem dX4_fittingBegins_69 : decode cX4_fittingBegins 69 = .ok (.iload 4, 2) := by decide +kernel
theorem dX4_fittingBegins_71 : decode cX4_fittingBegins 71 = .ok (.ireturn, 1) := by decide +kernel
theorem dX5_init_0 : decode cX5_init 0 = .ok (.aload_n 0, 1) := by decide +kernel
theorem dX5_init_1 : decode cX5_init 1 = .ok (.invokespecial 3, 3) := by decide +kernel
theorem dX5_init_4 : decode cX5_init 4 = .ok (.aload_n 0, 1) := by decide +kernel
theorem dX5_init_5 : decode cX5_init 5 = .ok (.iconst 3, 1) := by decide +kernel
theorem dX5_init_6 : decode cX5_init 6 = .ok (.anewarray 9, 3) := by decide +kernel
theorem dX5_init_9 : decode cX5_init 9 = .ok (.putfield 11, 3) := by decide +kernel
theorem dX5_init_12 : decode cX5_init 12 = .ok (.iconst 0, 1) := by decide +kernel
theorem dX5_init_13 : decode cX5_init 13 = .ok (.istore_n 1, 1) := by decide +kernel
theorem dX5_init_14 : decode cX5_init 14 = .ok (.iload_n 1, 1) := by decide +kernel
theorem dX5_init_15 : decode cX5_init 15 = .ok (.iconst 3, 1) := by decide +kernel
theorem dX5_init_16 : decode cX5_init 16 = .ok (.if_icmp .ge 22, 3) := by decide +kernel
theorem dX5_init_19 : decode cX5_init 19 = .ok (.aload_n 0, 1) := by decide +kernel
theorem dX5_init_20 : decode cX5_init 20 = .ok (.getfield 11, 3) := by decide +kernel
theorem dX5_init_23 : decode cX5_init 23 = .ok (.iload_n 1, 1) := by decide +kernel
theorem dX5_init_24 : decode cX5_init 24 = .ok (.new 9, 3) := by decide +kernel
theorem dX5_init_27 : decode cX5_init 27 = .ok (.dup, 1) := by decide +kernel
theorem dX5_init_28 : decode cX5_init 28 = .ok (.invokespecial 17, 3) := by decide +kernel
