theorem dX9_empty_18 : decode cX9_empty 18 = .ok (.invokevirtual 179, 3) := by decide +kernel
theorem dX9_empty_21 : decode cX9_empty 21 = .ok (.aload_n 0, 1) := by decide +kernel
theorem dX9_empty_22 : decode cX9_empty 22 = .ok (.getfield 35, 3) := by decide +kernel
theorem dX9_empty_25 : decode cX9_empty 25 = .ok (.iload_n 1, 1) := by decide +kernel
theorem dX9_empty_26 : decode cX9_empty 26 = .ok (.invokevirtual 202, 3) := by decide +kernel
theorem dX9_empty_29 : decode cX9_empty 29 = .ok (.ireturn, 1) := by decide +kernel
theorem dX9_again_0 : decode cX9_again 0 = .ok (.iload_n 1, 1) := by decide +kernel
theorem dX9_again_1 : decode cX9_again 1 = .ok (.iconst 0, 1) := by decide +kernel
theorem dX9_again_2 : decode cX9_again 2 = .ok (.iconst 1, 1) := by decide +kernel
theorem dX9_again_3 : decode cX9_again 3 = .ok (.invokestatic 73, 3) := by decide +kernel
theorem dX9_again_6 : decode cX9_again 6 = .ok (.ifCond .ne 6, 3) := by decide +kernel
theorem dX9_again_9 : decode cX9_again 9 = .ok (.bipush (-3), 2) := by decide +kernel
theorem dX9_again_11 : decode cX9_again 11 = .ok (.ireturn, 1) := by decide +kernel
theorem dX9_again_12 : decode cX9_again 12 = .ok (.aload_n 0, 1) := by decide +kernel
theorem dX9_again_13 : decode cX9_again 13 = .ok (.getfield 42, 3) := by decide +kernel
theorem dX9_again_16 : decode cX9_again 16 = .ok (.getfield 205, 3) := by decide +kernel
theorem dX9_again_19 : decode cX9_again 19 = .ok (.istore_n 2, 1) := by decide +kernel
theorem dX9_again_20 : decode cX9_again 20 = .ok (.aload_n 0, 1) := by decide +kernel
theorem dX9_again_21 : decode cX9_again 21 = .ok (.getfield 42, 3) := by decide +kernel
theorem dX9_again_24 : decode cX9_again 24 = .ok (.iload_n 1, 1) := by decide +kernel
theorem dX9_again_25 : decode cX9_again 25 = .ok (.putfield 205, 3) := by decide +kernel
theorem dX9_again_28 : decode cX9_again 28 = .ok (.iload_n 2, 1) := by decide +kernel
theorem dX9_again_29 : decode cX9_again 29 = .ok (.ireturn, 1) := by decide +kernel
theorem dX9_watch_0 : decode cX9_watch 0 = .ok (.aload_n 0, 1) := by decide +kernel
theorem dX9_watch_1 : decode cX9_watch 1 = .ok (.getfield 10, 3) := by decide +kernel
theorem dX9_watch_4 : decode cX9_watch 4 = .ok (.iload_n 2, 1) := by decide +kernel
theorem dX9_watch_5 : decode cX9_watch 5 = .ok (.invokevirtual 112, 3) := by decide +kernel
theorem dX9_watch_8 : decode cX9_watch 8 = .ok (.ifCond .ne 6, 3) := by decide +kernel
theorem dX9_watch_11 : decode cX9_watch 11 = .ok (.bipush (-2), 2) := by decide +kernel
theorem dX9_watch_13 : decode cX9_watch 13 = .ok (.ireturn, 1) := by decide +kernel
theorem dX9_watch_14 : decode cX9_watch 14 = .ok (.iload_n 1, 1) := by decide +kernel
theorem dX9_watch_15 : decode cX9_watch 15 = .ok (.invokestatic 208, 3) := by decide +kernel
theorem dX9_watch_18 : decode cX9_watch 18 = .ok (.ifCond .ne 6, 3) := by decide +kernel
theorem dX9_watch_21 : decode cX9_watch 21 = .ok (.bipush (-3), 2) := by decide +kernel
theorem dX9_watch_23 : decode cX9_watch 23 = .ok (.ireturn, 1) := by decide +kernel
theorem dX9_watch_24 : decode cX9_watch 24 = .ok (.aload_n 0, 1) := by decide +kernel
theorem dX9_watch_25 : decode cX9_watch 25 = .ok (.getfield 42, 3) := by decide +kernel
theorem dX9_watch_28 : decode cX9_watch 28 = .ok (.iload_n 1, 1) := by decide +kernel
theorem dX9_watch_29 : decode cX9_watch 29 = .ok (.iload_n 2, 1) := by decide +kernel
theorem dX9_watch_30 : decode cX9_watch 30 = .ok (.aload_n 0, 1) := by decide +kernel
theorem dX9_watch_31 : decode cX9_watch 31 = .ok (.getfield 10, 3) := by decide +kernel
theorem dX9_watch_34 : decode cX9_watch 34 = .ok (.getfield 60, 3) := by decide +kernel
theorem dX9_watch_37 : decode cX9_watch 37 = .ok (.invokevirtual 211, 3) := by decide +kernel
theorem dX9_watch_40 : decode cX9_watch 40 = .ok (.aload_n 0, 1) := by decide +kernel
theorem dX9_watch_41 : decode cX9_watch 41 = .ok (.getfield 42, 3) := by decide +kernel
theorem dX9_watch_44 : decode cX9_watch 44 = .ok (.invokevirtual 215, 3) := by decide +kernel
theorem dX9_watch_47 : decode cX9_watch 47 = .ok (.ireturn, 1) := by decide +kernel
theorem dX9_log_0 : decode cX9_log 0 = .ok (.aload_n 0, 1) := by decide +kernel
theorem dX9_log_1 : decode cX9_log 1 = .ok (.getfield 10, 3) := by decide +kernel
theorem dX9_log_4 : decode cX9_log 4 = .ok (.iload_n 2, 1) := by decide +kernel
theorem dX9_log_5 : decode cX9_log 5 = .ok (.invokevirtual 112, 3) := by decide +kernel
theorem dX9_log_8 : decode cX9_log 8 = .ok (.ifCond .eq 14, 3) := by decide +kernel
theorem dX9_log_11 : decode cX9_log 11 = .ok (.aload_n 0, 1) := by decide +kernel
theorem dX9_log_12 : decode cX9_log 12 = .ok (.getfield 10, 3) := by decide +kernel
theorem dX9_log_15 : decode cX9_log 15 = .ok (.iload_n 3, 1) := by decide +kernel
theorem dX9_log_16 : decode cX9_log 16 = .ok (.invokevirtual 88, 3) := by decide +kernel
theorem dX9_log_19 : decode cX9_log 19 = .ok (.ifCond .ne 6, 3) := by decide +kernel
theorem dX9_log_22 : decode cX9_log 22 = .ok (.bipush (-2), 2) := by decide +kernel
theorem dX9_log_24 : decode cX9_log 24 = .ok (.ireturn, 1) := by decide +kernel
theorem dX9_log_25 : decode cX9_log 25 = .ok (.iload_n 1, 1) := by decide +kernel
theorem dX9_log_26 : decode cX9_log 26 = .ok (.invokestatic 208, 3) := by decide +kernel
theorem dX9_log_29 : decode cX9_log 29 = .ok (.ifCond .ne 6, 3) := by decide +kernel
theorem dX9_log_32 : decode cX9_log 32 = .ok (.bipush (-3), 2) := by decide +kernel
theorem dX9_log_34 : decode cX9_log 34 = .ok (.ireturn, 1) := by decide +kernel
theorem dX9_log_35 : decode cX9_log 35 = .ok (.aload_n 0, 1) := by decide +kernel
theorem dX9_log_36 : decode cX9_log 36 = .ok (.getfield 42, 3) := by decide +kernel
theorem dX9_log_39 : decode cX9_log 39 = .ok (.iload_n 1, 1) := by decide +kernel
theorem dX9_log_40 : decode cX9_log 40 = .ok (.iload_n 2, 1) := by decide +kernel
theorem dX9_log_41 : decode cX9_log 41 = .ok (.iload_n 3, 1) := by decide +kernel
theorem dX9_log_42 : decode cX9_log 42 = .ok (.iconst 1, 1) := by decide +kernel
theorem dX9_log_43 : decode cX9_log 43 = .ok (.iadd, 1) := by decide +kernel
theorem dX9_log_44 : decode cX9_log 44 = .ok (.invokevirtual 211, 3) := by decide +kernel
theorem dX9_log_47 : decode cX9_log 47 = .ok (.aload_n 0, 1) := by decide +kernel
theorem dX9_log_48 : decode cX9_log 48 = .ok (.getfield 42, 3) := by decide +kernel
theorem dX9_log_51 : decode cX9_log 51 = .ok (.getfield 218, 3) := by decide +kernel
theorem dX9_log_54 : decode cX9_log 54 = .ok (.iload_n 3, 1) := by decide +kernel
theorem dX9_log_55 : decode cX9_log 55 = .ok (.iaload, 1) := by decide +kernel
theorem dX9_log_56 : decode cX9_log 56 = .ok (.ireturn, 1) := by decide +kernel
theorem dX9_state_0 : decode cX9_state 0 = .ok (.aload_n 0, 1) := by decide +kernel
theorem dX9_state_1 : decode cX9_state 1 = .ok (.getfield 10, 3) := by decide +kernel
theorem dX9_state_4 : decode cX9_state 4 = .ok (.iload_n 2, 1) := by decide +kernel
theorem dX9_state_5 : decode cX9_state 5 = .ok (.invokevirtual 112, 3) := by decide +kernel
theorem dX9_state_8 : decode cX9_state 8 = .ok (.ifCond .eq 14, 3) := by decide +kernel
theorem dX9_state_11 : decode cX9_state 11 = .ok (.aload_n 0, 1) := by decide +kernel
theorem dX9_state_12 : decode cX9_state 12 = .ok (.getfield 26, 3) := by decide +kernel
theorem dX9_state_15 : decode cX9_state 15 = .ok (.iload_n 3, 1) := by decide +kernel
theorem dX9_state_16 : decode cX9_state 16 = .ok (.invokevirtual 151, 3) := by decide +kernel
theorem dX9_state_19 : decode cX9_state 19 = .ok (.ifCond .ne 6, 3) := by decide +kernel
theorem dX9_state_22 : decode cX9_state 22 = .ok (.bipush (-2), 2) := by decide +kernel
theorem dX9_state_24 : decode cX9_state 24 = .ok (.ireturn, 1) := by decide +kernel
theorem dX9_state_25 : decode cX9_state 25 = .ok (.iload_n 1, 1) := by decide +kernel
theorem dX9_state_26 : decode cX9_state 26 = .ok (.invokestatic 208, 3) := by decide +kernel
theorem dX9_state_29 : decode cX9_state 29 = .ok (.ifCond .eq 19, 3) := by decide +kernel
theorem dX9_state_32 : decode cX9_state 32 = .ok (.iload 4, 2) := by decide +kernel
theorem dX9_state_34 : decode cX9_state 34 = .ok (.iconst 0, 1) := by decide +kernel
theorem dX9_state_35 : decode cX9_state 35 = .ok (.aload_n 0, 1) := by decide +kernel
theorem dX9_state_36 : decode cX9_state 36 = .ok (.getfield 10, 3) := by decide +kernel
theorem dX9_state_39 : decode cX9_state 39 = .ok (.getfield 60, 3) := by decide +kernel
theorem dX9_state_42 : decode cX9_state 42 = .ok (.invokestatic 73, 3) := by decide +kernel
theorem dX9_state_45 : decode cX9_state 45 = .ok (.ifCond .ne 6, 3) := by decide +kernel
theorem dX9_state_48 : decode cX9_state 48 = .ok (.bipush (-3), 2) := by decide +kernel
theorem dX9_state_50 : decode cX9_state 50 = .ok (.ireturn, 1) := by decide +kernel
theorem dX9_state_51 : decode cX9_state 51 = .ok (.aload_n 0, 1) := by decide +kernel
theorem dX9_state_52 : decode cX9_state 52 = .ok (.getfield 42, 3) := by decide +kernel
theorem dX9_state_55 : decode cX9_state 55 = .ok (.iload_n 1, 1) := by decide +kernel
theorem dX9_state_56 : decode cX9_state 56 = .ok (.iload_n 2, 1) := by decide +kernel
theorem dX9_state_57 : decode cX9_state 57 = .ok (.iload 4, 2) := by decide +kernel
theorem dX9_state_59 : decode cX9_state 59 = .ok (.invokevirtual 211, 3) := by decide +kernel
theorem dX9_state_62 : decode cX9_state 62 = .ok (.aload_n 0, 1) := by decide +kernel
theorem dX9_state_63 : decode cX9_state 63 = .ok (.getfield 42, 3) := by decide +kernel
theorem dX9_state_66 : decode cX9_state 66 = .ok (.getfield 221, 3) := by decide +kernel
theorem dX9_state_69 : decode cX9_state 69 = .ok (.iload_n 3, 1) := by decide +kernel
theorem dX9_state_70 : decode cX9_state 70 = .ok (.iaload, 1) := by decide +kernel
theorem dX9_state_71 : decode cX9_state 71 = .ok (.ireturn, 1) := by decide +kernel
theorem dX9_value_0 : decode cX9_value 0 = .ok (.iload_n 1, 1) := by decide +kernel
theorem dX9_value_1 : decode cX9_value 1 = .ok (.invokestatic 208, 3) := by decide +kernel
theorem dX9_value_4 : decode cX9_value 4 = .ok (.ifCond .eq 12, 3) := by decide +kernel
theorem dX9_value_7 : decode cX9_value 7 = .ok (.iload_n 2, 1) := by decide +kernel
theorem dX9_value_8 : decode cX9_value 8 = .ok (.iconst 0, 1) := by decide +kernel
theorem dX9_value_9 : decode cX9_value 9 = .ok (.iconst 1, 1) := by decide +kernel
theorem dX9_value_10 : decode cX9_value 10 = .ok (.invokestatic 73, 3) := by decide +kernel
theorem dX9_value_13 : decode cX9_value 13 = .ok (.ifCond .ne 6, 3) := by decide +kernel
theorem dX9_value_16 : decode cX9_value 16 = .ok (.bipush (-3), 2) := by decide +kernel
theorem dX9_value_18 : decode cX9_value 18 = .ok (.ireturn, 1) := by decide +kernel
theorem dX9_value_19 : decode cX9_value 19 = .ok (.aload_n 0, 1) := by decide +kernel
theorem dX9_value_20 : decode cX9_value 20 = .ok (.getfield 10, 3) := by decide +kernel
theorem dX9_value_23 : decode cX9_value 23 = .ok (.getfield 67, 3) := by decide +kernel
theorem dX9_value_26 : decode cX9_value 26 = .ok (.ifCond .ne 5, 3) := by decide +kernel
theorem dX9_value_29 : decode cX9_value 29 = .ok (.iconst (-1), 1) := by decide +kernel
theorem dX9_value_30 : decode cX9_value 30 = .ok (.ireturn, 1) := by decide +kernel
theorem dX9_value_31 : decode cX9_value 31 = .ok (.aload_n 0, 1) := by decide +kernel
theorem dX9_value_32 : decode cX9_value 32 = .ok (.iload_n 1, 1) := by decide +kernel
theorem dX9_value_33 : decode cX9_value 33 = .ok (.invokevirtual 224, 3) := by decide +kernel
theorem dX9_value_36 : decode cX9_value 36 = .ok (.istore_n 3, 1) := by decide +kernel
theorem dX9_value_37 : decode cX9_value 37 = .ok (.aload_n 0, 1) := by decide +kernel
theorem dX9_value_38 : decode cX9_value 38 = .ok (.getfield 10, 3) := by decide +kernel
theorem dX9_value_41 : decode cX9_value 41 = .ok (.invokevirtual 227, 3) := by decide +kernel
theorem dX9_value_44 : decode cX9_value 44 = .ok (.istore 4, 2) := by decide +kernel
theorem dX9_value_46 : decode cX9_value 46 = .ok (.iload_n 3, 1) := by decide +kernel
theorem dX9_value_47 : decode cX9_value 47 = .ok (.iload 4, 2) := by decide +kernel
theorem dX9_value_49 : decode cX9_value 49 = .ok (.invokestatic 230, 3) := by decide +kernel
theorem dX9_value_52 : decode cX9_value 52 = .ok (.istore 5, 2) := by decide +kernel
theorem dX9_value_54 : decode cX9_value 54 = .ok (.iload 5, 2) := by decide +kernel
theorem dX9_value_56 : decode cX9_value 56 = .ok (.ifCond .ne 5, 3) := by decide +kernel
theorem dX9_value_59 : decode cX9_value 59 = .ok (.iconst (-1), 1) := by decide +kernel
theorem dX9_value_60 : decode cX9_value 60 = .ok (.ireturn, 1) := by decide +kernel
theorem dX9_value_61 : decode cX9_value 61 = .ok (.iload_n 2, 1) := by decide +kernel
theorem dX9_value_62 : decode cX9_value 62 = .ok (.ifCond .ne 7, 3) := by decide +kernel
theorem dX9_value_65 : decode cX9_value 65 = .ok (.iload_n 3, 1) := by decide +kernel
theorem dX9_value_66 : decode cX9_value 66 = .ok (.goto 5, 3) := by decide +kernel
theorem dX9_value_69 : decode cX9_value 69 = .ok (.iload 4, 2) := by decide +kernel
theorem dX9_value_71 : decode cX9_value 71 = .ok (.iload 5, 2) := by decide +kernel
theorem dX9_value_73 : decode cX9_value 73 = .ok (.idiv, 1) := by decide +kernel
theorem dX9_value_74 : decode cX9_value 74 = .ok (.ireturn, 1) := by decide +kernel
theorem dX9_sure_0 : decode cX9_sure 0 = .ok (.iload_n 1, 1) := by decide +kernel
theorem dX9_sure_1 : decode cX9_sure 1 = .ok (.invokestatic 208, 3) := by decide +kernel
theorem dX9_sure_4 : decode cX9_sure 4 = .ok (.ifCond .ne 6, 3) := by decide +kernel
theorem dX9_sure_7 : decode cX9_sure 7 = .ok (.bipush (-3), 2) := by decide +kernel
theorem dX9_sure_9 : decode cX9_sure 9 = .ok (.ireturn, 1) := by decide +kernel
theorem dX9_sure_10 : decode cX9_sure 10 = .ok (.iconst (-1), 1) := by decide +kernel
theorem dX9_sure_11 : decode cX9_sure 11 = .ok (.istore_n 2, 1) := by decide +kernel
theorem dX9_sure_12 : decode cX9_sure 12 = .ok (.iconst 0, 1) := by decide +kernel
theorem dX9_sure_13 : decode cX9_sure 13 = .ok (.istore_n 3, 1) := by decide +kernel
theorem dX9_sure_14 : decode cX9_sure 14 = .ok (.iload_n 3, 1) := by decide +kernel
theorem dX9_sure_15 : decode cX9_sure 15 = .ok (.aload_n 0, 1) := by decide +kernel
theorem dX9_sure_16 : decode cX9_sure 16 = .ok (.getfield 10, 3) := by decide +kernel
theorem dX9_sure_19 : decode cX9_sure 19 = .ok (.getfield 67, 3) := by decide +kernel
theorem dX9_sure_22 : decode cX9_sure 22 = .ok (.if_icmp .ge 50, 3) := by decide +kernel
theorem dX9_sure_25 : decode cX9_sure 25 = .ok (.aload_n 0, 1) := by decide +kernel
theorem dX9_sure_26 : decode cX9_sure 26 = .ok (.getfield 42, 3) := by decide +kernel
theorem dX9_sure_29 : decode cX9_sure 29 = .ok (.iload_n 1, 1) := by decide +kernel
theorem dX9_sure_30 : decode cX9_sure 30 = .ok (.iconst 2, 1) := by decide +kernel
theorem dX9_sure_31 : decode cX9_sure 31 = .ok (.iload_n 3, 1) := by decide +kernel
theorem dX9_sure_32 : decode cX9_sure 32 = .ok (.iadd, 1) := by decide +kernel
theorem dX9_sure_33 : decode cX9_sure 33 = .ok (.aload_n 0, 1) := by decide +kernel
theorem dX9_sure_34 : decode cX9_sure 34 = .ok (.getfield 10, 3) := by decide +kernel
theorem dX9_sure_37 : decode cX9_sure 37 = .ok (.getfield 60, 3) := by decide +kernel
theorem dX9_sure_40 : decode cX9_sure 40 = .ok (.invokevirtual 211, 3) := by decide +kernel
theorem dX9_sure_43 : decode cX9_sure 43 = .ok (.aload_n 0, 1) := by decide +kernel
theorem dX9_sure_44 : decode cX9_sure 44 = .ok (.getfield 42, 3) := by decide +kernel
theorem dX9_sure_47 : decode cX9_sure 47 = .ok (.invokevirtual 215, 3) := by decide +kernel
theorem dX9_sure_50 : decode cX9_sure 50 = .ok (.istore 4, 2) := by decide +kernel
theorem dX9_sure_52 : decode cX9_sure 52 = .ok (.iload_n 2, 1) := by decide +kernel
theorem dX9_sure_53 : decode cX9_sure 53 = .ok (.iconst (-1), 1) := by decide +kernel
theorem dX9_sure_54 : decode cX9_sure 54 = .ok (.if_icmp .eq 9, 3) := by decide +kernel
theorem dX9_sure_57 : decode cX9_sure 57 = .ok (.iload 4, 2) := by decide +kernel
theorem dX9_sure_59 : decode cX9_sure 59 = .ok (.iload_n 2, 1) := by decide +kernel
theorem dX9_sure_60 : decode cX9_sure 60 = .ok (.if_icmp .ge 6, 3) := by decide +kernel
theorem dX9_sure_63 : decode cX9_sure 63 = .ok (.iload 4, 2) := by decide +kernel
theorem dX9_sure_65 : decode cX9_sure 65 = .ok (.istore_n 2, 1) := by decide +kernel
theorem dX9_sure_66 : decode cX9_sure 66 = .ok (.iinc 3 1, 3) := by decide +kernel
theorem dX9_sure_69 : decode cX9_sure 69 = .ok (.goto (-55), 3) := by decide +kernel
theorem dX9_sure_72 : decode cX9_sure 72 = .ok (.iload_n 2, 1) := by decide +kernel
theorem dX9_sure_73 : decode cX9_sure 73 = .ok (.ireturn, 1) := by decide +kernel
theorem dX9_rule_0 : decode cX9_rule 0 = .ok (.aload_n 0, 1) := by decide +kernel
theorem dX9_rule_1 : decode cX9_rule 1 = .ok (.getfield 10, 3) := by decide +kernel
theorem dX9_rule_4 : decode cX9_rule 4 = .ok (.getfield 67, 3) := by decide +kernel
theorem dX9_rule_7 : decode cX9_rule 7 = .ok (.ifCond .ne 5, 3) := by decide +kernel
theorem dX9_rule_10 : decode cX9_rule 10 = .ok (.iconst (-1), 1) := by decide +kernel
theorem dX9_rule_11 : decode cX9_rule 11 = .ok (.ireturn, 1) := by decide +kernel
theorem dX9_rule_12 : decode cX9_rule 12 = .ok (.iconst 0, 1) := by decide +kernel
theorem dX9_rule_13 : decode cX9_rule 13 = .ok (.istore_n 1, 1) := by decide +kernel
theorem dX9_rule_14 : decode cX9_rule 14 = .ok (.aload_n 0, 1) := by decide +kernel
theorem dX9_rule_15 : decode cX9_rule 15 = .ok (.iconst 0, 1) := by decide +kernel
theorem dX9_rule_16 : decode cX9_rule 16 = .ok (.invokevirtual 224, 3) := by decide +kernel
theorem dX9_rule_19 : decode cX9_rule 19 = .ok (.istore_n 2, 1) := by decide +kernel
theorem dX9_rule_20 : decode cX9_rule 20 = .ok (.iconst 1, 1) := by decide +kernel
theorem dX9_rule_21 : decode cX9_rule 21 = .ok (.istore_n 3, 1) := by decide +kernel
theorem dX9_rule_22 : decode cX9_rule 22 = .ok (.iload_n 3, 1) := by decide +kernel
theorem dX9_rule_23 : decode cX9_rule 23 = .ok (.iconst 3, 1) := by decide +kernel
theorem dX9_rule_24 : decode cX9_rule 24 = .ok (.if_icmp .ge 27, 3) := by decide +kernel
theorem dX9_rule_27 : decode cX9_rule 27 = .ok (.aload_n 0, 1) := by decide +kernel
theorem dX9_rule_28 : decode cX9_rule 28 = .ok (.iload_n 3, 1) := by decide +kernel
theorem dX9_rule_29 : decode cX9_rule 29 = .ok (.invokevirtual 224, 3) := by decide +kernel
theorem dX9_rule_32 : decode cX9_rule 32 = .ok (.istore 4, 2) := by decide +kernel
theorem dX9_rule_34 : decode cX9_rule 34 = .ok (.iload 4, 2) := by decide +kernel
theorem dX9_rule_36 : decode cX9_rule 36 = .ok (.iload_n 2, 1) := by decide +kernel
theorem dX9_rule_37 : decode cX9_rule 37 = .ok (.if_icmp .le 8, 3) := by decide +kernel
theorem dX9_rule_40 : decode cX9_rule 40 = .ok (.iload_n 3, 1) := by decide +kernel
theorem dX9_rule_41 : decode cX9_rule 41 = .ok (.istore_n 1, 1) := by decide +kernel
theorem dX9_rule_42 : decode cX9_rule 42 = .ok (.iload 4, 2) := by decide +kernel
theorem dX9_rule_44 : decode cX9_rule 44 = .ok (.istore_n 2, 1) := by decide +kernel
theorem dX9_rule_45 : decode cX9_rule 45 = .ok (.iinc 3 1, 3) := by decide +kernel
theorem dX9_rule_48 : decode cX9_rule 48 = .ok (.goto (-26), 3) := by decide +kernel
theorem dX9_rule_51 : decode cX9_rule 51 = .ok (.iload_n 1, 1) := by decide +kernel
theorem dX9_rule_52 : decode cX9_rule 52 = .ok (.ireturn, 1) := by decide +kernel
theorem dX9_alert_0 : decode cX9_alert 0 = .ok (.aload_n 0, 1) := by decide +kernel
theorem dX9_alert_1 : decode cX9_alert 1 = .ok (.getfield 10, 3) := by decide +kernel
theorem dX9_alert_4 : decode cX9_alert 4 = .ok (.iload_n 1, 1) := by decide +kernel
theorem dX9_alert_5 : decode cX9_alert 5 = .ok (.invokevirtual 84, 3) := by decide +kernel
theorem dX9_alert_8 : decode cX9_alert 8 = .ok (.ifCond .ne 6, 3) := by decide +kernel
theorem dX9_alert_11 : decode cX9_alert 11 = .ok (.bipush (-2), 2) := by decide +kernel
theorem dX9_alert_13 : decode cX9_alert 13 = .ok (.ireturn, 1) := by decide +kernel
theorem dX9_alert_14 : decode cX9_alert 14 = .ok (.iload_n 2, 1) := by decide +kernel
theorem dX9_alert_15 : decode cX9_alert 15 = .ok (.iconst 0, 1) := by decide +kernel
theorem dX9_alert_16 : decode cX9_alert 16 = .ok (.iconst 2, 1) := by decide +kernel
theorem dX9_alert_17 : decode cX9_alert 17 = .ok (.invokestatic 73, 3) := by decide +kernel
theorem dX9_alert_20 : decode cX9_alert 20 = .ok (.ifCond .eq 52, 3) := by decide +kernel
theorem dX9_alert_23 : decode cX9_alert 23 = .ok (.aload_n 0, 1) := by decide +kernel
theorem dX9_alert_24 : decode cX9_alert 24 = .ok (.iload_n 3, 1) := by decide +kernel
theorem dX9_alert_25 : decode cX9_alert 25 = .ok (.invokevirtual 234, 3) := by decide +kernel
theorem dX9_alert_28 : decode cX9_alert 28 = .ok (.ifCond .eq 44, 3) := by decide +kernel
theorem dX9_alert_31 : decode cX9_alert 31 = .ok (.aload_n 0, 1) := by decide +kernel
theorem dX9_alert_32 : decode cX9_alert 32 = .ok (.getfield 10, 3) := by decide +kernel
theorem dX9_alert_35 : decode cX9_alert 35 = .ok (.iload 4, 2) := by decide +kernel
theorem dX9_alert_37 : decode cX9_alert 37 = .ok (.invokevirtual 88, 3) := by decide +kernel
theorem dX9_alert_40 : decode cX9_alert 40 = .ok (.ifCond .eq 32, 3) := by decide +kernel
theorem dX9_alert_43 : decode cX9_alert 43 = .ok (.aload_n 0, 1) := by decide +kernel
theorem dX9_alert_44 : decode cX9_alert 44 = .ok (.getfield 10, 3) := by decide +kernel
theorem dX9_alert_47 : decode cX9_alert 47 = .ok (.iload 5, 2) := by decide +kernel
theorem dX9_alert_49 : decode cX9_alert 49 = .ok (.invokevirtual 88, 3) := by decide +kernel
theorem dX9_alert_52 : decode cX9_alert 52 = .ok (.ifCond .eq 20, 3) := by decide +kernel
theorem dX9_alert_55 : decode cX9_alert 55 = .ok (.iload 4, 2) := by decide +kernel
theorem dX9_alert_57 : decode cX9_alert 57 = .ok (.iload 5, 2) := by decide +kernel
theorem dX9_alert_59 : decode cX9_alert 59 = .ok (.if_icmp .gt 13, 3) := by decide +kernel
theorem dX9_alert_62 : decode cX9_alert 62 = .ok (.iload 6, 2) := by decide +kernel
theorem dX9_alert_64 : decode cX9_alert 64 = .ok (.iconst 0, 1) := by decide +kernel
theorem dX9_alert_65 : decode cX9_alert 65 = .ok (.iconst 1, 1) := by decide +kernel
theorem dX9_alert_66 : decode cX9_alert 66 = .ok (.invokestatic 73, 3) := by decide +kernel
theorem dX9_alert_69 : decode cX9_alert 69 = .ok (.ifCond .ne 6, 3) := by decide +kernel
theorem dX9_alert_72 : decode cX9_alert 72 = .ok (.bipush (-3), 2) := by decide +kernel
theorem dX9_alert_74 : decode cX9_alert 74 = .ok (.ireturn, 1) := by decide +kernel
theorem dX9_alert_75 : decode cX9_alert 75 = .ok (.aload_n 0, 1) := by decide +kernel
theorem dX9_alert_76 : decode cX9_alert 76 = .ok (.getfield 35, 3) := by decide +kernel
theorem dX9_alert_79 : decode cX9_alert 79 = .ok (.invokevirtual 179, 3) := by decide +kernel
theorem dX9_alert_82 : decode cX9_alert 82 = .ok (.aload_n 0, 1) := by decide +kernel
theorem dX9_alert_83 : decode cX9_alert 83 = .ok (.getfield 35, 3) := by decide +kernel
theorem dX9_alert_86 : decode cX9_alert 86 = .ok (.iload_n 1, 1) := by decide +kernel
theorem dX9_alert_87 : decode cX9_alert 87 = .ok (.iload_n 2, 1) := by decide +kernel
theorem dX9_alert_88 : decode cX9_alert 88 = .ok (.aload_n 0, 1) := by decide +kernel
theorem dX9_alert_89 : decode cX9_alert 89 = .ok (.getfield 56, 3) := by decide +kernel
theorem dX9_alert_92 : decode cX9_alert 92 = .ok (.iload 4, 2) := by decide +kernel
theorem dX9_alert_94 : decode cX9_alert 94 = .ok (.iload 5, 2) := by decide +kernel
theorem dX9_alert_96 : decode cX9_alert 96 = .ok (.invokevirtual 237, 3) := by decide +kernel
theorem dX9_alert_99 : decode cX9_alert 99 = .ok (.iload 6, 2) := by decide +kernel
theorem dX9_alert_101 : decode cX9_alert 101 = .ok (.ifCond .ne 13, 3) := by decide +kernel
theorem dX9_alert_104 : decode cX9_alert 104 = .ok (.aload_n 0, 1) := by decide +kernel
theorem dX9_alert_105 : decode cX9_alert 105 = .ok (.getfield 35, 3) := by decide +kernel
theorem dX9_alert_108 : decode cX9_alert 108 = .ok (.getfield 241, 3) := by decide +kernel
theorem dX9_alert_111 : decode cX9_alert 111 = .ok (.goto 10, 3) := by decide +kernel
theorem dX9_alert_114 : decode cX9_alert 114 = .ok (.aload_n 0, 1) := by decide +kernel
theorem dX9_alert_115 : decode cX9_alert 115 = .ok (.getfield 35, 3) := by decide +kernel
theorem dX9_alert_118 : decode cX9_alert 118 = .ok (.getfield 244, 3) := by decide +kernel
theorem dX9_alert_121 : decode cX9_alert 121 = .ok (.ireturn, 1) := by decide +kernel
theorem dX9_share_0 : decode cX9_share 0 = .ok (.iload_n 1, 1) := by decide +kernel
theorem dX9_share_1 : decode cX9_share 1 = .ok (.iconst 0, 1) := by decide +kernel
theorem dX9_share_2 : decode cX9_share 2 = .ok (.iconst 3, 1) := by decide +kernel
theorem dX9_share_3 : decode cX9_share 3 = .ok (.invokestatic 73, 3) := by decide +kernel
theorem dX9_share_6 : decode cX9_share 6 = .ok (.ifCond .ne 6, 3) := by decide +kernel
theorem dX9_share_9 : decode cX9_share 9 = .ok (.bipush (-2), 2) := by decide +kernel
theorem dX9_share_11 : decode cX9_share 11 = .ok (.ireturn, 1) := by decide +kernel
theorem dX9_share_12 : decode cX9_share 12 = .ok (.iload_n 2, 1) := by decide +kernel
theorem dX9_share_13 : decode cX9_share 13 = .ok (.iconst 1, 1) := by decide +kernel
theorem dX9_share_14 : decode cX9_share 14 = .ok (.bipush 20, 2) := by decide +kernel
theorem dX9_share_16 : decode cX9_share 16 = .ok (.invokestatic 73, 3) := by decide +kernel
theorem dX9_share_19 : decode cX9_share 19 = .ok (.ifCond .ne 6, 3) := by decide +kernel
theorem dX9_share_22 : decode cX9_share 22 = .ok (.bipush (-3), 2) := by decide +kernel
theorem dX9_share_24 : decode cX9_share 24 = .ok (.ireturn, 1) := by decide +kernel
theorem dX9_share_25 : decode cX9_share 25 = .ok (.aload_n 0, 1) := by decide +kernel
theorem dX9_share_26 : decode cX9_share 26 = .ok (.getfield 49, 3) := by decide +kernel
theorem dX9_share_29 : decode cX9_share 29 = .ok (.getfield 247, 3) := by decide +kernel
theorem dX9_share_32 : decode cX9_share 32 = .ok (.iload_n 1, 1) := by decide +kernel
theorem dX9_share_33 : decode cX9_share 33 = .ok (.iaload, 1) := by decide +kernel
theorem dX9_share_34 : decode cX9_share 34 = .ok (.istore_n 3, 1) := by decide +kernel
theorem dX9_share_35 : decode cX9_share 35 = .ok (.aload_n 0, 1) := by decide +kernel
theorem dX9_share_36 : decode cX9_share 36 = .ok (.getfield 49, 3) := by decide +kernel
theorem dX9_share_39 : decode cX9_share 39 = .ok (.getfield 247, 3) := by decide +kernel
theorem dX9_share_42 : decode cX9_share 42 = .ok (.iload_n 1, 1) := by decide +kernel
theorem dX9_share_43 : decode cX9_share 43 = .ok (.iload_n 2, 1) := by decide +kernel
theorem dX9_share_44 : decode cX9_share 44 = .ok (.iastore, 1) := by decide +kernel
theorem dX9_share_45 : decode cX9_share 45 = .ok (.iload_n 3, 1) := by decide +kernel
theorem dX9_share_46 : decode cX9_share 46 = .ok (.ireturn, 1) := by decide +kernel
theorem dX9_close_0 : decode cX9_close 0 = .ok (.iload_n 1, 1) := by decide +kernel
theorem dX9_close_1 : decode cX9_close 1 = .ok (.invokestatic 208, 3) := by decide +kernel
theorem dX9_close_4 : decode cX9_close 4 = .ok (.ifCond .ne 6, 3) := by decide +kernel
theorem dX9_close_7 : decode cX9_close 7 = .ok (.bipush (-3), 2) := by decide +kernel
theorem dX9_close_9 : decode cX9_close 9 = .ok (.ireturn, 1) := by decide +kernel
theorem dX9_close_10 : decode cX9_close 10 = .ok (.aload_n 0, 1) := by decide +kernel
theorem dX9_close_11 : decode cX9_close 11 = .ok (.getfield 10, 3) := by decide +kernel
theorem dX9_close_14 : decode cX9_close 14 = .ok (.getfield 250, 3) := by decide +kernel
theorem dX9_close_17 : decode cX9_close 17 = .ok (.sipush 300, 3) := by decide +kernel
theorem dX9_close_20 : decode cX9_close 20 = .ok (.if_icmp .lt 6, 3) := by decide +kernel
theorem dX9_close_23 : decode cX9_close 23 = .ok (.bipush (-4), 2) := by decide +kernel
theorem dX9_close_25 : decode cX9_close 25 = .ok (.ireturn, 1) := by decide +kernel
theorem dX9_close_26 : decode cX9_close 26 = .ok (.aload_n 0, 1) := by decide +kernel
theorem dX9_close_27 : decode cX9_close 27 = .ok (.getfield 42, 3) := by decide +kernel
theorem dX9_close_30 : decode cX9_close 30 = .ok (.iload_n 1, 1) := by decide +kernel
theorem dX9_close_31 : decode cX9_close 31 = .ok (.iconst 1, 1) := by decide +kernel
theorem dX9_close_32 : decode cX9_close 32 = .ok (.aload_n 0, 1) := by decide +kernel
theorem dX9_close_33 : decode cX9_close 33 = .ok (.getfield 10, 3) := by decide +kernel
theorem dX9_close_36 : decode cX9_close 36 = .ok (.getfield 60, 3) := by decide +kernel
theorem dX9_close_39 : decode cX9_close 39 = .ok (.invokevirtual 211, 3) := by decide +kernel
theorem dX9_close_42 : decode cX9_close 42 = .ok (.aload_n 0, 1) := by decide +kernel
theorem dX9_close_43 : decode cX9_close 43 = .ok (.getfield 42, 3) := by decide +kernel
theorem dX9_close_46 : decode cX9_close 46 = .ok (.invokevirtual 215, 3) := by decide +kernel
theorem dX9_close_49 : decode cX9_close 49 = .ok (.istore_n 2, 1) := by decide +kernel
theorem dX9_close_50 : decode cX9_close 50 = .ok (.aload_n 0, 1) := by decide +kernel
theorem dX9_close_51 : decode cX9_close 51 = .ok (.getfield 49, 3) := by decide +kernel
theorem dX9_close_54 : decode cX9_close 54 = .ok (.dup, 1) := by decide +kernel
theorem dX9_close_55 : decode cX9_close 55 = .ok (.getfield 253, 3) := by decide +kernel
theorem dX9_close_58 : decode cX9_close 58 = .ok (.iload_n 2, 1) := by decide +kernel
theorem dX9_close_59 : decode cX9_close 59 = .ok (.iadd, 1) := by decide +kernel
theorem dX9_close_60 : decode cX9_close 60 = .ok (.putfield 253, 3) := by decide +kernel
theorem dX9_close_63 : decode cX9_close 63 = .ok (.aload_n 0, 1) := by decide +kernel
theorem dX9_close_64 : decode cX9_close 64 = .ok (.invokevirtual 256, 3) := by decide +kernel
theorem dX9_close_67 : decode cX9_close 67 = .ok (.aload_n 0, 1) := by decide +kernel
theorem dX9_close_68 : decode cX9_close 68 = .ok (.invokevirtual 259, 3) := by decide +kernel
theorem dX9_close_71 : decode cX9_close 71 = .ok (.aload_n 0, 1) := by decide +kernel
theorem dX9_close_72 : decode cX9_close 72 = .ok (.getfield 10, 3) := by decide +kernel
theorem dX9_close_75 : decode cX9_close 75 = .ok (.dup, 1) := by decide +kernel
theorem dX9_close_76 : decode cX9_close 76 = .ok (.getfield 250, 3) := by decide +kernel
theorem dX9_close_79 : decode cX9_close 79 = .ok (.iconst 1, 1) := by decide +kernel
theorem dX9_close_80 : decode cX9_close 80 = .ok (.iadd, 1) := by decide +kernel
theorem dX9_close_81 : decode cX9_close 81 = .ok (.putfield 250, 3) := by decide +kernel
theorem dX9_close_84 : decode cX9_close 84 = .ok (.aload_n 0, 1) := by decide +kernel
theorem dX9_close_85 : decode cX9_close 85 = .ok (.getfield 10, 3) := by decide +kernel
theorem dX9_close_88 : decode cX9_close 88 = .ok (.invokevirtual 64, 3) := by decide +kernel
theorem dX9_close_91 : decode cX9_close 91 = .ok (.aload_n 0, 1) := by decide +kernel
theorem dX9_close_92 : decode cX9_close 92 = .ok (.getfield 35, 3) := by decide +kernel
theorem dX9_close_95 : decode cX9_close 95 = .ok (.invokevirtual 70, 3) := by decide +kernel
theorem dX9_close_98 : decode cX9_close 98 = .ok (.iload_n 2, 1) := by decide +kernel
theorem dX9_close_99 : decode cX9_close 99 = .ok (.ireturn, 1) := by decide +kernel
theorem dX9_account_0 : decode cX9_account 0 = .ok (.iload_n 1, 1) := by decide +kernel
theorem dX9_account_1 : decode cX9_account 1 = .ok (.iconst 0, 1) := by decide +kernel
theorem dX9_account_2 : decode cX9_account 2 = .ok (.bipush 7, 2) := by decide +kernel
theorem dX9_account_4 : decode cX9_account 4 = .ok (.invokestatic 73, 3) := by decide +kernel
theorem dX9_account_7 : decode cX9_account 7 = .ok (.ifCond .eq 15, 3) := by decide +kernel
theorem dX9_account_10 : decode cX9_account 10 = .ok (.aload_n 0, 1) := by decide +kernel
theorem dX9_account_11 : decode cX9_account 11 = .ok (.getfield 49, 3) := by decide +kernel
theorem dX9_account_14 : decode cX9_account 14 = .ok (.getfield 262, 3) := by decide +kernel
theorem dX9_account_17 : decode cX9_account 17 = .ok (.iload_n 1, 1) := by decide +kernel
theorem dX9_account_18 : decode cX9_account 18 = .ok (.iaload, 1) := by decide +kernel
theorem dX9_account_19 : decode cX9_account 19 = .ok (.goto 5, 3) := by decide +kernel
theorem dX9_account_22 : decode cX9_account 22 = .ok (.bipush (-3), 2) := by decide +kernel
theorem dX9_account_24 : decode cX9_account 24 = .ok (.ireturn, 1) := by decide +kernel
theorem dX9_debt_0 : decode cX9_debt 0 = .ok (.iload_n 1, 1) := by decide +kernel
theorem dX9_debt_1 : decode cX9_debt 1 = .ok (.iconst 0, 1) := by decide +kernel
theorem dX9_debt_2 : decode cX9_debt 2 = .ok (.iconst 3, 1) := by decide +kernel
theorem dX9_debt_3 : decode cX9_debt 3 = .ok (.invokestatic 73, 3) := by decide +kernel
theorem dX9_debt_6 : decode cX9_debt 6 = .ok (.ifCond .eq 14, 3) := by decide +kernel
theorem dX9_debt_9 : decode cX9_debt 9 = .ok (.aload_n 0, 1) := by decide +kernel
theorem dX9_debt_10 : decode cX9_debt 10 = .ok (.getfield 49, 3) := by decide +kernel
theorem dX9_debt_13 : decode cX9_debt 13 = .ok (.iload_n 1, 1) := by decide +kernel
theorem dX9_debt_14 : decode cX9_debt 14 = .ok (.invokevirtual 265, 3) := by decide +kernel
theorem dX9_debt_17 : decode cX9_debt 17 = .ok (.goto 6, 3) := by decide +kernel
theorem dX9_debt_20 : decode cX9_debt 20 = .ok (.ldc_w 270, 3) := by decide +kernel
theorem dX9_debt_23 : decode cX9_debt 23 = .ok (.ireturn, 1) := by decide +kernel
theorem dX9_next_0 : decode cX9_next 0 = .ok (.aload_n 0, 1) := by decide +kernel
theorem dX9_next_1 : decode cX9_next 1 = .ok (.getfield 49, 3) := by decide +kernel
theorem dX9_next_4 : decode cX9_next 4 = .ok (.invokevirtual 271, 3) := by decide +kernel
theorem dX9_next_7 : decode cX9_next 7 = .ok (.ireturn, 1) := by decide +kernel
theorem dX9_count_0 : decode cX9_count 0 = .ok (.iload_n 1, 1) := by decide +kernel
theorem dX9_count_1 : decode cX9_count 1 = .ok (.tableswitch 99 0 6 #[43, 51, 59, 67, 75, 83, 91], 43) := by decide +kernel
theorem dX9_count_44 : decode cX9_count 44 = .ok (.aload_n 0, 1) := by decide +kernel
theorem dX9_count_45 : decode cX9_count 45 = .ok (.getfield 10, 3) := by decide +kernel
theorem dX9_count_48 : decode cX9_count 48 = .ok (.getfield 60, 3) := by decide +kernel
theorem dX9_count_51 : decode cX9_count 51 = .ok (.ireturn, 1) := by decide +kernel
theorem dX9_count_52 : decode cX9_count 52 = .ok (.aload_n 0, 1) := by decide +kernel
theorem dX9_count_53 : decode cX9_count 53 = .ok (.getfield 10, 3) := by decide +kernel
theorem dX9_count_56 : decode cX9_count 56 = .ok (.getfield 250, 3) := by decide +kernel
theorem dX9_count_59 : decode cX9_count 59 = .ok (.ireturn, 1) := by decide +kernel
theorem dX9_count_60 : decode cX9_count 60 = .ok (.aload_n 0, 1) := by decide +kernel
theorem dX9_count_61 : decode cX9_count 61 = .ok (.getfield 10, 3) := by decide +kernel
theorem dX9_count_64 : decode cX9_count 64 = .ok (.getfield 77, 3) := by decide +kernel
theorem dX9_count_67 : decode cX9_count 67 = .ok (.ireturn, 1) := by decide +kernel
theorem dX9_count_68 : decode cX9_count 68 = .ok (.aload_n 0, 1) := by decide +kernel
theorem dX9_count_69 : decode cX9_count 69 = .ok (.getfield 26, 3) := by decide +kernel
theorem dX9_count_72 : decode cX9_count 72 = .ok (.getfield 140, 3) := by decide +kernel
theorem dX9_count_75 : decode cX9_count 75 = .ok (.ireturn, 1) := by decide +kernel
theorem dX9_count_76 : decode cX9_count 76 = .ok (.aload_n 0, 1) := by decide +kernel
theorem dX9_count_77 : decode cX9_count 77 = .ok (.getfield 10, 3) := by decide +kernel
theorem dX9_count_80 : decode cX9_count 80 = .ok (.getfield 67, 3) := by decide +kernel
theorem dX9_count_83 : decode cX9_count 83 = .ok (.ireturn, 1) := by decide +kernel
theorem dX9_count_84 : decode cX9_count 84 = .ok (.aload_n 0, 1) := by decide +kernel
theorem dX9_count_85 : decode cX9_count 85 = .ok (.getfield 19, 3) := by decide +kernel
theorem dX9_count_88 : decode cX9_count 88 = .ok (.getfield 123, 3) := by decide +kernel
theorem dX9_count_91 : decode cX9_count 91 = .ok (.ireturn, 1) := by decide +kernel
theorem dX9_count_92 : decode cX9_count 92 = .ok (.aload_n 0, 1) := by decide +kernel
theorem dX9_count_93 : decode cX9_count 93 = .ok (.getfield 49, 3) := by decide +kernel
theorem dX9_count_96 : decode cX9_count 96 = .ok (.getfield 253, 3) := by decide +kernel
theorem dX9_count_99 : decode cX9_count 99 = .ok (.ireturn, 1) := by decide +kernel
theorem dX9_count_100 : decode cX9_count 100 = .ok (.bipush (-3), 2) := by decide +kernel
theorem dX9_count_102 : decode cX9_count 102 = .ok (.ireturn, 1) := by decide +kernel
theorem dX9_within_0 : decode cX9_within 0 = .ok (.iload_n 0, 1) := by decide +kernel
theorem dX9_within_1 : decode cX9_within 1 = .ok (.iload_n 1, 1) := by decide +kernel
theorem dX9_within_2 : decode cX9_within 2 = .ok (.if_icmp .lt 12, 3) := by decide +kernel
theorem dX9_within_5 : decode cX9_within 5 = .ok (.iload_n 0, 1) := by decide +kernel
theorem dX9_within_6 : decode cX9_within 6 = .ok (.iload_n 2, 1) := by decide +kernel
theorem dX9_within_7 : decode cX9_within 7 = .ok (.if_icmp .gt 7, 3) := by decide +kernel
theorem dX9_within_10 : decode cX9_within 10 = .ok (.iconst 1, 1) := by decide +kernel
theorem dX9_within_11 : decode cX9_within 11 = .ok (.goto 4, 3) := by decide +kernel
theorem dX9_within_14 : decode cX9_within 14 = .ok (.iconst 0, 1) := by decide +kernel
theorem dX9_within_15 : decode cX9_within 15 = .ok (.ireturn, 1) := by decide +kernel
theorem dX9_isRule_0 : decode cX9_isRule 0 = .ok (.iload_n 0, 1) := by decide +kernel
theorem dX9_isRule_1 : decode cX9_isRule 1 = .ok (.iconst 0, 1) := by decide +kernel
theorem dX9_isRule_2 : decode cX9_isRule 2 = .ok (.iconst 2, 1) := by decide +kernel
theorem dX9_isRule_3 : decode cX9_isRule 3 = .ok (.invokestatic 73, 3) := by decide +kernel
theorem dX9_isRule_6 : decode cX9_isRule 6 = .ok (.ireturn, 1) := by decide +kernel
theorem dX9_hasBit_0 : decode cX9_hasBit 0 = .ok (.iload_n 0, 1) := by decide +kernel
theorem dX9_hasBit_1 : decode cX9_hasBit 1 = .ok (.iload_n 1, 1) := by decide +kernel
theorem dX9_hasBit_2 : decode cX9_hasBit 2 = .ok (.ishr, 1) := by decide +kernel
theorem dX9_hasBit_3 : decode cX9_hasBit 3 = .ok (.iconst 1, 1) := by decide +kernel
theorem dX9_hasBit_4 : decode cX9_hasBit 4 = .ok (.iand, 1) := by decide +kernel
theorem dX9_hasBit_5 : decode cX9_hasBit 5 = .ok (.iconst 1, 1) := by decide +kernel
theorem dX9_hasBit_6 : decode cX9_hasBit 6 = .ok (.if_icmp .ne 7, 3) := by decide +kernel
theorem dX9_hasBit_9 : decode cX9_hasBit 9 = .ok (.iconst 1, 1) := by decide +kernel
theorem dX9_hasBit_10 : decode cX9_hasBit 10 = .ok (.goto 4, 3) := by decide +kernel
theorem dX9_hasBit_13 : decode cX9_hasBit 13 = .ok (.iconst 0, 1) := by decide +kernel
theorem dX9_hasBit_14 : decode cX9_hasBit 14 = .ok (.ireturn, 1) := by decide +kernel
theorem dX9_slotBits_0 : decode cX9_slotBits 0 = .ok (.iconst 1, 1) := by decide +kernel
theorem dX9_slotBits_1 : decode cX9_slotBits 1 = .ok (.iload_n 1, 1) := by decide +kernel
theorem dX9_slotBits_2 : decode cX9_slotBits 2 = .ok (.ishl, 1) := by decide +kernel
theorem dX9_slotBits_3 : decode cX9_slotBits 3 = .ok (.iconst 1, 1) := by decide +kernel
theorem dX9_slotBits_4 : decode cX9_slotBits 4 = .ok (.isub, 1) := by decide +kernel
theorem dX9_slotBits_5 : decode cX9_slotBits 5 = .ok (.iload_n 0, 1) := by decide +kernel
theorem dX9_slotBits_6 : decode cX9_slotBits 6 = .ok (.ishl, 1) := by decide +kernel
theorem dX9_slotBits_7 : decode cX9_slotBits 7 = .ok (.ireturn, 1) := by decide +kernel
theorem dX9_commonDivisor_0 : decode cX9_commonDivisor 0 = .ok (.iconst 0, 1) := by decide +kernel
theorem dX9_commonDivisor_1 : decode cX9_commonDivisor 1 = .ok (.istore_n 2, 1) := by decide +kernel
theorem dX9_commonDivisor_2 : decode cX9_commonDivisor 2 = .ok (.iload_n 2, 1) := by decide +kernel
theorem dX9_commonDivisor_3 : decode cX9_commonDivisor 3 = .ok (.bipush 64, 2) := by decide +kernel
theorem dX9_commonDivisor_5 : decode cX9_commonDivisor 5 = .ok (.if_icmp .ge 21, 3) := by decide +kernel
theorem dX9_commonDivisor_8 : decode cX9_commonDivisor 8 = .ok (.iload_n 1, 1) := by decide +kernel
theorem dX9_commonDivisor_9 : decode cX9_commonDivisor 9 = .ok (.ifCond .eq 17, 3) := by decide +kernel
theorem dX9_commonDivisor_12 : decode cX9_commonDivisor 12 = .ok (.iload_n 0, 1) := by decide +kernel
theorem dX9_commonDivisor_13 : decode cX9_commonDivisor 13 = .ok (.iload_n 1, 1) := by decide +kernel
theorem dX9_commonDivisor_14 : decode cX9_commonDivisor 14 = .ok (.irem, 1) := by decide +kernel
theorem dX9_commonDivisor_15 : decode cX9_commonDivisor 15 = .ok (.istore_n 3, 1) := by decide +kernel
theorem dX9_commonDivisor_16 : decode cX9_commonDivisor 16 = .ok (.iload_n 1, 1) := by decide +kernel
theorem dX9_commonDivisor_17 : decode cX9_commonDivisor 17 = .ok (.istore_n 0, 1) := by decide +kernel
theorem dX9_commonDivisor_18 : decode cX9_commonDivisor 18 = .ok (.iload_n 3, 1) := by decide +kernel
theorem dX9_commonDivisor_19 : decode cX9_commonDivisor 19 = .ok (.istore_n 1, 1) := by decide +kernel
theorem dX9_commonDivisor_20 : decode cX9_commonDivisor 20 = .ok (.iinc 2 1, 3) := by decide +kernel
theorem dX9_commonDivisor_23 : decode cX9_commonDivisor 23 = .ok (.goto (-21), 3) := by decide +kernel
theorem dX9_commonDivisor_26 : decode cX9_commonDivisor 26 = .ok (.iload_n 0, 1) := by decide +kernel
theorem dX9_commonDivisor_27 : decode cX9_commonDivisor 27 = .ok (.ireturn, 1) := by decide +kernel
theorem dX9_weighedScore_0 : decode cX9_weighedScore 0 = .ok (.iconst 0, 1) := by decide +kernel
theorem dX9_weighedScore_1 : decode cX9_weighedScore 1 = .ok (.istore_n 2, 1) := by decide +kernel
theorem dX9_weighedScore_2 : decode cX9_weighedScore 2 = .ok (.iconst 0, 1) := by decide +kernel
theorem dX9_weighedScore_3 : decode cX9_weighedScore 3 = .ok (.istore_n 3, 1) := by decide +kernel
theorem dX9_weighedScore_4 : decode cX9_weighedScore 4 = .ok (.iload_n 3, 1) := by decide +kernel
theorem dX9_weighedScore_5 : decode cX9_weighedScore 5 = .ok (.aload_n 0, 1) := by decide +kernel
theorem dX9_weighedScore_6 : decode cX9_weighedScore 6 = .ok (.getfield 10, 3) := by decide +kernel
theorem dX9_weighedScore_9 : decode cX9_weighedScore 9 = .ok (.getfield 67, 3) := by decide +kernel
theorem dX9_weighedScore_12 : decode cX9_weighedScore 12 = .ok (.if_icmp .ge 47, 3) := by decide +kernel
theorem dX9_weighedScore_15 : decode cX9_weighedScore 15 = .ok (.aload_n 0, 1) := by decide +kernel
theorem dX9_weighedScore_16 : decode cX9_weighedScore 16 = .ok (.getfield 42, 3) := by decide +kernel
theorem dX9_weighedScore_19 : decode cX9_weighedScore 19 = .ok (.iload_n 1, 1) := by decide +kernel
theorem dX9_weighedScore_20 : decode cX9_weighedScore 20 = .ok (.iconst 2, 1) := by decide +kernel
theorem dX9_weighedScore_21 : decode cX9_weighedScore 21 = .ok (.iload_n 3, 1) := by decide +kernel
theorem dX9_weighedScore_22 : decode cX9_weighedScore 22 = .ok (.iadd, 1) := by decide +kernel
theorem dX9_weighedScore_23 : decode cX9_weighedScore 23 = .ok (.aload_n 0, 1) := by decide +kernel
theorem dX9_weighedScore_24 : decode cX9_weighedScore 24 = .ok (.getfield 10, 3) := by decide +kernel
theorem dX9_weighedScore_27 : decode cX9_weighedScore 27 = .ok (.getfield 60, 3) := by decide +kernel
theorem dX9_weighedScore_30 : decode cX9_weighedScore 30 = .ok (.invokevirtual 211, 3) := by decide +kernel
theorem dX9_weighedScore_33 : decode cX9_weighedScore 33 = .ok (.iload_n 2, 1) := by decide +kernel
theorem dX9_weighedScore_34 : decode cX9_weighedScore 34 = .ok (.aload_n 0, 1) := by decide +kernel
theorem dX9_weighedScore_35 : decode cX9_weighedScore 35 = .ok (.getfield 10, 3) := by decide +kernel
theorem dX9_weighedScore_38 : decode cX9_weighedScore 38 = .ok (.getfield 274, 3) := by decide +kernel
theorem dX9_weighedScore_41 : decode cX9_weighedScore 41 = .ok (.iload_n 3, 1) := by decide +kernel
theorem dX9_weighedScore_42 : decode cX9_weighedScore 42 = .ok (.iaload, 1) := by decide +kernel
theorem dX9_weighedScore_43 : decode cX9_weighedScore 43 = .ok (.aload_n 0, 1) := by decide +kernel
theorem dX9_weighedScore_44 : decode cX9_weighedScore 44 = .ok (.getfield 42, 3) := by decide +kernel
theorem dX9_weighedScore_47 : decode cX9_weighedScore 47 = .ok (.invokevirtual 215, 3) := by decide +kernel
theorem dX9_weighedScore_50 : decode cX9_weighedScore 50 = .ok (.imul, 1) := by decide +kernel
theorem dX9_weighedScore_51 : decode cX9_weighedScore 51 = .ok (.iadd, 1) := by decide +kernel
theorem dX9_weighedScore_52 : decode cX9_weighedScore 52 = .ok (.istore_n 2, 1) := by decide +kernel
theorem dX9_weighedScore_53 : decode cX9_weighedScore 53 = .ok (.iinc 3 1, 3) := by decide +kernel
theorem dX9_weighedScore_56 : decode cX9_weighedScore 56 = .ok (.goto (-52), 3) := by decide +kernel
theorem dX9_weighedScore_59 : decode cX9_weighedScore 59 = .ok (.iload_n 2, 1) := by decide +kernel
theorem dX9_weighedScore_60 : decode cX9_weighedScore 60 = .ok (.ireturn, 1) := by decide +kernel
theorem dX9_readNeeds_0 : decode cX9_readNeeds 0 = .ok (.iload_n 1, 1) := by decide +kernel
theorem dX9_readNeeds_1 : decode cX9_readNeeds 1 = .ok (.bipush 10, 2) := by decide +kernel
theorem dX9_readNeeds_3 : decode cX9_readNeeds 3 = .ok (.irem, 1) := by decide +kernel
theorem dX9_readNeeds_4 : decode cX9_readNeeds 4 = .ok (.istore_n 2, 1) := by decide +kernel
theorem dX9_readNeeds_5 : decode cX9_readNeeds 5 = .ok (.aload_n 0, 1) := by decide +kernel
theorem dX9_readNeeds_6 : decode cX9_readNeeds 6 = .ok (.getfield 56, 3) := by decide +kernel
theorem dX9_readNeeds_9 : decode cX9_readNeeds 9 = .ok (.iload_n 1, 1) := by decide +kernel
theorem dX9_readNeeds_10 : decode cX9_readNeeds 10 = .ok (.sipush 1000, 3) := by decide +kernel
theorem dX9_readNeeds_13 : decode cX9_readNeeds 13 = .ok (.idiv, 1) := by decide +kernel
theorem dX9_readNeeds_14 : decode cX9_readNeeds 14 = .ok (.putfield 277, 3) := by decide +kernel
theorem dX9_readNeeds_17 : decode cX9_readNeeds 17 = .ok (.aload_n 0, 1) := by decide +kernel
theorem dX9_readNeeds_18 : decode cX9_readNeeds 18 = .ok (.getfield 56, 3) := by decide +kernel
theorem dX9_readNeeds_21 : decode cX9_readNeeds 21 = .ok (.iload_n 1, 1) := by decide +kernel
theorem dX9_readNeeds_22 : decode cX9_readNeeds 22 = .ok (.bipush 100, 2) := by decide +kernel
theorem dX9_readNeeds_24 : decode cX9_readNeeds 24 = .ok (.idiv, 1) := by decide +kernel
theorem dX9_readNeeds_25 : decode cX9_readNeeds 25 = .ok (.bipush 10, 2) := by decide +kernel
theorem dX9_readNeeds_27 : decode cX9_readNeeds 27 = .ok (.irem, 1) := by decide +kernel
theorem dX9_readNeeds_28 : decode cX9_readNeeds 28 = .ok (.putfield 280, 3) := by decide +kernel
theorem dX9_readNeeds_31 : decode cX9_readNeeds 31 = .ok (.aload_n 0, 1) := by decide +kernel
theorem dX9_readNeeds_32 : decode cX9_readNeeds 32 = .ok (.getfield 56, 3) := by decide +kernel
theorem dX9_readNeeds_35 : decode cX9_readNeeds 35 = .ok (.iload_n 1, 1) := by decide +kernel
theorem dX9_readNeeds_36 : decode cX9_readNeeds 36 = .ok (.bipush 10, 2) := by decide +kernel
theorem dX9_readNeeds_38 : decode cX9_readNeeds 38 = .ok (.idiv, 1) := by decide +kernel
theorem dX9_readNeeds_39 : decode cX9_readNeeds 39 = .ok (.bipush 10, 2) := by decide +kernel
theorem dX9_readNeeds_41 : decode cX9_readNeeds 41 = .ok (.irem, 1) := by decide +kernel
theorem dX9_readNeeds_42 : decode cX9_readNeeds 42 = .ok (.putfield 283, 3) := by decide +kernel
theorem dX9_readNeeds_45 : decode cX9_readNeeds 45 = .ok (.aload_n 0, 1) := by decide +kernel
theorem dX9_readNeeds_46 : decode cX9_readNeeds 46 = .ok (.getfield 56, 3) := by decide +kernel
theorem dX9_readNeeds_49 : decode cX9_readNeeds 49 = .ok (.iload_n 2, 1) := by decide +kernel
theorem dX9_readNeeds_50 : decode cX9_readNeeds 50 = .ok (.iconst 1, 1) := by decide +kernel
theorem dX9_readNeeds_51 : decode cX9_readNeeds 51 = .ok (.if_icmp .ne 7, 3) := by decide +kernel
theorem dX9_readNeeds_54 : decode cX9_readNeeds 54 = .ok (.iconst 1, 1) := by decide +kernel
theorem dX9_readNeeds_55 : decode cX9_readNeeds 55 = .ok (.goto 4, 3) := by decide +kernel
theorem dX9_readNeeds_58 : decode cX9_readNeeds 58 = .ok (.iconst 0, 1) := by decide +kernel
theorem dX9_readNeeds_59 : decode cX9_readNeeds 59 = .ok (.putfield 286, 3) := by decide +kernel
theorem dX9_readNeeds_62 : decode cX9_readNeeds 62 = .ok (.iload_n 1, 1) := by decide +kernel
theorem dX9_readNeeds_63 : decode cX9_readNeeds 63 = .ok (.ifCond .lt 62, 3) := by decide +kernel
theorem dX9_readNeeds_66 : decode cX9_readNeeds 66 = .ok (.aload_n 0, 1) := by decide +kernel
theorem dX9_readNeeds_67 : decode cX9_readNeeds 67 = .ok (.getfield 56, 3) := by decide +kernel
theorem dX9_readNeeds_70 : decode cX9_readNeeds 70 = .ok (.getfield 277, 3) := by decide +kernel
theorem dX9_readNeeds_73 : decode cX9_readNeeds 73 = .ok (.iconst 1, 1) := by decide +kernel
theorem dX9_readNeeds_74 : decode cX9_readNeeds 74 = .ok (.iconst 4, 1) := by decide +kernel
theorem dX9_readNeeds_75 : decode cX9_readNeeds 75 = .ok (.invokestatic 73, 3) := by decide +kernel
theorem dX9_readNeeds_78 : decode cX9_readNeeds 78 = .ok (.ifCond .eq 47, 3) := by decide +kernel
theorem dX9_readNeeds_81 : decode cX9_readNeeds 81 = .ok (.aload_n 0, 1) := by decide +kernel
theorem dX9_readNeeds_82 : decode cX9_readNeeds 82 = .ok (.getfield 56, 3) := by decide +kernel
theorem dX9_readNeeds_85 : decode cX9_readNeeds 85 = .ok (.getfield 280, 3) := by decide +kernel
theorem dX9_readNeeds_88 : decode cX9_readNeeds 88 = .ok (.iconst 0, 1) := by decide +kernel
theorem dX9_readNeeds_89 : decode cX9_readNeeds 89 = .ok (.iconst 3, 1) := by decide +kernel
theorem dX9_readNeeds_90 : decode cX9_readNeeds 90 = .ok (.invokestatic 73, 3) := by decide +kernel
theorem dX9_readNeeds_93 : decode cX9_readNeeds 93 = .ok (.ifCond .eq 32, 3) := by decide +kernel
theorem dX9_readNeeds_96 : decode cX9_readNeeds 96 = .ok (.aload_n 0, 1) := by decide +kernel
theorem dX9_readNeeds_97 : decode cX9_readNeeds 97 = .ok (.getfield 56, 3) := by decide +kernel
theorem dX9_readNeeds_100 : decode cX9_readNeeds 100 = .ok (.getfield 283, 3) := by decide +kernel
theorem dX9_readNeeds_103 : decode cX9_readNeeds 103 = .ok (.iconst 0, 1) := by decide +kernel
theorem dX9_readNeeds_104 : decode cX9_readNeeds 104 = .ok (.bipush 8, 2) := by decide +kernel
theorem dX9_readNeeds_106 : decode cX9_readNeeds 106 = .ok (.invokestatic 73, 3) := by decide +kernel
theorem dX9_readNeeds_109 : decode cX9_readNeeds 109 = .ok (.ifCond .eq 16, 3) := by decide +kernel
theorem dX9_readNeeds_112 : decode cX9_readNeeds 112 = .ok (.iload_n 2, 1) := by decide +kernel
theorem dX9_readNeeds_113 : decode cX9_readNeeds 113 = .ok (.iconst 0, 1) := by decide +kernel
theorem dX9_readNeeds_114 : decode cX9_readNeeds 114 = .ok (.iconst 1, 1) := by decide +kernel
theorem dX9_readNeeds_115 : decode cX9_readNeeds 115 = .ok (.invokestatic 73, 3) := by decide +kernel
theorem dX9_readNeeds_118 : decode cX9_readNeeds 118 = .ok (.ifCond .eq 7, 3) := by decide +kernel
theorem dX9_readNeeds_121 : decode cX9_readNeeds 121 = .ok (.iconst 1, 1) := by decide +kernel
theorem dX9_readNeeds_122 : decode cX9_readNeeds 122 = .ok (.goto 4, 3) := by decide +kernel
theorem dX9_readNeeds_125 : decode cX9_readNeeds 125 = .ok (.iconst 0, 1) := by decide +kernel
theorem dX9_readNeeds_126 : decode cX9_readNeeds 126 = .ok (.ireturn, 1) := by decide +kernel
theorem dX9_enterLog_0 : decode cX9_enterLog 0 = .ok (.iconst 0, 1) := by decide +kernel
theorem dX9_enterLog_1 : decode cX9_enterLog 1 = .ok (.istore_n 1, 1) := by decide +kernel
theorem dX9_enterLog_2 : decode cX9_enterLog 2 = .ok (.iload_n 1, 1) := by decide +kernel
theorem dX9_enterLog_3 : decode cX9_enterLog 3 = .ok (.aload_n 0, 1) := by decide +kernel
theorem dX9_enterLog_4 : decode cX9_enterLog 4 = .ok (.getfield 10, 3) := by decide +kernel
theorem dX9_enterLog_7 : decode cX9_enterLog 7 = .ok (.getfield 60, 3) := by decide +kernel
theorem dX9_enterLog_10 : decode cX9_enterLog 10 = .ok (.if_icmp .ge 91, 3) := by decide +kernel
theorem dX9_enterLog_13 : decode cX9_enterLog 13 = .ok (.aload_n 0, 1) := by decide +kernel
theorem dX9_enterLog_14 : decode cX9_enterLog 14 = .ok (.getfield 42, 3) := by decide +kernel
theorem dX9_enterLog_17 : decode cX9_enterLog 17 = .ok (.iload_n 1, 1) := by decide +kernel
theorem dX9_enterLog_18 : decode cX9_enterLog 18 = .ok (.invokevirtual 290, 3) := by decide +kernel
theorem dX9_enterLog_21 : decode cX9_enterLog 21 = .ok (.istore_n 2, 1) := by decide +kernel
theorem dX9_enterLog_22 : decode cX9_enterLog 22 = .ok (.aload_n 0, 1) := by decide +kernel
theorem dX9_enterLog_23 : decode cX9_enterLog 23 = .ok (.getfield 42, 3) := by decide +kernel
theorem dX9_enterLog_26 : decode cX9_enterLog 26 = .ok (.getfield 218, 3) := by decide +kernel
theorem dX9_enterLog_29 : decode cX9_enterLog 29 = .ok (.iload_n 1, 1) := by decide +kernel
theorem dX9_enterLog_30 : decode cX9_enterLog 30 = .ok (.iaload, 1) := by decide +kernel
theorem dX9_enterLog_31 : decode cX9_enterLog 31 = .ok (.istore_n 3, 1) := by decide +kernel
theorem dX9_enterLog_32 : decode cX9_enterLog 32 = .ok (.iload_n 2, 1) := by decide +kernel
theorem dX9_enterLog_33 : decode cX9_enterLog 33 = .ok (.iconst (-1), 1) := by decide +kernel
theorem dX9_enterLog_34 : decode cX9_enterLog 34 = .ok (.if_icmp .eq 25, 3) := by decide +kernel
theorem dX9_enterLog_37 : decode cX9_enterLog 37 = .ok (.aload_n 0, 1) := by decide +kernel
theorem dX9_enterLog_38 : decode cX9_enterLog 38 = .ok (.getfield 49, 3) := by decide +kernel
theorem dX9_enterLog_41 : decode cX9_enterLog 41 = .ok (.aload_n 0, 1) := by decide +kernel
theorem dX9_enterLog_42 : decode cX9_enterLog 42 = .ok (.getfield 26, 3) := by decide +kernel
theorem dX9_enterLog_45 : decode cX9_enterLog 45 = .ok (.getfield 157, 3) := by decide +kernel
theorem dX9_enterLog_48 : decode cX9_enterLog 48 = .ok (.iload_n 2, 1) := by decide +kernel
theorem dX9_enterLog_49 : decode cX9_enterLog 49 = .ok (.aaload, 1) := by decide +kernel
theorem dX9_enterLog_50 : decode cX9_enterLog 50 = .ok (.getfield 293, 3) := by decide +kernel
theorem dX9_enterLog_53 : decode cX9_enterLog 53 = .ok (.invokevirtual 296, 3) := by decide +kernel
theorem dX9_enterLog_56 : decode cX9_enterLog 56 = .ok (.goto 39, 3) := by decide +kernel
theorem dX9_enterLog_59 : decode cX9_enterLog 59 = .ok (.iload_n 3, 1) := by decide +kernel
theorem dX9_enterLog_60 : decode cX9_enterLog 60 = .ok (.bipush 20, 2) := by decide +kernel
theorem dX9_enterLog_62 : decode cX9_enterLog 62 = .ok (.if_icmp .ne 14, 3) := by decide +kernel
theorem dX9_enterLog_65 : decode cX9_enterLog 65 = .ok (.aload_n 0, 1) := by decide +kernel
theorem dX9_enterLog_66 : decode cX9_enterLog 66 = .ok (.getfield 49, 3) := by decide +kernel
theorem dX9_enterLog_69 : decode cX9_enterLog 69 = .ok (.iconst 4, 1) := by decide +kernel
theorem dX9_enterLog_70 : decode cX9_enterLog 70 = .ok (.invokevirtual 296, 3) := by decide +kernel
theorem dX9_enterLog_73 : decode cX9_enterLog 73 = .ok (.goto 22, 3) := by decide +kernel
theorem dX9_enterLog_76 : decode cX9_enterLog 76 = .ok (.aload_n 0, 1) := by decide +kernel
theorem dX9_enterLog_77 : decode cX9_enterLog 77 = .ok (.getfield 49, 3) := by decide +kernel
theorem dX9_enterLog_80 : decode cX9_enterLog 80 = .ok (.iload_n 3, 1) := by decide +kernel
theorem dX9_enterLog_81 : decode cX9_enterLog 81 = .ok (.bipush 21, 2) := by decide +kernel
theorem dX9_enterLog_83 : decode cX9_enterLog 83 = .ok (.if_icmp .ne 7, 3) := by decide +kernel
theorem dX9_enterLog_86 : decode cX9_enterLog 86 = .ok (.iconst 5, 1) := by decide +kernel
theorem dX9_enterLog_87 : decode cX9_enterLog 87 = .ok (.goto 5, 3) := by decide +kernel
theorem dX9_enterLog_90 : decode cX9_enterLog 90 = .ok (.bipush 6, 2) := by decide +kernel
theorem dX9_enterLog_92 : decode cX9_enterLog 92 = .ok (.invokevirtual 296, 3) := by decide +kernel
theorem dX9_enterLog_95 : decode cX9_enterLog 95 = .ok (.iinc 1 1, 3) := by decide +kernel
theorem dX9_enterLog_98 : decode cX9_enterLog 98 = .ok (.goto (-96), 3) := by decide +kernel
theorem dX9_enterLog_101 : decode cX9_enterLog 101 = .ok (.return_, 1) := by decide +kernel
theorem dX9_removeDonePlans_0 : decode cX9_removeDonePlans 0 = .ok (.aload_n 0, 1) := by decide +kernel
theorem dX9_removeDonePlans_1 : decode cX9_removeDonePlans 1 = .ok (.getfield 26, 3) := by decide +kernel
theorem dX9_removeDonePlans_4 : decode cX9_removeDonePlans 4 = .ok (.getfield 140, 3) := by decide +kernel
theorem dX9_removeDonePlans_7 : decode cX9_removeDonePlans 7 = .ok (.iconst 1, 1) := by decide +kernel
theorem dX9_removeDonePlans_8 : decode cX9_removeDonePlans 8 = .ok (.isub, 1) := by decide +kernel
theorem dX9_removeDonePlans_9 : decode cX9_removeDonePlans 9 = .ok (.istore_n 1, 1) := by decide +kernel
theorem dX9_removeDonePlans_10 : decode cX9_removeDonePlans 10 = .ok (.iload_n 1, 1) := by decide +kernel
theorem dX9_removeDonePlans_11 : decode cX9_removeDonePlans 11 = .ok (.ifCond .lt 31, 3) := by decide +kernel
theorem dX9_removeDonePlans_14 : decode cX9_removeDonePlans 14 = .ok (.aload_n 0, 1) := by decide +kernel
theorem dX9_removeDonePlans_15 : decode cX9_removeDonePlans 15 = .ok (.getfield 42, 3) := by decide +kernel
theorem dX9_removeDonePlans_18 : decode cX9_removeDonePlans 18 = .ok (.getfield 221, 3) := by decide +kernel
theorem dX9_removeDonePlans_21 : decode cX9_removeDonePlans 21 = .ok (.iload_n 1, 1) := by decide +kernel
theorem dX9_removeDonePlans_22 : decode cX9_removeDonePlans 22 = .ok (.iaload, 1) := by decide +kernel
theorem dX9_removeDonePlans_23 : decode cX9_removeDonePlans 23 = .ok (.bipush 8, 2) := by decide +kernel
theorem dX9_removeDonePlans_25 : decode cX9_removeDonePlans 25 = .ok (.if_icmp .ne 11, 3) := by decide +kernel
theorem dX9_removeDonePlans_28 : decode cX9_removeDonePlans 28 = .ok (.aload_n 0, 1) := by decide +kernel
theorem dX9_removeDonePlans_29 : decode cX9_removeDonePlans 29 = .ok (.getfield 26, 3) := by decide +kernel
theorem dX9_removeDonePlans_32 : decode cX9_removeDonePlans 32 = .ok (.iload_n 1, 1) := by decide +kernel
theorem dX9_removeDonePlans_33 : decode cX9_removeDonePlans 33 = .ok (.invokevirtual 154, 3) := by decide +kernel
theorem dX9_removeDonePlans_36 : decode cX9_removeDonePlans 36 = .ok (.iinc 1 (-1), 3) := by decide +kernel
theorem dX9_removeDonePlans_39 : decode cX9_removeDonePlans 39 = .ok (.goto (-29), 3) := by decide +kernel
theorem dX9_removeDonePlans_42 : decode cX9_removeDonePlans 42 = .ok (.return_, 1) := by decide +kernel
theorem dX10_init_0 : decode cX10_init 0 = .ok (.aload_n 0, 1) := by decide +kernel
theorem dX10_init_1 : decode cX10_init 1 = .ok (.invokespecial 1, 3) := by decide +kernel
theorem dX10_init_4 : decode cX10_init 4 = .ok (.aload_n 0, 1) := by decide +kernel
theorem dX10_init_5 : decode cX10_init 5 = .ok (.bipush 10, 2) := by decide +kernel
theorem dX10_init_7 : decode cX10_init 7 = .ok (.putfield 7, 3) := by decide +kernel
theorem dX10_init_10 : decode cX10_init 10 = .ok (.aload_n 0, 1) := by decide +kernel
theorem dX10_init_11 : decode cX10_init 11 = .ok (.bipush 8, 2) := by decide +kernel
theorem dX10_init_13 : decode cX10_init 13 = .ok (.newarray .int, 2) := by decide +kernel
theorem dX10_init_15 : decode cX10_init 15 = .ok (.putfield 13, 3) := by decide +kernel
theorem dX10_init_18 : decode cX10_init 18 = .ok (.aload_n 0, 1) := by decide +kernel
theorem dX10_init_19 : decode cX10_init 19 = .ok (.bipush 8, 2) := by decide +kernel
theorem dX10_init_21 : decode cX10_init 21 = .ok (.newarray .int, 2) := by decide +kernel
theorem dX10_init_23 : decode cX10_init 23 = .ok (.putfield 17, 3) := by decide +kernel
theorem dX10_init_26 : decode cX10_init 26 = .ok (.aload_n 0, 1) := by decide +kernel
theorem dX10_init_27 : decode cX10_init 27 = .ok (.bipush 8, 2) := by decide +kernel
theorem dX10_init_29 : decode cX10_init 29 = .ok (.newarray .int, 2) := by decide +kernel
theorem dX10_init_31 : decode cX10_init 31 = .ok (.putfield 20, 3) := by decide +kernel
theorem dX10_init_34 : decode cX10_init 34 = .ok (.aload_n 0, 1) := by decide +kernel
theorem dX10_init_35 : decode cX10_init 35 = .ok (.iconst (-1), 1) := by decide +kernel
theorem dX10_init_36 : decode cX10_init 36 = .ok (.putfield 23, 3) := by decide +kernel
theorem dX10_init_39 : decode cX10_init 39 = .ok (.aload_n 0, 1) := by decide +kernel
theorem dX10_init_40 : decode cX10_init 40 = .ok (.bipush 72, 2) := by decide +kernel
theorem dX10_init_42 : decode cX10_init 42 = .ok (.newarray .int, 2) := by decide +kernel
theorem dX10_init_44 : decode cX10_init 44 = .ok (.putfield 26, 3) := by decide +kernel
theorem dX10_init_47 : decode cX10_init 47 = .ok (.aload_n 0, 1) := by decide +kernel
theorem dX10_init_48 : decode cX10_init 48 = .ok (.iconst 4, 1) := by decide +kernel
theorem dX10_init_49 : decode cX10_init 49 = .ok (.newarray .int, 2) := by decide +kernel
theorem dX10_init_51 : decode cX10_init 51 = .ok (.putfield 29, 3) := by decide +kernel
theorem dX10_init_54 : decode cX10_init 54 = .ok (.aload_n 0, 1) := by decide +kernel
theorem dX10_init_55 : decode cX10_init 55 = .ok (.sipush 160, 3) := by decide +kernel
theorem dX10_init_58 : decode cX10_init 58 = .ok (.newarray .int, 2) := by decide +kernel
theorem dX10_init_60 : decode cX10_init 60 = .ok (.putfield 32, 3) := by decide +kernel
theorem dX10_init_63 : decode cX10_init 63 = .ok (.aload_n 0, 1) := by decide +kernel
theorem dX10_init_64 : decode cX10_init 64 = .ok (.sipush 161, 3) := by decide +kernel
theorem dX10_init_67 : decode cX10_init 67 = .ok (.newarray .int, 2) := by decide +kernel
theorem dX10_init_69 : decode cX10_init 69 = .ok (.putfield 35, 3) := by decide +kernel
theorem dX10_init_72 : decode cX10_init 72 = .ok (.aload_n 0, 1) := by decide +kernel
theorem dX10_init_73 : decode cX10_init 73 = .ok (.sipush 161, 3) := by decide +kernel
theorem dX10_init_76 : decode cX10_init 76 = .ok (.newarray .int, 2) := by decide +kernel
theorem dX10_init_78 : decode cX10_init 78 = .ok (.putfield 38, 3) := by decide +kernel
theorem dX10_init_81 : decode cX10_init 81 = .ok (.aload_n 0, 1) := by decide +kernel
theorem dX10_init_82 : decode cX10_init 82 = .ok (.sipush 161, 3) := by decide +kernel
theorem dX10_init_85 : decode cX10_init 85 = .ok (.newarray .int, 2) := by decide +kernel
theorem dX10_init_87 : decode cX10_init 87 = .ok (.putfield 41, 3) := by decide +kernel
theorem dX10_init_90 : decode cX10_init 90 = .ok (.aload_n 0, 1) := by decide +kernel
theorem dX10_init_91 : decode cX10_init 91 = .ok (.bipush 23, 2) := by decide +kernel
theorem dX10_init_93 : decode cX10_init 93 = .ok (.newarray .int, 2) := by decide +kernel
theorem dX10_init_95 : decode cX10_init 95 = .ok (.putfield 44, 3) := by decide +kernel
theorem dX10_init_98 : decode cX10_init 98 = .ok (.aload_n 0, 1) := by decide +kernel
theorem dX10_init_99 : decode cX10_init 99 = .ok (.sipush 138, 3) := by decide +kernel
theorem dX10_init_102 : decode cX10_init 102 = .ok (.newarray .int, 2) := by decide +kernel
theorem dX10_init_104 : decode cX10_init 104 = .ok (.putfield 47, 3) := by decide +kernel
theorem dX10_init_107 : decode cX10_init 107 = .ok (.aload_n 0, 1) := by decide +kernel
theorem dX10_init_108 : decode cX10_init 108 = .ok (.iconst 5, 1) := by decide +kernel
theorem dX10_init_109 : decode cX10_init 109 = .ok (.newarray .int, 2) := by decide +kernel
theorem dX10_init_111 : decode cX10_init 111 = .ok (.putfield 50, 3) := by decide +kernel
theorem dX10_init_114 : decode cX10_init 114 = .ok (.aload_n 0, 1) := by decide +kernel
theorem dX10_init_115 : decode cX10_init 115 = .ok (.sipush 1000, 3) := by decide +kernel
theorem dX10_init_118 : decode cX10_init 118 = .ok (.newarray .int, 2) := by decide +kernel
theorem dX10_init_120 : decode cX10_init 120 = .ok (.putfield 53, 3) := by decide +kernel
theorem dX10_init_123 : decode cX10_init 123 = .ok (.aload_n 0, 1) := by decide +kernel
theorem dX10_init_124 : decode cX10_init 124 = .ok (.sipush 1000, 3) := by decide +kernel
theorem dX10_init_127 : decode cX10_init 127 = .ok (.newarray .int, 2) := by decide +kernel
theorem dX10_init_129 : decode cX10_init 129 = .ok (.putfield 56, 3) := by decide +kernel
theorem dX10_init_132 : decode cX10_init 132 = .ok (.aload_n 0, 1) := by decide +kernel
theorem dX10_init_133 : decode cX10_init 133 = .ok (.sipush 1000, 3) := by decide +kernel
theorem dX10_init_136 : decode cX10_init 136 = .ok (.newarray .boolean, 2) := by decide +kernel
theorem dX10_init_138 : decode cX10_init 138 = .ok (.putfield 59, 3) := by decide +kernel
theorem dX10_init_141 : decode cX10_init 141 = .ok (.aload_n 0, 1) := by decide +kernel
theorem dX10_init_142 : decode cX10_init 142 = .ok (.bipush 6, 2) := by decide +kernel
theorem dX10_init_144 : decode cX10_init 144 = .ok (.newarray .int, 2) := by decide +kernel
theorem dX10_init_146 : decode cX10_init 146 = .ok (.putfield 63, 3) := by decide +kernel
theorem dX10_init_149 : decode cX10_init 149 = .ok (.aload_n 0, 1) := by decide +kernel
theorem dX10_init_150 : decode cX10_init 150 = .ok (.iconst 5, 1) := by decide +kernel
theorem dX10_init_151 : decode cX10_init 151 = .ok (.newarray .int, 2) := by decide +kernel
theorem dX10_init_153 : decode cX10_init 153 = .ok (.putfield 66, 3) := by decide +kernel
theorem dX10_init_156 : decode cX10_init 156 = .ok (.aload_n 0, 1) := by decide +kernel
theorem dX10_init_157 : decode cX10_init 157 = .ok (.iconst 5, 1) := by decide +kernel
theorem dX10_init_158 : decode cX10_init 158 = .ok (.newarray .int, 2) := by decide +kernel
theorem dX10_init_160 : decode cX10_init 160 = .ok (.putfield 69, 3) := by decide +kernel
theorem dX10_init_163 : decode cX10_init 163 = .ok (.aload_n 0, 1) := by decide +kernel
theorem dX10_init_164 : decode cX10_init 164 = .ok (.iconst 5, 1) := by decide +kernel
theorem dX10_init_165 : decode cX10_init 165 = .ok (.newarray .int, 2) := by decide +kernel
theorem dX10_init_167 : decode cX10_init 167 = .ok (.putfield 72, 3) := by decide +kernel
theorem dX10_init_170 : decode cX10_init 170 = .ok (.aload_n 0, 1) := by decide +kernel
theorem dX10_init_171 : decode cX10_init 171 = .ok (.iconst 5, 1) := by decide +kernel
theorem dX10_init_172 : decode cX10_init 172 = .ok (.newarray .boolean, 2) := by decide +kernel
theorem dX10_init_174 : decode cX10_init 174 = .ok (.putfield 75, 3) := by decide +kernel
theorem dX10_init_177 : decode cX10_init 177 = .ok (.aload_n 0, 1) := by decide +kernel
theorem dX10_init_178 : decode cX10_init 178 = .ok (.bipush 12, 2) := by decide +kernel
theorem dX10_init_180 : decode cX10_init 180 = .ok (.newarray .int, 2) := by decide +kernel
theorem dX10_init_182 : decode cX10_init 182 = .ok (.putfield 78, 3) := by decide +kernel
theorem dX10_init_185 : decode cX10_init 185 = .ok (.aload_n 0, 1) := by decide +kernel
theorem dX10_init_186 : decode cX10_init 186 = .ok (.iconst 4, 1) := by decide +kernel
theorem dX10_init_187 : decode cX10_init 187 = .ok (.newarray .int, 2) := by decide +kernel
theorem dX10_init_189 : decode cX10_init 189 = .ok (.putfield 81, 3) := by decide +kernel
theorem dX10_init_192 : decode cX10_init 192 = .ok (.aload_n 0, 1) := by decide +kernel
theorem dX10_init_193 : decode cX10_init 193 = .ok (.bipush 8, 2) := by decide +kernel
theorem dX10_init_195 : decode cX10_init 195 = .ok (.newarray .int, 2) := by decide +kernel
theorem dX10_init_197 : decode cX10_init 197 = .ok (.putfield 84, 3) := by decide +kernel
theorem dX10_init_200 : decode cX10_init 200 = .ok (.iconst 0, 1) := by decide +kernel
theorem dX10_init_201 : decode cX10_init 201 = .ok (.istore_n 1, 1) := by decide +kernel
theorem dX10_init_202 : decode cX10_init 202 = .ok (.iload_n 1, 1) := by decide +kernel
theorem dX10_init_203 : decode cX10_init 203 = .ok (.bipush 72, 2) := by decide +kernel
theorem dX10_init_205 : decode cX10_init 205 = .ok (.if_icmp .ge 16, 3) := by decide +kernel
theorem dX10_init_208 : decode cX10_init 208 = .ok (.aload_n 0, 1) := by decide +kernel
theorem dX10_init_209 : decode cX10_init 209 = .ok (.getfield 26, 3) := by decide +kernel
theorem dX10_init_212 : decode cX10_init 212 = .ok (.iload_n 1, 1) := by decide +kernel
theorem dX10_init_213 : decode cX10_init 213 = .ok (.iconst 1, 1) := by decide +kernel
theorem dX10_init_214 : decode cX10_init 214 = .ok (.iastore, 1) := by decide +kernel
theorem dX10_init_215 : decode cX10_init 215 = .ok (.iinc 1 1, 3) := by decide +kernel
theorem dX10_init_218 : decode cX10_init 218 = .ok (.goto (-16), 3) := by decide +kernel
theorem dX10_init_221 : decode cX10_init 221 = .ok (.iconst 0, 1) := by decide +kernel
theorem dX10_init_222 : decode cX10_init 222 = .ok (.istore_n 1, 1) := by decide +kernel
theorem dX10_init_223 : decode cX10_init 223 = .ok (.iload_n 1, 1) := by decide +kernel
theorem dX10_init_224 : decode cX10_init 224 = .ok (.iconst 4, 1) := by decide +kernel
theorem dX10_init_225 : decode cX10_init 225 = .ok (.if_icmp .ge 16, 3) := by decide +kernel
theorem dX10_init_228 : decode cX10_init 228 = .ok (.aload_n 0, 1) := by decide +kernel
theorem dX10_init_229 : decode cX10_init 229 = .ok (.getfield 81, 3) := by decide +kernel
theorem dX10_init_232 : decode cX10_init 232 = .ok (.iload_n 1, 1) := by decide +kernel
theorem dX10_init_233 : decode cX10_init 233 = .ok (.iconst 1, 1) := by decide +kernel
theorem dX10_init_234 : decode cX10_init 234 = .ok (.iastore, 1) := by decide +kernel
theorem dX10_init_235 : decode cX10_init 235 = .ok (.iinc 1 1, 3) := by decide +kernel
theorem dX10_init_238 : decode cX10_init 238 = .ok (.goto (-15), 3) := by decide +kernel
theorem dX10_init_241 : decode cX10_init 241 = .ok (.return_, 1) := by decide +kernel
theorem dX10_in_0 : decode cX10_in 0 = .ok (.iload_n 0, 1) := by decide +kernel
theorem dX10_in_1 : decode cX10_in 1 = .ok (.iload_n 1, 1) := by decide +kernel
theorem dX10_in_2 : decode cX10_in 2 = .ok (.if_icmp .lt 12, 3) := by decide +kernel
theorem dX10_in_5 : decode cX10_in 5 = .ok (.iload_n 0, 1) := by decide +kernel
theorem dX10_in_6 : decode cX10_in 6 = .ok (.iload_n 2, 1) := by decide +kernel
theorem dX10_in_7 : decode cX10_in 7 = .ok (.if_icmp .gt 7, 3) := by decide +kernel
theorem dX10_in_10 : decode cX10_in 10 = .ok (.iconst 1, 1) := by decide +kernel
theorem dX10_in_11 : decode cX10_in 11 = .ok (.goto 4, 3) := by decide +kernel
theorem dX10_in_14 : decode cX10_in 14 = .ok (.iconst 0, 1) := by decide +kernel
theorem dX10_in_15 : decode cX10_in 15 = .ok (.ireturn, 1) := by decide +kernel
theorem dX10_isSlot_0 : decode cX10_isSlot 0 = .ok (.iload_n 1, 1) := by decide +kernel
theorem dX10_isSlot_1 : decode cX10_isSlot 1 = .ok (.iconst 0, 1) := by decide +kernel
theorem dX10_isSlot_2 : decode cX10_isSlot 2 = .ok (.aload_n 0, 1) := by decide +kernel
theorem dX10_isSlot_3 : decode cX10_isSlot 3 = .ok (.getfield 7, 3) := by decide +kernel
theorem dX10_isSlot_6 : decode cX10_isSlot 6 = .ok (.iconst 1, 1) := by decide +kernel
theorem dX10_isSlot_7 : decode cX10_isSlot 7 = .ok (.isub, 1) := by decide +kernel
theorem dX10_isSlot_8 : decode cX10_isSlot 8 = .ok (.invokestatic 87, 3) := by decide +kernel
theorem dX10_isSlot_11 : decode cX10_isSlot 11 = .ok (.ireturn, 1) := by decide +kernel
theorem dX10_isTarget_0 : decode cX10_isTarget 0 = .ok (.iload_n 1, 1) := by decide +kernel
theorem dX10_isTarget_1 : decode cX10_isTarget 1 = .ok (.iconst 0, 1) := by decide +kernel
theorem dX10_isTarget_2 : decode cX10_isTarget 2 = .ok (.aload_n 0, 1) := by decide +kernel
theorem dX10_isTarget_3 : decode cX10_isTarget 3 = .ok (.getfield 91, 3) := by decide +kernel
theorem dX10_isTarget_6 : decode cX10_isTarget 6 = .ok (.iconst 1, 1) := by decide +kernel
theorem dX10_isTarget_7 : decode cX10_isTarget 7 = .ok (.isub, 1) := by decide +kernel
theorem dX10_isTarget_8 : decode cX10_isTarget 8 = .ok (.invokestatic 87, 3) := by decide +kernel
theorem dX10_isTarget_11 : decode cX10_isTarget 11 = .ok (.ireturn, 1) := by decide +kernel
theorem dX10_isPlan_0 : decode cX10_isPlan 0 = .ok (.iload_n 1, 1) := by decide +kernel
theorem dX10_isPlan_1 : decode cX10_isPlan 1 = .ok (.iconst 0, 1) := by decide +kernel
theorem dX10_isPlan_2 : decode cX10_isPlan 2 = .ok (.aload_n 0, 1) := by decide +kernel
theorem dX10_isPlan_3 : decode cX10_isPlan 3 = .ok (.getfield 94, 3) := by decide +kernel
theorem dX10_isPlan_6 : decode cX10_isPlan 6 = .ok (.iconst 1, 1) := by decide +kernel
theorem dX10_isPlan_7 : decode cX10_isPlan 7 = .ok (.isub, 1) := by decide +kernel
theorem dX10_isPlan_8 : decode cX10_isPlan 8 = .ok (.invokestatic 87, 3) := by decide +kernel
theorem dX10_isPlan_11 : decode cX10_isPlan 11 = .ok (.ireturn, 1) := by decide +kernel
theorem dX10_isSky_0 : decode cX10_isSky 0 = .ok (.iload_n 1, 1) := by decide +kernel
theorem dX10_isSky_1 : decode cX10_isSky 1 = .ok (.iconst 0, 1) := by decide +kernel
theorem dX10_isSky_2 : decode cX10_isSky 2 = .ok (.iconst 1, 1) := by decide +kernel
theorem dX10_isSky_3 : decode cX10_isSky 3 = .ok (.aload_n 0, 1) := by decide +kernel
theorem dX10_isSky_4 : decode cX10_isSky 4 = .ok (.getfield 97, 3) := by decide +kernel
theorem dX10_isSky_7 : decode cX10_isSky 7 = .ok (.iadd, 1) := by decide +kernel
theorem dX10_isSky_8 : decode cX10_isSky 8 = .ok (.invokestatic 87, 3) := by decide +kernel
theorem dX10_isSky_11 : decode cX10_isSky 11 = .ok (.ireturn, 1) := by decide +kernel
theorem dX10_slots_0 : decode cX10_slots 0 = .ok (.iload_n 1, 1) := by decide +kernel
theorem dX10_slots_1 : decode cX10_slots 1 = .ok (.iconst 4, 1) := by decide +kernel
theorem dX10_slots_2 : decode cX10_slots 2 = .ok (.bipush 12, 2) := by decide +kernel
theorem dX10_slots_4 : decode cX10_slots 4 = .ok (.invokestatic 87, 3) := by decide +kernel
theorem dX10_slots_7 : decode cX10_slots 7 = .ok (.ifCond .ne 6, 3) := by decide +kernel
theorem dX10_slots_10 : decode cX10_slots 10 = .ok (.bipush (-3), 2) := by decide +kernel
theorem dX10_slots_12 : decode cX10_slots 12 = .ok (.ireturn, 1) := by decide +kernel
theorem dX10_slots_13 : decode cX10_slots 13 = .ok (.aload_n 0, 1) := by decide +kernel
theorem dX10_slots_14 : decode cX10_slots 14 = .ok (.getfield 7, 3) := by decide +kernel
theorem dX10_slots_17 : decode cX10_slots 17 = .ok (.istore_n 2, 1) := by decide +kernel
theorem dX10_slots_18 : decode cX10_slots 18 = .ok (.aload_n 0, 1) := by decide +kernel
theorem dX10_slots_19 : decode cX10_slots 19 = .ok (.iload_n 1, 1) := by decide +kernel
theorem dX10_slots_20 : decode cX10_slots 20 = .ok (.putfield 7, 3) := by decide +kernel
theorem dX10_slots_23 : decode cX10_slots 23 = .ok (.iconst 0, 1) := by decide +kernel
theorem dX10_slots_24 : decode cX10_slots 24 = .ok (.istore_n 3, 1) := by decide +kernel
theorem dX10_slots_25 : decode cX10_slots 25 = .ok (.iload_n 3, 1) := by decide +kernel
theorem dX10_slots_26 : decode cX10_slots 26 = .ok (.bipush 24, 2) := by decide +kernel
theorem dX10_slots_28 : decode cX10_slots 28 = .ok (.if_icmp .ge 16, 3) := by decide +kernel
theorem dX10_slots_31 : decode cX10_slots 31 = .ok (.aload_n 0, 1) := by decide +kernel
theorem dX10_slots_32 : decode cX10_slots 32 = .ok (.getfield 26, 3) := by decide +kernel
theorem dX10_slots_35 : decode cX10_slots 35 = .ok (.iload_n 3, 1) := by decide +kernel
theorem dX10_slots_36 : decode cX10_slots 36 = .ok (.iconst 1, 1) := by decide +kernel
theorem dX10_slots_37 : decode cX10_slots 37 = .ok (.iastore, 1) := by decide +kernel
theorem dX10_slots_38 : decode cX10_slots 38 = .ok (.iinc 3 1, 3) := by decide +kernel
theorem dX10_slots_41 : decode cX10_slots 41 = .ok (.goto (-16), 3) := by decide +kernel
theorem dX10_slots_44 : decode cX10_slots 44 = .ok (.aload_n 0, 1) := by decide +kernel
theorem dX10_slots_45 : decode cX10_slots 45 = .ok (.iconst (-1), 1) := by decide +kernel
theorem dX10_slots_46 : decode cX10_slots 46 = .ok (.putfield 23, 3) := by decide +kernel
theorem dX10_slots_49 : decode cX10_slots 49 = .ok (.aload_n 0, 1) := by decide +kernel
theorem dX10_slots_50 : decode cX10_slots 50 = .ok (.iconst 0, 1) := by decide +kernel
theorem dX10_slots_51 : decode cX10_slots 51 = .ok (.putfield 97, 3) := by decide +kernel
theorem dX10_slots_54 : decode cX10_slots 54 = .ok (.iload_n 2, 1) := by decide +kernel
theorem dX10_slots_55 : decode cX10_slots 55 = .ok (.ireturn, 1) := by decide +kernel
theorem dX10_target_0 : decode cX10_target 0 = .ok (.iload_n 1, 1) := by decide +kernel
theorem dX10_target_1 : decode cX10_target 1 = .ok (.iconst 0, 1) := by decide +kernel
theorem dX10_target_2 : decode cX10_target 2 = .ok (.bipush 40, 2) := by decide +kernel
theorem dX10_target_4 : decode cX10_target 4 = .ok (.invokestatic 87, 3) := by decide +kernel
theorem dX10_target_7 : decode cX10_target 7 = .ok (.ifCond .eq 22, 3) := by decide +kernel
theorem dX10_target_10 : decode cX10_target 10 = .ok (.iload_n 2, 1) := by decide +kernel
theorem dX10_target_11 : decode cX10_target 11 = .ok (.iconst 0, 1) := by decide +kernel
theorem dX10_target_12 : decode cX10_target 12 = .ok (.bipush 8, 2) := by decide +kernel
theorem dX10_target_14 : decode cX10_target 14 = .ok (.invokestatic 87, 3) := by decide +kernel
theorem dX10_target_17 : decode cX10_target 17 = .ok (.ifCond .eq 12, 3) := by decide +kernel
theorem dX10_target_20 : decode cX10_target 20 = .ok (.iload_n 3, 1) := by decide +kernel
theorem dX10_target_21 : decode cX10_target 21 = .ok (.iconst 0, 1) := by decide +kernel
theorem dX10_target_22 : decode cX10_target 22 = .ok (.iconst 3, 1) := by decide +kernel
theorem dX10_target_23 : decode cX10_target 23 = .ok (.invokestatic 87, 3) := by decide +kernel
theorem dX10_target_26 : decode cX10_target 26 = .ok (.ifCond .ne 6, 3) := by decide +kernel
theorem dX10_target_29 : decode cX10_target 29 = .ok (.bipush (-3), 2) := by decide +kernel
theorem dX10_target_31 : decode cX10_target 31 = .ok (.ireturn, 1) := by decide +kernel
theorem dX10_target_32 : decode cX10_target 32 = .ok (.aload_n 0, 1) := by decide +kernel
theorem dX10_target_33 : decode cX10_target 33 = .ok (.getfield 91, 3) := by decide +kernel
theorem dX10_target_36 : decode cX10_target 36 = .ok (.bipush 8, 2) := by decide +kernel
theorem dX10_target_38 : decode cX10_target 38 = .ok (.if_icmp .ne 6, 3) := by decide +kernel
theorem dX10_target_41 : decode cX10_target 41 = .ok (.bipush (-5), 2) := by decide +kernel
theorem dX10_target_43 : decode cX10_target 43 = .ok (.ireturn, 1) := by decide +kernel
theorem dX10_target_44 : decode cX10_target 44 = .ok (.aload_n 0, 1) := by decide +kernel
theorem dX10_target_45 : decode cX10_target 45 = .ok (.getfield 13, 3) := by decide +kernel
theorem dX10_target_48 : decode cX10_target 48 = .ok (.aload_n 0, 1) := by decide +kernel
theorem dX10_target_49 : decode cX10_target 49 = .ok (.getfield 91, 3) := by decide +kernel
theorem dX10_target_52 : decode cX10_target 52 = .ok (.iload_n 1, 1) := by decide +kernel
theorem dX10_target_53 : decode cX10_target 53 = .ok (.iastore, 1) := by decide +kernel
theorem dX10_target_54 : decode cX10_target 54 = .ok (.aload_n 0, 1) := by decide +kernel
theorem dX10_target_55 : decode cX10_target 55 = .ok (.getfield 17, 3) := by decide +kernel
theorem dX10_target_58 : decode cX10_target 58 = .ok (.aload_n 0, 1) := by decide +kernel
theorem dX10_target_59 : decode cX10_target 59 = .ok (.getfield 91, 3) := by decide +kernel
theorem dX10_target_62 : decode cX10_target 62 = .ok (.iload_n 2, 1) := by decide +kernel
theorem dX10_target_63 : decode cX10_target 63 = .ok (.iastore, 1) := by decide +kernel
theorem dX10_target_64 : decode cX10_target 64 = .ok (.aload_n 0, 1) := by decide +kernel
theorem dX10_target_65 : decode cX10_target 65 = .ok (.getfield 20, 3) := by decide +kernel
theorem dX10_target_68 : decode cX10_target 68 = .ok (.aload_n 0, 1) := by decide +kernel
theorem dX10_target_69 : decode cX10_target 69 = .ok (.getfield 91, 3) := by decide +kernel
theorem dX10_target_72 : decode cX10_target 72 = .ok (.iload_n 3, 1) := by decide +kernel
theorem dX10_target_73 : decode cX10_target 73 = .ok (.iastore, 1) := by decide +kernel
theorem dX10_target_74 : decode cX10_target 74 = .ok (.aload_n 0, 1) := by decide +kernel
theorem dX10_target_75 : decode cX10_target 75 = .ok (.dup, 1) := by decide +kernel
theorem dX10_target_76 : decode cX10_target 76 = .ok (.getfield 91, 3) := by decide +kernel
theorem dX10_target_79 : decode cX10_target 79 = .ok (.iconst 1, 1) := by decide +kernel
theorem dX10_target_80 : decode cX10_target 80 = .ok (.iadd, 1) := by decide +kernel
theorem dX10_target_81 : decode cX10_target 81 = .ok (.putfield 91, 3) := by decide +kernel
theorem dX10_target_84 : decode cX10_target 84 = .ok (.aload_n 0, 1) := by decide +kernel
theorem dX10_target_85 : decode cX10_target 85 = .ok (.getfield 91, 3) := by decide +kernel
theorem dX10_target_88 : decode cX10_target 88 = .ok (.iconst 1, 1) := by decide +kernel
theorem dX10_target_89 : decode cX10_target 89 = .ok (.isub, 1) := by decide +kernel
theorem dX10_target_90 : decode cX10_target 90 = .ok (.ireturn, 1) := by decide +kernel
theorem dX10_airOf_0 : decode cX10_airOf 0 = .ok (.iload_n 2, 1) := by decide +kernel
theorem dX10_airOf_1 : decode cX10_airOf 1 = .ok (.aload_n 0, 1) := by decide +kernel
theorem dX10_airOf_2 : decode cX10_airOf 2 = .ok (.getfield 13, 3) := by decide +kernel
theorem dX10_airOf_5 : decode cX10_airOf 5 = .ok (.iload_n 1, 1) := by decide +kernel
theorem dX10_airOf_6 : decode cX10_airOf 6 = .ok (.iaload, 1) := by decide +kernel
theorem dX10_airOf_7 : decode cX10_airOf 7 = .ok (.isub, 1) := by decide +kernel
theorem dX10_airOf_8 : decode cX10_airOf 8 = .ok (.aload_n 0, 1) := by decide +kernel
theorem dX10_airOf_9 : decode cX10_airOf 9 = .ok (.getfield 100, 3) := by decide +kernel
theorem dX10_airOf_12 : decode cX10_airOf 12 = .ok (.iadd, 1) := by decide +kernel
theorem dX10_airOf_13 : decode cX10_airOf 13 = .ok (.istore_n 3, 1) := by decide +kernel
theorem dX10_airOf_14 : decode cX10_airOf 14 = .ok (.iload_n 3, 1) := by decide +kernel
theorem dX10_airOf_15 : decode cX10_airOf 15 = .ok (.ifCond .ge 8, 3) := by decide +kernel
theorem dX10_airOf_18 : decode cX10_airOf 18 = .ok (.iload_n 3, 1) := by decide +kernel
theorem dX10_airOf_19 : decode cX10_airOf 19 = .ok (.ineg, 1) := by decide +kernel
theorem dX10_airOf_20 : decode cX10_airOf 20 = .ok (.goto 4, 3) := by decide +kernel
theorem dX10_airOf_23 : decode cX10_airOf 23 = .ok (.iload_n 3, 1) := by decide +kernel
theorem dX10_airOf_24 : decode cX10_airOf 24 = .ok (.ireturn, 1) := by decide +kernel
theorem dX10_isVisible_0 : decode cX10_isVisible 0 = .ok (.aload_n 0, 1) := by decide +kernel
theorem dX10_isVisible_1 : decode cX10_isVisible 1 = .ok (.iload_n 1, 1) := by decide +kernel
theorem dX10_isVisible_2 : decode cX10_isVisible 2 = .ok (.iload_n 2, 1) := by decide +kernel
theorem dX10_isVisible_3 : decode cX10_isVisible 3 = .ok (.invokevirtual 103, 3) := by decide +kernel
theorem dX10_isVisible_6 : decode cX10_isVisible 6 = .ok (.aload_n 0, 1) := by decide +kernel
theorem dX10_isVisible_7 : decode cX10_isVisible 7 = .ok (.getfield 17, 3) := by decide +kernel
theorem dX10_isVisible_10 : decode cX10_isVisible 10 = .ok (.iload_n 1, 1) := by decide +kernel
theorem dX10_isVisible_11 : decode cX10_isVisible 11 = .ok (.iaload, 1) := by decide +kernel
theorem dX10_isVisible_12 : decode cX10_isVisible 12 = .ok (.if_icmp .gt 7, 3) := by decide +kernel
theorem dX10_isVisible_15 : decode cX10_isVisible 15 = .ok (.iconst 1, 1) := by decide +kernel
theorem dX10_isVisible_16 : decode cX10_isVisible 16 = .ok (.goto 4, 3) := by decide +kernel
theorem dX10_isVisible_19 : decode cX10_isVisible 19 = .ok (.iconst 0, 1) := by decide +kernel
theorem dX10_isVisible_20 : decode cX10_isVisible 20 = .ok (.ireturn, 1) := by decide +kernel
theorem dX10_air_0 : decode cX10_air 0 = .ok (.aload_n 0, 1) := by decide +kernel
theorem dX10_air_1 : decode cX10_air 1 = .ok (.iload_n 1, 1) := by decide +kernel
theorem dX10_air_2 : decode cX10_air 2 = .ok (.invokevirtual 107, 3) := by decide +kernel
theorem dX10_air_5 : decode cX10_air 5 = .ok (.ifCond .eq 11, 3) := by decide +kernel
theorem dX10_air_8 : decode cX10_air 8 = .ok (.aload_n 0, 1) := by decide +kernel
theorem dX10_air_9 : decode cX10_air 9 = .ok (.iload_n 2, 1) := by decide +kernel
theorem dX10_air_10 : decode cX10_air 10 = .ok (.invokevirtual 111, 3) := by decide +kernel
theorem dX10_air_13 : decode cX10_air 13 = .ok (.ifCond .ne 6, 3) := by decide +kernel
theorem dX10_air_16 : decode cX10_air 16 = .ok (.bipush (-2), 2) := by decide +kernel
theorem dX10_air_18 : decode cX10_air 18 = .ok (.ireturn, 1) := by decide +kernel
theorem dX10_air_19 : decode cX10_air 19 = .ok (.aload_n 0, 1) := by decide +kernel
theorem dX10_air_20 : decode cX10_air 20 = .ok (.iload_n 1, 1) := by decide +kernel
theorem dX10_air_21 : decode cX10_air 21 = .ok (.iload_n 2, 1) := by decide +kernel
theorem dX10_air_22 : decode cX10_air 22 = .ok (.invokevirtual 114, 3) := by decide +kernel
theorem dX10_air_25 : decode cX10_air 25 = .ok (.ifCond .eq 12, 3) := by decide +kernel
theorem dX10_air_28 : decode cX10_air 28 = .ok (.aload_n 0, 1) := by decide +kernel
theorem dX10_air_29 : decode cX10_air 29 = .ok (.iload_n 1, 1) := by decide +kernel
theorem dX10_air_30 : decode cX10_air 30 = .ok (.iload_n 2, 1) := by decide +kernel
theorem dX10_air_31 : decode cX10_air 31 = .ok (.invokevirtual 103, 3) := by decide +kernel
theorem dX10_air_34 : decode cX10_air 34 = .ok (.goto 4, 3) := by decide +kernel
theorem dX10_air_37 : decode cX10_air 37 = .ok (.iconst (-1), 1) := by decide +kernel
theorem dX10_air_38 : decode cX10_air 38 = .ok (.ireturn, 1) := by decide +kernel
theorem dX10_moon_0 : decode cX10_moon 0 = .ok (.iload_n 1, 1) := by decide +kernel
theorem dX10_moon_1 : decode cX10_moon 1 = .ok (.iconst 0, 1) := by decide +kernel
theorem dX10_moon_2 : decode cX10_moon 2 = .ok (.iconst 3, 1) := by decide +kernel
theorem dX10_moon_3 : decode cX10_moon 3 = .ok (.invokestatic 87, 3) := by decide +kernel
theorem dX10_moon_6 : decode cX10_moon 6 = .ok (.ifCond .eq 24, 3) := by decide +kernel
theorem dX10_moon_9 : decode cX10_moon 9 = .ok (.aload_n 0, 1) := by decide +kernel
theorem dX10_moon_10 : decode cX10_moon 10 = .ok (.iload_n 2, 1) := by decide +kernel
theorem dX10_moon_11 : decode cX10_moon 11 = .ok (.invokevirtual 111, 3) := by decide +kernel
theorem dX10_moon_14 : decode cX10_moon 14 = .ok (.ifCond .eq 16, 3) := by decide +kernel
theorem dX10_moon_17 : decode cX10_moon 17 = .ok (.aload_n 0, 1) := by decide +kernel
theorem dX10_moon_18 : decode cX10_moon 18 = .ok (.iload_n 3, 1) := by decide +kernel
theorem dX10_moon_19 : decode cX10_moon 19 = .ok (.invokevirtual 111, 3) := by decide +kernel
theorem dX10_moon_22 : decode cX10_moon 22 = .ok (.ifCond .eq 8, 3) := by decide +kernel
theorem dX10_moon_25 : decode cX10_moon 25 = .ok (.iload_n 2, 1) := by decide +kernel
theorem dX10_moon_26 : decode cX10_moon 26 = .ok (.iload_n 3, 1) := by decide +kernel
theorem dX10_moon_27 : decode cX10_moon 27 = .ok (.if_icmp .le 6, 3) := by decide +kernel
theorem dX10_moon_30 : decode cX10_moon 30 = .ok (.bipush (-3), 2) := by decide +kernel
theorem dX10_moon_32 : decode cX10_moon 32 = .ok (.ireturn, 1) := by decide +kernel
theorem dX10_moon_33 : decode cX10_moon 33 = .ok (.aload_n 0, 1) := by decide +kernel
theorem dX10_moon_34 : decode cX10_moon 34 = .ok (.iload_n 1, 1) := by decide +kernel
theorem dX10_moon_35 : decode cX10_moon 35 = .ok (.putfield 23, 3) := by decide +kernel
theorem dX10_moon_38 : decode cX10_moon 38 = .ok (.aload_n 0, 1) := by decide +kernel
theorem dX10_moon_39 : decode cX10_moon 39 = .ok (.iload_n 2, 1) := by decide +kernel
theorem dX10_moon_40 : decode cX10_moon 40 = .ok (.putfield 118, 3) := by decide +kernel
theorem dX10_moon_43 : decode cX10_moon 43 = .ok (.aload_n 0, 1) := by decide +kernel
theorem dX10_moon_44 : decode cX10_moon 44 = .ok (.iload_n 3, 1) := by decide +kernel
theorem dX10_moon_45 : decode cX10_moon 45 = .ok (.putfield 121, 3) := by decide +kernel
theorem dX10_moon_48 : decode cX10_moon 48 = .ok (.iconst 1, 1) := by decide +kernel
theorem dX10_moon_49 : decode cX10_moon 49 = .ok (.ireturn, 1) := by decide +kernel
theorem dX10_seeing_0 : decode cX10_seeing 0 = .ok (.aload_n 0, 1) := by decide +kernel
theorem dX10_seeing_1 : decode cX10_seeing 1 = .ok (.iload_n 1, 1) := by decide +kernel
theorem dX10_seeing_2 : decode cX10_seeing 2 = .ok (.invokevirtual 124, 3) := by decide +kernel
theorem dX10_seeing_5 : decode cX10_seeing 5 = .ok (.ifCond .eq 11, 3) := by decide +kernel
theorem dX10_seeing_8 : decode cX10_seeing 8 = .ok (.aload_n 0, 1) := by decide +kernel
theorem dX10_seeing_9 : decode cX10_seeing 9 = .ok (.iload_n 2, 1) := by decide +kernel
theorem dX10_seeing_10 : decode cX10_seeing 10 = .ok (.invokevirtual 111, 3) := by decide +kernel
theorem dX10_seeing_13 : decode cX10_seeing 13 = .ok (.ifCond .ne 6, 3) := by decide +kernel
theorem dX10_seeing_16 : decode cX10_seeing 16 = .ok (.bipush (-2), 2) := by decide +kernel
theorem dX10_seeing_18 : decode cX10_seeing 18 = .ok (.ireturn, 1) := by decide +kernel
theorem dX10_seeing_19 : decode cX10_seeing 19 = .ok (.iload_n 3, 1) := by decide +kernel
theorem dX10_seeing_20 : decode cX10_seeing 20 = .ok (.iconst 0, 1) := by decide +kernel
theorem dX10_seeing_21 : decode cX10_seeing 21 = .ok (.iconst 4, 1) := by decide +kernel
theorem dX10_seeing_22 : decode cX10_seeing 22 = .ok (.invokestatic 87, 3) := by decide +kernel
theorem dX10_seeing_25 : decode cX10_seeing 25 = .ok (.ifCond .ne 6, 3) := by decide +kernel
theorem dX10_seeing_28 : decode cX10_seeing 28 = .ok (.bipush (-3), 2) := by decide +kernel
theorem dX10_seeing_30 : decode cX10_seeing 30 = .ok (.ireturn, 1) := by decide +kernel
theorem dX10_seeing_31 : decode cX10_seeing 31 = .ok (.aload_n 0, 1) := by decide +kernel
theorem dX10_seeing_32 : decode cX10_seeing 32 = .ok (.getfield 26, 3) := by decide +kernel
theorem dX10_seeing_35 : decode cX10_seeing 35 = .ok (.bipush 12, 2) := by decide +kernel
theorem dX10_seeing_37 : decode cX10_seeing 37 = .ok (.iload_n 1, 1) := by decide +kernel
theorem dX10_seeing_38 : decode cX10_seeing 38 = .ok (.imul, 1) := by decide +kernel
theorem dX10_seeing_39 : decode cX10_seeing 39 = .ok (.iload_n 2, 1) := by decide +kernel
theorem dX10_seeing_40 : decode cX10_seeing 40 = .ok (.iadd, 1) := by decide +kernel
theorem dX10_seeing_41 : decode cX10_seeing 41 = .ok (.iaload, 1) := by decide +kernel
theorem dX10_seeing_42 : decode cX10_seeing 42 = .ok (.istore 4, 2) := by decide +kernel
theorem dX10_seeing_44 : decode cX10_seeing 44 = .ok (.aload_n 0, 1) := by decide +kernel
theorem dX10_seeing_45 : decode cX10_seeing 45 = .ok (.getfield 26, 3) := by decide +kernel
theorem dX10_seeing_48 : decode cX10_seeing 48 = .ok (.bipush 12, 2) := by decide +kernel
theorem dX10_seeing_50 : decode cX10_seeing 50 = .ok (.iload_n 1, 1) := by decide +kernel
theorem dX10_seeing_51 : decode cX10_seeing 51 = .ok (.imul, 1) := by decide +kernel
theorem dX10_seeing_52 : decode cX10_seeing 52 = .ok (.iload_n 2, 1) := by decide +kernel
theorem dX10_seeing_53 : decode cX10_seeing 53 = .ok (.iadd, 1) := by decide +kernel
theorem dX10_seeing_54 : decode cX10_seeing 54 = .ok (.iload_n 3, 1) := by decide +kernel
theorem dX10_seeing_55 : decode cX10_seeing 55 = .ok (.iastore, 1) := by decide +kernel
theorem dX10_seeing_56 : decode cX10_seeing 56 = .ok (.iload 4, 2) := by decide +kernel
theorem dX10_seeing_58 : decode cX10_seeing 58 = .ok (.ireturn, 1) := by decide +kernel
theorem dX10_world_0 : decode cX10_world 0 = .ok (.iload_n 1, 1) := by decide +kernel
theorem dX10_world_1 : decode cX10_world 1 = .ok (.iconst 1, 1) := by decide +kernel
theorem dX10_world_2 : decode cX10_world 2 = .ok (.bipush 9, 2) := by decide +kernel
theorem dX10_world_4 : decode cX10_world 4 = .ok (.invokestatic 87, 3) := by decide +kernel
theorem dX10_world_7 : decode cX10_world 7 = .ok (.ifCond .ne 6, 3) := by decide +kernel
theorem dX10_world_10 : decode cX10_world 10 = .ok (.bipush (-3), 2) := by decide +kernel
theorem dX10_world_12 : decode cX10_world 12 = .ok (.ireturn, 1) := by decide +kernel
theorem dX10_world_13 : decode cX10_world 13 = .ok (.aload_n 0, 1) := by decide +kernel
theorem dX10_world_14 : decode cX10_world 14 = .ok (.getfield 97, 3) := by decide +kernel
theorem dX10_world_17 : decode cX10_world 17 = .ok (.iconst 4, 1) := by decide +kernel
theorem dX10_world_18 : decode cX10_world 18 = .ok (.if_icmp .ne 6, 3) := by decide +kernel
theorem dX10_world_21 : decode cX10_world 21 = .ok (.bipush (-5), 2) := by decide +kernel
theorem dX10_world_23 : decode cX10_world 23 = .ok (.ireturn, 1) := by decide +kernel
theorem dX10_world_24 : decode cX10_world 24 = .ok (.iconst 0, 1) := by decide +kernel
theorem dX10_world_25 : decode cX10_world 25 = .ok (.istore_n 2, 1) := by decide +kernel
theorem dX10_world_26 : decode cX10_world 26 = .ok (.iload_n 2, 1) := by decide +kernel
theorem dX10_world_27 : decode cX10_world 27 = .ok (.bipush 12, 2) := by decide +kernel
theorem dX10_world_29 : decode cX10_world 29 = .ok (.if_icmp .ge 32, 3) := by decide +kernel
theorem dX10_world_32 : decode cX10_world 32 = .ok (.aload_n 0, 1) := by decide +kernel
theorem dX10_world_33 : decode cX10_world 33 = .ok (.getfield 26, 3) := by decide +kernel
theorem dX10_world_36 : decode cX10_world 36 = .ok (.bipush 24, 2) := by decide +kernel
theorem dX10_world_38 : decode cX10_world 38 = .ok (.bipush 12, 2) := by decide +kernel
theorem dX10_world_40 : decode cX10_world 40 = .ok (.aload_n 0, 1) := by decide +kernel
theorem dX10_world_41 : decode cX10_world 41 = .ok (.getfield 97, 3) := by decide +kernel
theorem dX10_world_44 : decode cX10_world 44 = .ok (.imul, 1) := by decide +kernel
theorem dX10_world_45 : decode cX10_world 45 = .ok (.iadd, 1) := by decide +kernel
theorem dX10_world_46 : decode cX10_world 46 = .ok (.iload_n 2, 1) := by decide +kernel
theorem dX10_world_47 : decode cX10_world 47 = .ok (.iadd, 1) := by decide +kernel
theorem dX10_world_48 : decode cX10_world 48 = .ok (.aload_n 0, 1) := by decide +kernel
theorem dX10_world_49 : decode cX10_world 49 = .ok (.getfield 26, 3) := by decide +kernel
theorem dX10_world_52 : decode cX10_world 52 = .ok (.iload_n 2, 1) := by decide +kernel
theorem dX10_world_53 : decode cX10_world 53 = .ok (.iaload, 1) := by decide +kernel
theorem dX10_world_54 : decode cX10_world 54 = .ok (.iastore, 1) := by decide +kernel
theorem dX10_world_55 : decode cX10_world 55 = .ok (.iinc 2 1, 3) := by decide +kernel
theorem dX10_world_58 : decode cX10_world 58 = .ok (.goto (-32), 3) := by decide +kernel
theorem dX10_world_61 : decode cX10_world 61 = .ok (.aload_n 0, 1) := by decide +kernel
theorem dX10_world_62 : decode cX10_world 62 = .ok (.getfield 29, 3) := by decide +kernel
theorem dX10_world_65 : decode cX10_world 65 = .ok (.aload_n 0, 1) := by decide +kernel
theorem dX10_world_66 : decode cX10_world 66 = .ok (.getfield 97, 3) := by decide +kernel
theorem dX10_world_69 : decode cX10_world 69 = .ok (.iload_n 1, 1) := by decide +kernel
theorem dX10_world_70 : decode cX10_world 70 = .ok (.iastore, 1) := by decide +kernel
theorem dX10_world_71 : decode cX10_world 71 = .ok (.aload_n 0, 1) := by decide +kernel
theorem dX10_world_72 : decode cX10_world 72 = .ok (.dup, 1) := by decide +kernel
theorem dX10_world_73 : decode cX10_world 73 = .ok (.getfield 97, 3) := by decide +kernel
theorem dX10_world_76 : decode cX10_world 76 = .ok (.iconst 1, 1) := by decide +kernel
theorem dX10_world_77 : decode cX10_world 77 = .ok (.iadd, 1) := by decide +kernel
theorem dX10_world_78 : decode cX10_world 78 = .ok (.putfield 97, 3) := by decide +kernel
theorem dX10_world_81 : decode cX10_world 81 = .ok (.aload_n 0, 1) := by decide +kernel
theorem dX10_world_82 : decode cX10_world 82 = .ok (.getfield 97, 3) := by decide +kernel
theorem dX10_world_85 : decode cX10_world 85 = .ok (.iconst 1, 1) := by decide +kernel
theorem dX10_world_86 : decode cX10_world 86 = .ok (.isub, 1) := by decide +kernel
theorem dX10_world_87 : decode cX10_world 87 = .ok (.ireturn, 1) := by decide +kernel
theorem dX10_unworld_0 : decode cX10_unworld 0 = .ok (.aload_n 0, 1) := by decide +kernel
theorem dX10_unworld_1 : decode cX10_unworld 1 = .ok (.getfield 97, 3) := by decide +kernel
theorem dX10_unworld_4 : decode cX10_unworld 4 = .ok (.istore_n 1, 1) := by decide +kernel
theorem dX10_unworld_5 : decode cX10_unworld 5 = .ok (.aload_n 0, 1) := by decide +kernel
theorem dX10_unworld_6 : decode cX10_unworld 6 = .ok (.iconst 0, 1) := by decide +kernel
theorem dX10_unworld_7 : decode cX10_unworld 7 = .ok (.putfield 97, 3) := by decide +kernel
theorem dX10_unworld_10 : decode cX10_unworld 10 = .ok (.iload_n 1, 1) := by decide +kernel
theorem dX10_unworld_11 : decode cX10_unworld 11 = .ok (.ireturn, 1) := by decide +kernel
theorem dX10_write_0 : decode cX10_write 0 = .ok (.iload_n 3, 1) := by decide +kernel
theorem dX10_write_1 : decode cX10_write 1 = .ok (.iconst 1, 1) := by decide +kernel
theorem dX10_write_2 : decode cX10_write 2 = .ok (.bipush 8, 2) := by decide +kernel
theorem dX10_write_4 : decode cX10_write 4 = .ok (.invokestatic 87, 3) := by decide +kernel
theorem dX10_write_7 : decode cX10_write 7 = .ok (.ifCond .ne 6, 3) := by decide +kernel
theorem dX10_write_10 : decode cX10_write 10 = .ok (.bipush (-3), 2) := by decide +kernel
theorem dX10_write_12 : decode cX10_write 12 = .ok (.ireturn, 1) := by decide +kernel
theorem dX10_write_13 : decode cX10_write 13 = .ok (.aload_n 0, 1) := by decide +kernel
theorem dX10_write_14 : decode cX10_write 14 = .ok (.getfield 127, 3) := by decide +kernel
theorem dX10_write_17 : decode cX10_write 17 = .ok (.iload_n 3, 1) := by decide +kernel
theorem dX10_write_18 : decode cX10_write 18 = .ok (.iadd, 1) := by decide +kernel
theorem dX10_write_19 : decode cX10_write 19 = .ok (.sipush 160, 3) := by decide +kernel
theorem dX10_write_22 : decode cX10_write 22 = .ok (.if_icmp .le 6, 3) := by decide +kernel
theorem dX10_write_25 : decode cX10_write 25 = .ok (.bipush (-5), 2) := by decide +kernel
theorem dX10_write_27 : decode cX10_write 27 = .ok (.ireturn, 1) := by decide +kernel
theorem dX10_write_28 : decode cX10_write 28 = .ok (.iconst 0, 1) := by decide +kernel
theorem dX10_write_29 : decode cX10_write 29 = .ok (.istore 4, 2) := by decide +kernel
theorem dX10_write_31 : decode cX10_write 31 = .ok (.iload 4, 2) := by decide +kernel
theorem dX10_write_33 : decode cX10_write 33 = .ok (.iload_n 3, 1) := by decide +kernel
