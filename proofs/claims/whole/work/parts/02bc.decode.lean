theorem dX5_init_31 : decode cX5_init 31 = .ok (.aastore, 1) := by decide +kernel
theorem dX5_init_32 : decode cX5_init 32 = .ok (.iinc 1 1, 3) := by decide +kernel
theorem dX5_init_35 : decode cX5_init 35 = .ok (.goto (-21), 3) := by decide +kernel
theorem dX5_init_38 : decode cX5_init 38 = .ok (.return_, 1) := by decide +kernel
theorem dX5_headFact_0 : decode cX5_headFact 0 = .ok (.iload_n 1, 1) := by decide +kernel
theorem dX5_headFact_1 : decode cX5_headFact 1 = .ok (.tableswitch 51 0 3 #[31, 36, 41, 46], 31) := by decide +kernel
theorem dX5_headFact_32 : decode cX5_headFact 32 = .ok (.aload_n 0, 1) := by decide +kernel
theorem dX5_headFact_33 : decode cX5_headFact 33 = .ok (.getfield 18, 3) := by decide +kernel
theorem dX5_headFact_36 : decode cX5_headFact 36 = .ok (.ireturn, 1) := by decide +kernel
theorem dX5_headFact_37 : decode cX5_headFact 37 = .ok (.aload_n 0, 1) := by decide +kernel
theorem dX5_headFact_38 : decode cX5_headFact 38 = .ok (.getfield 22, 3) := by decide +kernel
theorem dX5_headFact_41 : decode cX5_headFact 41 = .ok (.ireturn, 1) := by decide +kernel
theorem dX5_headFact_42 : decode cX5_headFact 42 = .ok (.aload_n 0, 1) := by decide +kernel
theorem dX5_headFact_43 : decode cX5_headFact 43 = .ok (.getfield 25, 3) := by decide +kernel
theorem dX5_headFact_46 : decode cX5_headFact 46 = .ok (.ireturn, 1) := by decide +kernel
theorem dX5_headFact_47 : decode cX5_headFact 47 = .ok (.aload_n 0, 1) := by decide +kernel
theorem dX5_headFact_48 : decode cX5_headFact 48 = .ok (.getfield 28, 3) := by decide +kernel
theorem dX5_headFact_51 : decode cX5_headFact 51 = .ok (.ireturn, 1) := by decide +kernel
theorem dX5_headFact_52 : decode cX5_headFact 52 = .ok (.aload_n 0, 1) := by decide +kernel
theorem dX5_headFact_53 : decode cX5_headFact 53 = .ok (.getfield 31, 3) := by decide +kernel
theorem dX5_headFact_56 : decode cX5_headFact 56 = .ok (.ireturn, 1) := by decide +kernel
theorem dX5_slotsInAll_0 : decode cX5_slotsInAll 0 = .ok (.iconst 0, 1) := by decide +kernel
theorem dX5_slotsInAll_1 : decode cX5_slotsInAll 1 = .ok (.istore_n 1, 1) := by decide +kernel
theorem dX5_slotsInAll_2 : decode cX5_slotsInAll 2 = .ok (.iconst 0, 1) := by decide +kernel
theorem dX5_slotsInAll_3 : decode cX5_slotsInAll 3 = .ok (.istore_n 2, 1) := by decide +kernel
theorem dX5_slotsInAll_4 : decode cX5_slotsInAll 4 = .ok (.iload_n 2, 1) := by decide +kernel
theorem dX5_slotsInAll_5 : decode cX5_slotsInAll 5 = .ok (.aload_n 0, 1) := by decide +kernel
theorem dX5_slotsInAll_6 : decode cX5_slotsInAll 6 = .ok (.getfield 31, 3) := by decide +kernel
theorem dX5_slotsInAll_9 : decode cX5_slotsInAll 9 = .ok (.if_icmp .ge 21, 3) := by decide +kernel
theorem dX5_slotsInAll_12 : decode cX5_slotsInAll 12 = .ok (.iload_n 1, 1) := by decide +kernel
theorem dX5_slotsInAll_13 : decode cX5_slotsInAll 13 = .ok (.aload_n 0, 1) := by decide +kernel
theorem dX5_slotsInAll_14 : decode cX5_slotsInAll 14 = .ok (.getfield 11, 3) := by decide +kernel
theorem dX5_slotsInAll_17 : decode cX5_slotsInAll 17 = .ok (.iload_n 2, 1) := by decide +kernel
theorem dX5_slotsInAll_18 : decode cX5_slotsInAll 18 = .ok (.aaload, 1) := by decide +kernel
theorem dX5_slotsInAll_19 : decode cX5_slotsInAll 19 = .ok (.getfield 34, 3) := by decide +kernel
theorem dX5_slotsInAll_22 : decode cX5_slotsInAll 22 = .ok (.iadd, 1) := by decide +kernel
theorem dX5_slotsInAll_23 : decode cX5_slotsInAll 23 = .ok (.istore_n 1, 1) := by decide +kernel
theorem dX5_slotsInAll_24 : decode cX5_slotsInAll 24 = .ok (.iinc 2 1, 3) := by decide +kernel
theorem dX5_slotsInAll_27 : decode cX5_slotsInAll 27 = .ok (.goto (-23), 3) := by decide +kernel
theorem dX5_slotsInAll_30 : decode cX5_slotsInAll 30 = .ok (.iload_n 1, 1) := by decide +kernel
theorem dX5_slotsInAll_31 : decode cX5_slotsInAll 31 = .ok (.ireturn, 1) := by decide +kernel
theorem dX6_init_0 : decode cX6_init 0 = .ok (.aload_n 0, 1) := by decide +kernel
theorem dX6_init_1 : decode cX6_init 1 = .ok (.invokespecial 1, 3) := by decide +kernel
theorem dX6_init_4 : decode cX6_init 4 = .ok (.return_, 1) := by decide +kernel
theorem dX6_fact_0 : decode cX6_fact 0 = .ok (.iload_n 1, 1) := by decide +kernel
theorem dX6_fact_1 : decode cX6_fact 1 = .ok (.tableswitch 68 0 4 #[35, 40, 45, 50, 63], 35) := by decide +kernel
theorem dX6_fact_36 : decode cX6_fact 36 = .ok (.aload_n 0, 1) := by decide +kernel
theorem dX6_fact_37 : decode cX6_fact 37 = .ok (.getfield 7, 3) := by decide +kernel
theorem dX6_fact_40 : decode cX6_fact 40 = .ok (.ireturn, 1) := by decide +kernel
theorem dX6_fact_41 : decode cX6_fact 41 = .ok (.aload_n 0, 1) := by decide +kernel
theorem dX6_fact_42 : decode cX6_fact 42 = .ok (.getfield 13, 3) := by decide +kernel
theorem dX6_fact_45 : decode cX6_fact 45 = .ok (.ireturn, 1) := by decide +kernel
theorem dX6_fact_46 : decode cX6_fact 46 = .ok (.aload_n 0, 1) := by decide +kernel
theorem dX6_fact_47 : decode cX6_fact 47 = .ok (.getfield 16, 3) := by decide +kernel
theorem dX6_fact_50 : decode cX6_fact 50 = .ok (.ireturn, 1) := by decide +kernel
theorem dX6_fact_51 : decode cX6_fact 51 = .ok (.aload_n 0, 1) := by decide +kernel
theorem dX6_fact_52 : decode cX6_fact 52 = .ok (.getfield 19, 3) := by decide +kernel
theorem dX6_fact_55 : decode cX6_fact 55 = .ok (.ifCond .eq 7, 3) := by decide +kernel
theorem dX6_fact_58 : decode cX6_fact 58 = .ok (.iconst 1, 1) := by decide +kernel
theorem dX6_fact_59 : decode cX6_fact 59 = .ok (.goto 4, 3) := by decide +kernel
theorem dX6_fact_62 : decode cX6_fact 62 = .ok (.iconst 0, 1) := by decide +kernel
theorem dX6_fact_63 : decode cX6_fact 63 = .ok (.ireturn, 1) := by decide +kernel
theorem dX6_fact_64 : decode cX6_fact 64 = .ok (.aload_n 0, 1) := by decide +kernel
theorem dX6_fact_65 : decode cX6_fact 65 = .ok (.getfield 23, 3) := by decide +kernel
theorem dX6_fact_68 : decode cX6_fact 68 = .ok (.ireturn, 1) := by decide +kernel
theorem dX6_fact_69 : decode cX6_fact 69 = .ok (.aload_n 0, 1) := by decide +kernel
theorem dX6_fact_70 : decode cX6_fact 70 = .ok (.getfield 26, 3) := by decide +kernel
theorem dX6_fact_73 : decode cX6_fact 73 = .ok (.ireturn, 1) := by decide +kernel
theorem dX7_init_0 : decode cX7_init 0 = .ok (.aload_n 0, 1) := by decide +kernel
theorem dX7_init_1 : decode cX7_init 1 = .ok (.invokespecial 1, 3) := by decide +kernel
theorem dX7_init_4 : decode cX7_init 4 = .ok (.return_, 1) := by decide +kernel
theorem dX8_init_0 : decode cX8_init 0 = .ok (.aload_n 0, 1) := by decide +kernel
theorem dX8_init_1 : decode cX8_init 1 = .ok (.invokespecial 3, 3) := by decide +kernel
theorem dX8_init_4 : decode cX8_init 4 = .ok (.aload_n 0, 1) := by decide +kernel
theorem dX8_init_5 : decode cX8_init 5 = .ok (.bipush 12, 2) := by decide +kernel
theorem dX8_init_7 : decode cX8_init 7 = .ok (.newarray .int, 2) := by decide +kernel
theorem dX8_init_9 : decode cX8_init 9 = .ok (.putfield 9, 3) := by decide +kernel
theorem dX8_init_12 : decode cX8_init 12 = .ok (.aload_n 0, 1) := by decide +kernel
theorem dX8_init_13 : decode cX8_init 13 = .ok (.iconst 5, 1) := by decide +kernel
theorem dX8_init_14 : decode cX8_init 14 = .ok (.newarray .int, 2) := by decide +kernel
theorem dX8_init_16 : decode cX8_init 16 = .ok (.putfield 15, 3) := by decide +kernel
theorem dX8_init_19 : decode cX8_init 19 = .ok (.aload_n 0, 1) := by decide +kernel
theorem dX8_init_20 : decode cX8_init 20 = .ok (.iconst 5, 1) := by decide +kernel
theorem dX8_init_21 : decode cX8_init 21 = .ok (.newarray .int, 2) := by decide +kernel
theorem dX8_init_23 : decode cX8_init 23 = .ok (.putfield 18, 3) := by decide +kernel
theorem dX8_init_26 : decode cX8_init 26 = .ok (.aload_n 0, 1) := by decide +kernel
theorem dX8_init_27 : decode cX8_init 27 = .ok (.iconst 5, 1) := by decide +kernel
theorem dX8_init_28 : decode cX8_init 28 = .ok (.newarray .boolean, 2) := by decide +kernel
theorem dX8_init_30 : decode cX8_init 30 = .ok (.putfield 21, 3) := by decide +kernel
theorem dX8_init_33 : decode cX8_init 33 = .ok (.aload_n 0, 1) := by decide +kernel
theorem dX8_init_34 : decode cX8_init 34 = .ok (.aload_n 1, 1) := by decide +kernel
theorem dX8_init_35 : decode cX8_init 35 = .ok (.putfield 25, 3) := by decide +kernel
theorem dX8_init_38 : decode cX8_init 38 = .ok (.aload_n 0, 1) := by decide +kernel
theorem dX8_init_39 : decode cX8_init 39 = .ok (.aload_n 2, 1) := by decide +kernel
theorem dX8_init_40 : decode cX8_init 40 = .ok (.putfield 29, 3) := by decide +kernel
theorem dX8_init_43 : decode cX8_init 43 = .ok (.return_, 1) := by decide +kernel
theorem dX8_run_0 : decode cX8_run 0 = .ok (.iconst 0, 1) := by decide +kernel
theorem dX8_run_1 : decode cX8_run 1 = .ok (.istore 4, 2) := by decide +kernel
theorem dX8_run_3 : decode cX8_run 3 = .ok (.iload 4, 2) := by decide +kernel
theorem dX8_run_5 : decode cX8_run 5 = .ok (.iconst 5, 1) := by decide +kernel
theorem dX8_run_6 : decode cX8_run 6 = .ok (.if_icmp .ge 25, 3) := by decide +kernel
theorem dX8_run_9 : decode cX8_run 9 = .ok (.aload_n 0, 1) := by decide +kernel
theorem dX8_run_10 : decode cX8_run 10 = .ok (.getfield 15, 3) := by decide +kernel
theorem dX8_run_13 : decode cX8_run 13 = .ok (.iload 4, 2) := by decide +kernel
theorem dX8_run_15 : decode cX8_run 15 = .ok (.iconst 0, 1) := by decide +kernel
theorem dX8_run_16 : decode cX8_run 16 = .ok (.iastore, 1) := by decide +kernel
theorem dX8_run_17 : decode cX8_run 17 = .ok (.aload_n 0, 1) := by decide +kernel
theorem dX8_run_18 : decode cX8_run 18 = .ok (.getfield 21, 3) := by decide +kernel
theorem dX8_run_21 : decode cX8_run 21 = .ok (.iload 4, 2) := by decide +kernel
theorem dX8_run_23 : decode cX8_run 23 = .ok (.iconst 0, 1) := by decide +kernel
theorem dX8_run_24 : decode cX8_run 24 = .ok (.bastore, 1) := by decide +kernel
theorem dX8_run_25 : decode cX8_run 25 = .ok (.iinc 4 1, 3) := by decide +kernel
theorem dX8_run_28 : decode cX8_run 28 = .ok (.goto (-25), 3) := by decide +kernel
theorem dX8_run_31 : decode cX8_run 31 = .ok (.aload_n 0, 1) := by decide +kernel
theorem dX8_run_32 : decode cX8_run 32 = .ok (.iconst 0, 1) := by decide +kernel
theorem dX8_run_33 : decode cX8_run 33 = .ok (.putfield 33, 3) := by decide +kernel
theorem dX8_run_36 : decode cX8_run 36 = .ok (.aload_n 0, 1) := by decide +kernel
theorem dX8_run_37 : decode cX8_run 37 = .ok (.iconst (-1), 1) := by decide +kernel
theorem dX8_run_38 : decode cX8_run 38 = .ok (.putfield 37, 3) := by decide +kernel
theorem dX8_run_41 : decode cX8_run 41 = .ok (.iconst 0, 1) := by decide +kernel
theorem dX8_run_42 : decode cX8_run 42 = .ok (.istore 4, 2) := by decide +kernel
theorem dX8_run_44 : decode cX8_run 44 = .ok (.iload 4, 2) := by decide +kernel
theorem dX8_run_46 : decode cX8_run 46 = .ok (.iload_n 3, 1) := by decide +kernel
theorem dX8_run_47 : decode cX8_run 47 = .ok (.if_icmp .ge 74, 3) := by decide +kernel
theorem dX8_run_50 : decode cX8_run 50 = .ok (.iload 4, 2) := by decide +kernel
theorem dX8_run_52 : decode cX8_run 52 = .ok (.aload_n 0, 1) := by decide +kernel
theorem dX8_run_53 : decode cX8_run 53 = .ok (.getfield 25, 3) := by decide +kernel
theorem dX8_run_56 : decode cX8_run 56 = .ok (.getfield 40, 3) := by decide +kernel
theorem dX8_run_59 : decode cX8_run 59 = .ok (.if_icmp .ge 62, 3) := by decide +kernel
theorem dX8_run_62 : decode cX8_run 62 = .ok (.aload_n 0, 1) := by decide +kernel
theorem dX8_run_63 : decode cX8_run 63 = .ok (.getfield 37, 3) := by decide +kernel
theorem dX8_run_66 : decode cX8_run 66 = .ok (.iconst (-1), 1) := by decide +kernel
theorem dX8_run_67 : decode cX8_run 67 = .ok (.if_icmp .ne 34, 3) := by decide +kernel
theorem dX8_run_70 : decode cX8_run 70 = .ok (.aload_n 0, 1) := by decide +kernel
theorem dX8_run_71 : decode cX8_run 71 = .ok (.iload 4, 2) := by decide +kernel
theorem dX8_run_73 : decode cX8_run 73 = .ok (.invokevirtual 45, 3) := by decide +kernel
theorem dX8_run_76 : decode cX8_run 76 = .ok (.aload_n 0, 1) := by decide +kernel
theorem dX8_run_77 : decode cX8_run 77 = .ok (.getfield 9, 3) := by decide +kernel
theorem dX8_run_80 : decode cX8_run 80 = .ok (.iload 4, 2) := by decide +kernel
theorem dX8_run_82 : decode cX8_run 82 = .ok (.aload_n 0, 1) := by decide +kernel
theorem dX8_run_83 : decode cX8_run 83 = .ok (.iload_n 2, 1) := by decide +kernel
theorem dX8_run_84 : decode cX8_run 84 = .ok (.iload 4, 2) := by decide +kernel
theorem dX8_run_86 : decode cX8_run 86 = .ok (.aload_n 0, 1) := by decide +kernel
theorem dX8_run_87 : decode cX8_run 87 = .ok (.iload_n 1, 1) := by decide +kernel
theorem dX8_run_88 : decode cX8_run 88 = .ok (.iload_n 2, 1) := by decide +kernel
theorem dX8_run_89 : decode cX8_run 89 = .ok (.iload 4, 2) := by decide +kernel
theorem dX8_run_91 : decode cX8_run 91 = .ok (.invokevirtual 49, 3) := by decide +kernel
theorem dX8_run_94 : decode cX8_run 94 = .ok (.invokevirtual 53, 3) := by decide +kernel
theorem dX8_run_97 : decode cX8_run 97 = .ok (.iastore, 1) := by decide +kernel
theorem dX8_run_98 : decode cX8_run 98 = .ok (.goto 17, 3) := by decide +kernel
theorem dX8_run_101 : decode cX8_run 101 = .ok (.aload_n 0, 1) := by decide +kernel
theorem dX8_run_102 : decode cX8_run 102 = .ok (.getfield 9, 3) := by decide +kernel
theorem dX8_run_105 : decode cX8_run 105 = .ok (.iload 4, 2) := by decide +kernel
theorem dX8_run_107 : decode cX8_run 107 = .ok (.aload_n 0, 1) := by decide +kernel
theorem dX8_run_108 : decode cX8_run 108 = .ok (.iload_n 2, 1) := by decide +kernel
theorem dX8_run_109 : decode cX8_run 109 = .ok (.iload 4, 2) := by decide +kernel
theorem dX8_run_111 : decode cX8_run 111 = .ok (.invokevirtual 56, 3) := by decide +kernel
theorem dX8_run_114 : decode cX8_run 114 = .ok (.iastore, 1) := by decide +kernel
theorem dX8_run_115 : decode cX8_run 115 = .ok (.iinc 4 1, 3) := by decide +kernel
theorem dX8_run_118 : decode cX8_run 118 = .ok (.goto (-74), 3) := by decide +kernel
theorem dX8_run_121 : decode cX8_run 121 = .ok (.return_, 1) := by decide +kernel
theorem dX8_scoreNow_0 : decode cX8_scoreNow 0 = .ok (.iconst 0, 1) := by decide +kernel
theorem dX8_scoreNow_1 : decode cX8_scoreNow 1 = .ok (.istore_n 1, 1) := by decide +kernel
theorem dX8_scoreNow_2 : decode cX8_scoreNow 2 = .ok (.iconst 0, 1) := by decide +kernel
theorem dX8_scoreNow_3 : decode cX8_scoreNow 3 = .ok (.istore_n 2, 1) := by decide +kernel
theorem dX8_scoreNow_4 : decode cX8_scoreNow 4 = .ok (.iload_n 2, 1) := by decide +kernel
theorem dX8_scoreNow_5 : decode cX8_scoreNow 5 = .ok (.aload_n 0, 1) := by decide +kernel
theorem dX8_scoreNow_6 : decode cX8_scoreNow 6 = .ok (.getfield 29, 3) := by decide +kernel
theorem dX8_scoreNow_9 : decode cX8_scoreNow 9 = .ok (.getfield 60, 3) := by decide +kernel
theorem dX8_scoreNow_12 : decode cX8_scoreNow 12 = .ok (.if_icmp .ge 35, 3) := by decide +kernel
theorem dX8_scoreNow_15 : decode cX8_scoreNow 15 = .ok (.aload_n 0, 1) := by decide +kernel
theorem dX8_scoreNow_16 : decode cX8_scoreNow 16 = .ok (.getfield 15, 3) := by decide +kernel
theorem dX8_scoreNow_19 : decode cX8_scoreNow 19 = .ok (.iload_n 2, 1) := by decide +kernel
theorem dX8_scoreNow_20 : decode cX8_scoreNow 20 = .ok (.iaload, 1) := by decide +kernel
theorem dX8_scoreNow_21 : decode cX8_scoreNow 21 = .ok (.bipush 8, 2) := by decide +kernel
theorem dX8_scoreNow_23 : decode cX8_scoreNow 23 = .ok (.if_icmp .ne 18, 3) := by decide +kernel
theorem dX8_scoreNow_26 : decode cX8_scoreNow 26 = .ok (.iload_n 1, 1) := by decide +kernel
theorem dX8_scoreNow_27 : decode cX8_scoreNow 27 = .ok (.aload_n 0, 1) := by decide +kernel
theorem dX8_scoreNow_28 : decode cX8_scoreNow 28 = .ok (.getfield 29, 3) := by decide +kernel
theorem dX8_scoreNow_31 : decode cX8_scoreNow 31 = .ok (.getfield 65, 3) := by decide +kernel
theorem dX8_scoreNow_34 : decode cX8_scoreNow 34 = .ok (.iload_n 2, 1) := by decide +kernel
theorem dX8_scoreNow_35 : decode cX8_scoreNow 35 = .ok (.aaload, 1) := by decide +kernel
theorem dX8_scoreNow_36 : decode cX8_scoreNow 36 = .ok (.getfield 69, 3) := by decide +kernel
theorem dX8_scoreNow_39 : decode cX8_scoreNow 39 = .ok (.iadd, 1) := by decide +kernel
theorem dX8_scoreNow_40 : decode cX8_scoreNow 40 = .ok (.istore_n 1, 1) := by decide +kernel
theorem dX8_scoreNow_41 : decode cX8_scoreNow 41 = .ok (.iinc 2 1, 3) := by decide +kernel
theorem dX8_scoreNow_44 : decode cX8_scoreNow 44 = .ok (.goto (-40), 3) := by decide +kernel
theorem dX8_scoreNow_47 : decode cX8_scoreNow 47 = .ok (.iload_n 1, 1) := by decide +kernel
theorem dX8_scoreNow_48 : decode cX8_scoreNow 48 = .ok (.ireturn, 1) := by decide +kernel
theorem dX8_planIn_0 : decode cX8_planIn 0 = .ok (.aload_n 0, 1) := by decide +kernel
theorem dX8_planIn_1 : decode cX8_planIn 1 = .ok (.getfield 9, 3) := by decide +kernel
theorem dX8_planIn_4 : decode cX8_planIn 4 = .ok (.iload_n 1, 1) := by decide +kernel
theorem dX8_planIn_5 : decode cX8_planIn 5 = .ok (.iaload, 1) := by decide +kernel
theorem dX8_planIn_6 : decode cX8_planIn 6 = .ok (.istore_n 2, 1) := by decide +kernel
theorem dX8_planIn_7 : decode cX8_planIn 7 = .ok (.iload_n 2, 1) := by decide +kernel
theorem dX8_planIn_8 : decode cX8_planIn 8 = .ok (.bipush 20, 2) := by decide +kernel
theorem dX8_planIn_10 : decode cX8_planIn 10 = .ok (.if_icmp .lt 7, 3) := by decide +kernel
theorem dX8_planIn_13 : decode cX8_planIn 13 = .ok (.iconst (-1), 1) := by decide +kernel
theorem dX8_planIn_14 : decode cX8_planIn 14 = .ok (.goto 7, 3) := by decide +kernel
theorem dX8_planIn_17 : decode cX8_planIn 17 = .ok (.iload_n 2, 1) := by decide +kernel
theorem dX8_planIn_18 : decode cX8_planIn 18 = .ok (.bipush 10, 2) := by decide +kernel
theorem dX8_planIn_20 : decode cX8_planIn 20 = .ok (.irem, 1) := by decide +kernel
theorem dX8_planIn_21 : decode cX8_planIn 21 = .ok (.ireturn, 1) := by decide +kernel
theorem dX8_beginIn_0 : decode cX8_beginIn 0 = .ok (.iload_n 3, 1) := by decide +kernel
theorem dX8_beginIn_1 : decode cX8_beginIn 1 = .ok (.iconst (-1), 1) := by decide +kernel
theorem dX8_beginIn_2 : decode cX8_beginIn 2 = .ok (.if_icmp .ne 26, 3) := by decide +kernel
theorem dX8_beginIn_5 : decode cX8_beginIn 5 = .ok (.aload_n 0, 1) := by decide +kernel
theorem dX8_beginIn_6 : decode cX8_beginIn 6 = .ok (.getfield 25, 3) := by decide +kernel
theorem dX8_beginIn_9 : decode cX8_beginIn 9 = .ok (.getfield 74, 3) := by decide +kernel
theorem dX8_beginIn_12 : decode cX8_beginIn 12 = .ok (.iload_n 1, 1) := by decide +kernel
theorem dX8_beginIn_13 : decode cX8_beginIn 13 = .ok (.aaload, 1) := by decide +kernel
theorem dX8_beginIn_14 : decode cX8_beginIn 14 = .ok (.iload_n 2, 1) := by decide +kernel
theorem dX8_beginIn_15 : decode cX8_beginIn 15 = .ok (.iaload, 1) := by decide +kernel
theorem dX8_beginIn_16 : decode cX8_beginIn 16 = .ok (.iconst 4, 1) := by decide +kernel
theorem dX8_beginIn_17 : decode cX8_beginIn 17 = .ok (.if_icmp .ne 8, 3) := by decide +kernel
theorem dX8_beginIn_20 : decode cX8_beginIn 20 = .ok (.bipush 21, 2) := by decide +kernel
theorem dX8_beginIn_22 : decode cX8_beginIn 22 = .ok (.goto 5, 3) := by decide +kernel
theorem dX8_beginIn_25 : decode cX8_beginIn 25 = .ok (.bipush 22, 2) := by decide +kernel
theorem dX8_beginIn_27 : decode cX8_beginIn 27 = .ok (.ireturn, 1) := by decide +kernel
theorem dX8_beginIn_28 : decode cX8_beginIn 28 = .ok (.aload_n 0, 1) := by decide +kernel
theorem dX8_beginIn_29 : decode cX8_beginIn 29 = .ok (.getfield 29, 3) := by decide +kernel
theorem dX8_beginIn_32 : decode cX8_beginIn 32 = .ok (.getfield 65, 3) := by decide +kernel
theorem dX8_beginIn_35 : decode cX8_beginIn 35 = .ok (.iload_n 3, 1) := by decide +kernel
theorem dX8_beginIn_36 : decode cX8_beginIn 36 = .ok (.aaload, 1) := by decide +kernel
theorem dX8_beginIn_37 : decode cX8_beginIn 37 = .ok (.getfield 78, 3) := by decide +kernel
theorem dX8_beginIn_40 : decode cX8_beginIn 40 = .ok (.aload_n 0, 1) := by decide +kernel
theorem dX8_beginIn_41 : decode cX8_beginIn 41 = .ok (.getfield 33, 3) := by decide +kernel
theorem dX8_beginIn_44 : decode cX8_beginIn 44 = .ok (.if_icmp .eq 22, 3) := by decide +kernel
theorem dX8_beginIn_47 : decode cX8_beginIn 47 = .ok (.aload_n 0, 1) := by decide +kernel
theorem dX8_beginIn_48 : decode cX8_beginIn 48 = .ok (.aload_n 0, 1) := by decide +kernel
theorem dX8_beginIn_49 : decode cX8_beginIn 49 = .ok (.getfield 29, 3) := by decide +kernel
theorem dX8_beginIn_52 : decode cX8_beginIn 52 = .ok (.getfield 65, 3) := by decide +kernel
theorem dX8_beginIn_55 : decode cX8_beginIn 55 = .ok (.iload_n 3, 1) := by decide +kernel
theorem dX8_beginIn_56 : decode cX8_beginIn 56 = .ok (.aaload, 1) := by decide +kernel
theorem dX8_beginIn_57 : decode cX8_beginIn 57 = .ok (.getfield 78, 3) := by decide +kernel
theorem dX8_beginIn_60 : decode cX8_beginIn 60 = .ok (.putfield 33, 3) := by decide +kernel
theorem dX8_beginIn_63 : decode cX8_beginIn 63 = .ok (.bipush 20, 2) := by decide +kernel
theorem dX8_beginIn_65 : decode cX8_beginIn 65 = .ok (.ireturn, 1) := by decide +kernel
theorem dX8_beginIn_66 : decode cX8_beginIn 66 = .ok (.aload_n 0, 1) := by decide +kernel
theorem dX8_beginIn_67 : decode cX8_beginIn 67 = .ok (.iload_n 3, 1) := by decide +kernel
theorem dX8_beginIn_68 : decode cX8_beginIn 68 = .ok (.putfield 37, 3) := by decide +kernel
theorem dX8_beginIn_71 : decode cX8_beginIn 71 = .ok (.aload_n 0, 1) := by decide +kernel
theorem dX8_beginIn_72 : decode cX8_beginIn 72 = .ok (.aload_n 0, 1) := by decide +kernel
theorem dX8_beginIn_73 : decode cX8_beginIn 73 = .ok (.iload_n 3, 1) := by decide +kernel
theorem dX8_beginIn_74 : decode cX8_beginIn 74 = .ok (.invokevirtual 81, 3) := by decide +kernel
theorem dX8_beginIn_77 : decode cX8_beginIn 77 = .ok (.getfield 85, 3) := by decide +kernel
theorem dX8_beginIn_80 : decode cX8_beginIn 80 = .ok (.putfield 90, 3) := by decide +kernel
theorem dX8_beginIn_83 : decode cX8_beginIn 83 = .ok (.aload_n 0, 1) := by decide +kernel
theorem dX8_beginIn_84 : decode cX8_beginIn 84 = .ok (.iload_n 2, 1) := by decide +kernel
theorem dX8_beginIn_85 : decode cX8_beginIn 85 = .ok (.invokevirtual 93, 3) := by decide +kernel
theorem dX8_beginIn_88 : decode cX8_beginIn 88 = .ok (.iload_n 3, 1) := by decide +kernel
theorem dX8_beginIn_89 : decode cX8_beginIn 89 = .ok (.ireturn, 1) := by decide +kernel
theorem dX8_goOnIn_0 : decode cX8_goOnIn 0 = .ok (.aload_n 0, 1) := by decide +kernel
theorem dX8_goOnIn_1 : decode cX8_goOnIn 1 = .ok (.getfield 37, 3) := by decide +kernel
theorem dX8_goOnIn_4 : decode cX8_goOnIn 4 = .ok (.istore_n 3, 1) := by decide +kernel
theorem dX8_goOnIn_5 : decode cX8_goOnIn 5 = .ok (.aload_n 0, 1) := by decide +kernel
theorem dX8_goOnIn_6 : decode cX8_goOnIn 6 = .ok (.getfield 25, 3) := by decide +kernel
theorem dX8_goOnIn_9 : decode cX8_goOnIn 9 = .ok (.iload_n 1, 1) := by decide +kernel
theorem dX8_goOnIn_10 : decode cX8_goOnIn 10 = .ok (.aload_n 0, 1) := by decide +kernel
theorem dX8_goOnIn_11 : decode cX8_goOnIn 11 = .ok (.iload_n 3, 1) := by decide +kernel
theorem dX8_goOnIn_12 : decode cX8_goOnIn 12 = .ok (.invokevirtual 96, 3) := by decide +kernel
theorem dX8_goOnIn_15 : decode cX8_goOnIn 15 = .ok (.aload_n 0, 1) := by decide +kernel
theorem dX8_goOnIn_16 : decode cX8_goOnIn 16 = .ok (.iload_n 3, 1) := by decide +kernel
theorem dX8_goOnIn_17 : decode cX8_goOnIn 17 = .ok (.invokevirtual 81, 3) := by decide +kernel
theorem dX8_goOnIn_20 : decode cX8_goOnIn 20 = .ok (.iload_n 2, 1) := by decide +kernel
theorem dX8_goOnIn_21 : decode cX8_goOnIn 21 = .ok (.invokevirtual 100, 3) := by decide +kernel
theorem dX8_goOnIn_24 : decode cX8_goOnIn 24 = .ok (.ifCond .eq 10, 3) := by decide +kernel
theorem dX8_goOnIn_27 : decode cX8_goOnIn 27 = .ok (.aload_n 0, 1) := by decide +kernel
theorem dX8_goOnIn_28 : decode cX8_goOnIn 28 = .ok (.iload_n 2, 1) := by decide +kernel
theorem dX8_goOnIn_29 : decode cX8_goOnIn 29 = .ok (.invokevirtual 93, 3) := by decide +kernel
theorem dX8_goOnIn_32 : decode cX8_goOnIn 32 = .ok (.iload_n 3, 1) := by decide +kernel
theorem dX8_goOnIn_33 : decode cX8_goOnIn 33 = .ok (.ireturn, 1) := by decide +kernel
theorem dX8_goOnIn_34 : decode cX8_goOnIn 34 = .ok (.aload_n 0, 1) := by decide +kernel
theorem dX8_goOnIn_35 : decode cX8_goOnIn 35 = .ok (.iconst (-1), 1) := by decide +kernel
theorem dX8_goOnIn_36 : decode cX8_goOnIn 36 = .ok (.putfield 37, 3) := by decide +kernel
theorem dX8_goOnIn_39 : decode cX8_goOnIn 39 = .ok (.aload_n 0, 1) := by decide +kernel
theorem dX8_goOnIn_40 : decode cX8_goOnIn 40 = .ok (.iload_n 3, 1) := by decide +kernel
theorem dX8_goOnIn_41 : decode cX8_goOnIn 41 = .ok (.invokevirtual 104, 3) := by decide +kernel
theorem dX8_goOnIn_44 : decode cX8_goOnIn 44 = .ok (.bipush 10, 2) := by decide +kernel
theorem dX8_goOnIn_46 : decode cX8_goOnIn 46 = .ok (.iload_n 3, 1) := by decide +kernel
theorem dX8_goOnIn_47 : decode cX8_goOnIn 47 = .ok (.iadd, 1) := by decide +kernel
theorem dX8_goOnIn_48 : decode cX8_goOnIn 48 = .ok (.ireturn, 1) := by decide +kernel
theorem dX8_exposeIn_0 : decode cX8_exposeIn 0 = .ok (.aload_n 0, 1) := by decide +kernel
theorem dX8_exposeIn_1 : decode cX8_exposeIn 1 = .ok (.dup, 1) := by decide +kernel
theorem dX8_exposeIn_2 : decode cX8_exposeIn 2 = .ok (.getfield 90, 3) := by decide +kernel
theorem dX8_exposeIn_5 : decode cX8_exposeIn 5 = .ok (.iconst 1, 1) := by decide +kernel
theorem dX8_exposeIn_6 : decode cX8_exposeIn 6 = .ok (.isub, 1) := by decide +kernel
theorem dX8_exposeIn_7 : decode cX8_exposeIn 7 = .ok (.putfield 90, 3) := by decide +kernel
theorem dX8_exposeIn_10 : decode cX8_exposeIn 10 = .ok (.aload_n 0, 1) := by decide +kernel
theorem dX8_exposeIn_11 : decode cX8_exposeIn 11 = .ok (.getfield 90, 3) := by decide +kernel
theorem dX8_exposeIn_14 : decode cX8_exposeIn 14 = .ok (.ifCond .le 4, 3) := by decide +kernel
theorem dX8_exposeIn_17 : decode cX8_exposeIn 17 = .ok (.return_, 1) := by decide +kernel
theorem dX8_exposeIn_18 : decode cX8_exposeIn 18 = .ok (.aload_n 0, 1) := by decide +kernel
theorem dX8_exposeIn_19 : decode cX8_exposeIn 19 = .ok (.getfield 15, 3) := by decide +kernel
theorem dX8_exposeIn_22 : decode cX8_exposeIn 22 = .ok (.aload_n 0, 1) := by decide +kernel
theorem dX8_exposeIn_23 : decode cX8_exposeIn 23 = .ok (.getfield 37, 3) := by decide +kernel
theorem dX8_exposeIn_26 : decode cX8_exposeIn 26 = .ok (.iaload, 1) := by decide +kernel
theorem dX8_exposeIn_27 : decode cX8_exposeIn 27 = .ok (.iconst 1, 1) := by decide +kernel
theorem dX8_exposeIn_28 : decode cX8_exposeIn 28 = .ok (.iadd, 1) := by decide +kernel
theorem dX8_exposeIn_29 : decode cX8_exposeIn 29 = .ok (.aload_n 0, 1) := by decide +kernel
theorem dX8_exposeIn_30 : decode cX8_exposeIn 30 = .ok (.getfield 29, 3) := by decide +kernel
theorem dX8_exposeIn_33 : decode cX8_exposeIn 33 = .ok (.getfield 65, 3) := by decide +kernel
theorem dX8_exposeIn_36 : decode cX8_exposeIn 36 = .ok (.aload_n 0, 1) := by decide +kernel
theorem dX8_exposeIn_37 : decode cX8_exposeIn 37 = .ok (.getfield 37, 3) := by decide +kernel
theorem dX8_exposeIn_40 : decode cX8_exposeIn 40 = .ok (.aaload, 1) := by decide +kernel
theorem dX8_exposeIn_41 : decode cX8_exposeIn 41 = .ok (.getfield 107, 3) := by decide +kernel
theorem dX8_exposeIn_44 : decode cX8_exposeIn 44 = .ok (.if_icmp .lt 7, 3) := by decide +kernel
theorem dX8_exposeIn_47 : decode cX8_exposeIn 47 = .ok (.iconst 1, 1) := by decide +kernel
theorem dX8_exposeIn_48 : decode cX8_exposeIn 48 = .ok (.goto 4, 3) := by decide +kernel
theorem dX8_exposeIn_51 : decode cX8_exposeIn 51 = .ok (.iconst 0, 1) := by decide +kernel
theorem dX8_exposeIn_52 : decode cX8_exposeIn 52 = .ok (.istore_n 2, 1) := by decide +kernel
theorem dX8_exposeIn_53 : decode cX8_exposeIn 53 = .ok (.aload_n 0, 1) := by decide +kernel
theorem dX8_exposeIn_54 : decode cX8_exposeIn 54 = .ok (.getfield 15, 3) := by decide +kernel
theorem dX8_exposeIn_57 : decode cX8_exposeIn 57 = .ok (.aload_n 0, 1) := by decide +kernel
theorem dX8_exposeIn_58 : decode cX8_exposeIn 58 = .ok (.getfield 37, 3) := by decide +kernel
theorem dX8_exposeIn_61 : decode cX8_exposeIn 61 = .ok (.iload_n 2, 1) := by decide +kernel
theorem dX8_exposeIn_62 : decode cX8_exposeIn 62 = .ok (.ifCond .eq 8, 3) := by decide +kernel
theorem dX8_exposeIn_65 : decode cX8_exposeIn 65 = .ok (.bipush 8, 2) := by decide +kernel
theorem dX8_exposeIn_67 : decode cX8_exposeIn 67 = .ok (.goto 14, 3) := by decide +kernel
theorem dX8_exposeIn_70 : decode cX8_exposeIn 70 = .ok (.aload_n 0, 1) := by decide +kernel
theorem dX8_exposeIn_71 : decode cX8_exposeIn 71 = .ok (.getfield 15, 3) := by decide +kernel
theorem dX8_exposeIn_74 : decode cX8_exposeIn 74 = .ok (.aload_n 0, 1) := by decide +kernel
theorem dX8_exposeIn_75 : decode cX8_exposeIn 75 = .ok (.getfield 37, 3) := by decide +kernel
theorem dX8_exposeIn_78 : decode cX8_exposeIn 78 = .ok (.iaload, 1) := by decide +kernel
theorem dX8_exposeIn_79 : decode cX8_exposeIn 79 = .ok (.iconst 1, 1) := by decide +kernel
theorem dX8_exposeIn_80 : decode cX8_exposeIn 80 = .ok (.iadd, 1) := by decide +kernel
theorem dX8_exposeIn_81 : decode cX8_exposeIn 81 = .ok (.iastore, 1) := by decide +kernel
theorem dX8_exposeIn_82 : decode cX8_exposeIn 82 = .ok (.aload_n 0, 1) := by decide +kernel
theorem dX8_exposeIn_83 : decode cX8_exposeIn 83 = .ok (.getfield 18, 3) := by decide +kernel
theorem dX8_exposeIn_86 : decode cX8_exposeIn 86 = .ok (.aload_n 0, 1) := by decide +kernel
theorem dX8_exposeIn_87 : decode cX8_exposeIn 87 = .ok (.getfield 37, 3) := by decide +kernel
theorem dX8_exposeIn_90 : decode cX8_exposeIn 90 = .ok (.iload_n 1, 1) := by decide +kernel
theorem dX8_exposeIn_91 : decode cX8_exposeIn 91 = .ok (.iconst 1, 1) := by decide +kernel
theorem dX8_exposeIn_92 : decode cX8_exposeIn 92 = .ok (.iadd, 1) := by decide +kernel
theorem dX8_exposeIn_93 : decode cX8_exposeIn 93 = .ok (.iastore, 1) := by decide +kernel
theorem dX8_exposeIn_94 : decode cX8_exposeIn 94 = .ok (.aload_n 0, 1) := by decide +kernel
theorem dX8_exposeIn_95 : decode cX8_exposeIn 95 = .ok (.iconst (-1), 1) := by decide +kernel
theorem dX8_exposeIn_96 : decode cX8_exposeIn 96 = .ok (.putfield 37, 3) := by decide +kernel
theorem dX8_exposeIn_99 : decode cX8_exposeIn 99 = .ok (.return_, 1) := by decide +kernel
theorem dX8_breakLateChains_0 : decode cX8_breakLateChains 0 = .ok (.iconst 0, 1) := by decide +kernel
theorem dX8_breakLateChains_1 : decode cX8_breakLateChains 1 = .ok (.istore_n 2, 1) := by decide +kernel
theorem dX8_breakLateChains_2 : decode cX8_breakLateChains 2 = .ok (.iload_n 2, 1) := by decide +kernel
theorem dX8_breakLateChains_3 : decode cX8_breakLateChains 3 = .ok (.aload_n 0, 1) := by decide +kernel
theorem dX8_breakLateChains_4 : decode cX8_breakLateChains 4 = .ok (.getfield 29, 3) := by decide +kernel
theorem dX8_breakLateChains_7 : decode cX8_breakLateChains 7 = .ok (.getfield 60, 3) := by decide +kernel
theorem dX8_breakLateChains_10 : decode cX8_breakLateChains 10 = .ok (.if_icmp .ge 50, 3) := by decide +kernel
theorem dX8_breakLateChains_13 : decode cX8_breakLateChains 13 = .ok (.aload_n 0, 1) := by decide +kernel
theorem dX8_breakLateChains_14 : decode cX8_breakLateChains 14 = .ok (.iload_n 2, 1) := by decide +kernel
theorem dX8_breakLateChains_15 : decode cX8_breakLateChains 15 = .ok (.invokevirtual 110, 3) := by decide +kernel
theorem dX8_breakLateChains_18 : decode cX8_breakLateChains 18 = .ok (.ifCond .eq 36, 3) := by decide +kernel
theorem dX8_breakLateChains_21 : decode cX8_breakLateChains 21 = .ok (.aload_n 0, 1) := by decide +kernel
theorem dX8_breakLateChains_22 : decode cX8_breakLateChains 22 = .ok (.getfield 15, 3) := by decide +kernel
theorem dX8_breakLateChains_25 : decode cX8_breakLateChains 25 = .ok (.iload_n 2, 1) := by decide +kernel
theorem dX8_breakLateChains_26 : decode cX8_breakLateChains 26 = .ok (.iaload, 1) := by decide +kernel
theorem dX8_breakLateChains_27 : decode cX8_breakLateChains 27 = .ok (.ifCond .le 27, 3) := by decide +kernel
theorem dX8_breakLateChains_30 : decode cX8_breakLateChains 30 = .ok (.iload_n 1, 1) := by decide +kernel
theorem dX8_breakLateChains_31 : decode cX8_breakLateChains 31 = .ok (.aload_n 0, 1) := by decide +kernel
theorem dX8_breakLateChains_32 : decode cX8_breakLateChains 32 = .ok (.getfield 18, 3) := by decide +kernel
theorem dX8_breakLateChains_35 : decode cX8_breakLateChains 35 = .ok (.iload_n 2, 1) := by decide +kernel
theorem dX8_breakLateChains_36 : decode cX8_breakLateChains 36 = .ok (.iaload, 1) := by decide +kernel
theorem dX8_breakLateChains_37 : decode cX8_breakLateChains 37 = .ok (.isub, 1) := by decide +kernel
theorem dX8_breakLateChains_38 : decode cX8_breakLateChains 38 = .ok (.aload_n 0, 1) := by decide +kernel
theorem dX8_breakLateChains_39 : decode cX8_breakLateChains 39 = .ok (.iload_n 2, 1) := by decide +kernel
theorem dX8_breakLateChains_40 : decode cX8_breakLateChains 40 = .ok (.invokevirtual 81, 3) := by decide +kernel
theorem dX8_breakLateChains_43 : decode cX8_breakLateChains 43 = .ok (.getfield 114, 3) := by decide +kernel
theorem dX8_breakLateChains_46 : decode cX8_breakLateChains 46 = .ok (.if_icmp .le 8, 3) := by decide +kernel
theorem dX8_breakLateChains_49 : decode cX8_breakLateChains 49 = .ok (.aload_n 0, 1) := by decide +kernel
theorem dX8_breakLateChains_50 : decode cX8_breakLateChains 50 = .ok (.iload_n 2, 1) := by decide +kernel
theorem dX8_breakLateChains_51 : decode cX8_breakLateChains 51 = .ok (.invokevirtual 104, 3) := by decide +kernel
theorem dX8_breakLateChains_54 : decode cX8_breakLateChains 54 = .ok (.iinc 2 1, 3) := by decide +kernel
theorem dX8_breakLateChains_57 : decode cX8_breakLateChains 57 = .ok (.goto (-55), 3) := by decide +kernel
theorem dX8_breakLateChains_60 : decode cX8_breakLateChains 60 = .ok (.return_, 1) := by decide +kernel
theorem dX8_breakChain_0 : decode cX8_breakChain 0 = .ok (.aload_n 0, 1) := by decide +kernel
theorem dX8_breakChain_1 : decode cX8_breakChain 1 = .ok (.getfield 15, 3) := by decide +kernel
theorem dX8_breakChain_4 : decode cX8_breakChain 4 = .ok (.iload_n 1, 1) := by decide +kernel
theorem dX8_breakChain_5 : decode cX8_breakChain 5 = .ok (.aload_n 0, 1) := by decide +kernel
theorem dX8_breakChain_6 : decode cX8_breakChain 6 = .ok (.getfield 117, 3) := by decide +kernel
theorem dX8_breakChain_9 : decode cX8_breakChain 9 = .ok (.iconst 1, 1) := by decide +kernel
theorem dX8_breakChain_10 : decode cX8_breakChain 10 = .ok (.if_icmp .ne 16, 3) := by decide +kernel
theorem dX8_breakChain_13 : decode cX8_breakChain 13 = .ok (.aload_n 0, 1) := by decide +kernel
theorem dX8_breakChain_14 : decode cX8_breakChain 14 = .ok (.getfield 21, 3) := by decide +kernel
theorem dX8_breakChain_17 : decode cX8_breakChain 17 = .ok (.iload_n 1, 1) := by decide +kernel
theorem dX8_breakChain_18 : decode cX8_breakChain 18 = .ok (.baload, 1) := by decide +kernel
theorem dX8_breakChain_19 : decode cX8_breakChain 19 = .ok (.ifCond .ne 7, 3) := by decide +kernel
theorem dX8_breakChain_22 : decode cX8_breakChain 22 = .ok (.iconst 0, 1) := by decide +kernel
theorem dX8_breakChain_23 : decode cX8_breakChain 23 = .ok (.goto 5, 3) := by decide +kernel
theorem dX8_breakChain_26 : decode cX8_breakChain 26 = .ok (.bipush 9, 2) := by decide +kernel
theorem dX8_breakChain_28 : decode cX8_breakChain 28 = .ok (.iastore, 1) := by decide +kernel
theorem dX8_breakChain_29 : decode cX8_breakChain 29 = .ok (.aload_n 0, 1) := by decide +kernel
theorem dX8_breakChain_30 : decode cX8_breakChain 30 = .ok (.getfield 21, 3) := by decide +kernel
theorem dX8_breakChain_33 : decode cX8_breakChain 33 = .ok (.iload_n 1, 1) := by decide +kernel
theorem dX8_breakChain_34 : decode cX8_breakChain 34 = .ok (.iconst 1, 1) := by decide +kernel
theorem dX8_breakChain_35 : decode cX8_breakChain 35 = .ok (.bastore, 1) := by decide +kernel
theorem dX8_breakChain_36 : decode cX8_breakChain 36 = .ok (.return_, 1) := by decide +kernel
theorem dX8_isWaiting_0 : decode cX8_isWaiting 0 = .ok (.aload_n 0, 1) := by decide +kernel
theorem dX8_isWaiting_1 : decode cX8_isWaiting 1 = .ok (.getfield 15, 3) := by decide +kernel
theorem dX8_isWaiting_4 : decode cX8_isWaiting 4 = .ok (.iload_n 1, 1) := by decide +kernel
theorem dX8_isWaiting_5 : decode cX8_isWaiting 5 = .ok (.iaload, 1) := by decide +kernel
theorem dX8_isWaiting_6 : decode cX8_isWaiting 6 = .ok (.aload_n 0, 1) := by decide +kernel
theorem dX8_isWaiting_7 : decode cX8_isWaiting 7 = .ok (.getfield 29, 3) := by decide +kernel
theorem dX8_isWaiting_10 : decode cX8_isWaiting 10 = .ok (.getfield 65, 3) := by decide +kernel
theorem dX8_isWaiting_13 : decode cX8_isWaiting 13 = .ok (.iload_n 1, 1) := by decide +kernel
theorem dX8_isWaiting_14 : decode cX8_isWaiting 14 = .ok (.aaload, 1) := by decide +kernel
theorem dX8_isWaiting_15 : decode cX8_isWaiting 15 = .ok (.getfield 107, 3) := by decide +kernel
theorem dX8_isWaiting_18 : decode cX8_isWaiting 18 = .ok (.if_icmp .ge 7, 3) := by decide +kernel
theorem dX8_isWaiting_21 : decode cX8_isWaiting 21 = .ok (.iconst 1, 1) := by decide +kernel
theorem dX8_isWaiting_22 : decode cX8_isWaiting 22 = .ok (.goto 4, 3) := by decide +kernel
theorem dX8_isWaiting_25 : decode cX8_isWaiting 25 = .ok (.iconst 0, 1) := by decide +kernel
theorem dX8_isWaiting_26 : decode cX8_isWaiting 26 = .ok (.ireturn, 1) := by decide +kernel
theorem dX8_stepOf_0 : decode cX8_stepOf 0 = .ok (.aload_n 0, 1) := by decide +kernel
theorem dX8_stepOf_1 : decode cX8_stepOf 1 = .ok (.getfield 29, 3) := by decide +kernel
theorem dX8_stepOf_4 : decode cX8_stepOf 4 = .ok (.getfield 65, 3) := by decide +kernel
theorem dX8_stepOf_7 : decode cX8_stepOf 7 = .ok (.iload_n 1, 1) := by decide +kernel
theorem dX8_stepOf_8 : decode cX8_stepOf 8 = .ok (.aaload, 1) := by decide +kernel
theorem dX8_stepOf_9 : decode cX8_stepOf 9 = .ok (.getfield 120, 3) := by decide +kernel
theorem dX8_stepOf_12 : decode cX8_stepOf 12 = .ok (.aload_n 0, 1) := by decide +kernel
theorem dX8_stepOf_13 : decode cX8_stepOf 13 = .ok (.getfield 15, 3) := by decide +kernel
theorem dX8_stepOf_16 : decode cX8_stepOf 16 = .ok (.iload_n 1, 1) := by decide +kernel
theorem dX8_stepOf_17 : decode cX8_stepOf 17 = .ok (.iaload, 1) := by decide +kernel
theorem dX8_stepOf_18 : decode cX8_stepOf 18 = .ok (.aaload, 1) := by decide +kernel
theorem dX8_stepOf_19 : decode cX8_stepOf 19 = .ok (.areturn, 1) := by decide +kernel
theorem dX8_targetOf_0 : decode cX8_targetOf 0 = .ok (.aload_n 0, 1) := by decide +kernel
theorem dX8_targetOf_1 : decode cX8_targetOf 1 = .ok (.getfield 25, 3) := by decide +kernel
theorem dX8_targetOf_4 : decode cX8_targetOf 4 = .ok (.getfield 124, 3) := by decide +kernel
theorem dX8_targetOf_7 : decode cX8_targetOf 7 = .ok (.aload_n 0, 1) := by decide +kernel
theorem dX8_targetOf_8 : decode cX8_targetOf 8 = .ok (.getfield 29, 3) := by decide +kernel
theorem dX8_targetOf_11 : decode cX8_targetOf 11 = .ok (.getfield 65, 3) := by decide +kernel
theorem dX8_targetOf_14 : decode cX8_targetOf 14 = .ok (.iload_n 1, 1) := by decide +kernel
theorem dX8_targetOf_15 : decode cX8_targetOf 15 = .ok (.aaload, 1) := by decide +kernel
theorem dX8_targetOf_16 : decode cX8_targetOf 16 = .ok (.getfield 128, 3) := by decide +kernel
theorem dX8_targetOf_19 : decode cX8_targetOf 19 = .ok (.aaload, 1) := by decide +kernel
theorem dX8_targetOf_20 : decode cX8_targetOf 20 = .ok (.areturn, 1) := by decide +kernel
theorem dX8_mayBegin_0 : decode cX8_mayBegin 0 = .ok (.aload_n 0, 1) := by decide +kernel
theorem dX8_mayBegin_1 : decode cX8_mayBegin 1 = .ok (.iload_n 1, 1) := by decide +kernel
theorem dX8_mayBegin_2 : decode cX8_mayBegin 2 = .ok (.invokevirtual 110, 3) := by decide +kernel
theorem dX8_mayBegin_5 : decode cX8_mayBegin 5 = .ok (.ifCond .ne 5, 3) := by decide +kernel
theorem dX8_mayBegin_8 : decode cX8_mayBegin 8 = .ok (.iconst 0, 1) := by decide +kernel
theorem dX8_mayBegin_9 : decode cX8_mayBegin 9 = .ok (.ireturn, 1) := by decide +kernel
theorem dX8_mayBegin_10 : decode cX8_mayBegin 10 = .ok (.aload_n 0, 1) := by decide +kernel
theorem dX8_mayBegin_11 : decode cX8_mayBegin 11 = .ok (.iload_n 1, 1) := by decide +kernel
theorem dX8_mayBegin_12 : decode cX8_mayBegin 12 = .ok (.invokevirtual 81, 3) := by decide +kernel
theorem dX8_mayBegin_15 : decode cX8_mayBegin 15 = .ok (.astore 4, 2) := by decide +kernel
theorem dX8_mayBegin_17 : decode cX8_mayBegin 17 = .ok (.aload_n 0, 1) := by decide +kernel
theorem dX8_mayBegin_18 : decode cX8_mayBegin 18 = .ok (.getfield 15, 3) := by decide +kernel
theorem dX8_mayBegin_21 : decode cX8_mayBegin 21 = .ok (.iload_n 1, 1) := by decide +kernel
theorem dX8_mayBegin_22 : decode cX8_mayBegin 22 = .ok (.iaload, 1) := by decide +kernel
theorem dX8_mayBegin_23 : decode cX8_mayBegin 23 = .ok (.ifCond .eq 19, 3) := by decide +kernel
theorem dX8_mayBegin_26 : decode cX8_mayBegin 26 = .ok (.iload_n 3, 1) := by decide +kernel
theorem dX8_mayBegin_27 : decode cX8_mayBegin 27 = .ok (.aload_n 0, 1) := by decide +kernel
theorem dX8_mayBegin_28 : decode cX8_mayBegin 28 = .ok (.getfield 18, 3) := by decide +kernel
theorem dX8_mayBegin_31 : decode cX8_mayBegin 31 = .ok (.iload_n 1, 1) := by decide +kernel
theorem dX8_mayBegin_32 : decode cX8_mayBegin 32 = .ok (.iaload, 1) := by decide +kernel
theorem dX8_mayBegin_33 : decode cX8_mayBegin 33 = .ok (.isub, 1) := by decide +kernel
theorem dX8_mayBegin_34 : decode cX8_mayBegin 34 = .ok (.aload 4, 2) := by decide +kernel
theorem dX8_mayBegin_36 : decode cX8_mayBegin 36 = .ok (.getfield 131, 3) := by decide +kernel
theorem dX8_mayBegin_39 : decode cX8_mayBegin 39 = .ok (.if_icmp .lt 7, 3) := by decide +kernel
theorem dX8_mayBegin_42 : decode cX8_mayBegin 42 = .ok (.iconst 1, 1) := by decide +kernel
theorem dX8_mayBegin_43 : decode cX8_mayBegin 43 = .ok (.goto 4, 3) := by decide +kernel
theorem dX8_mayBegin_46 : decode cX8_mayBegin 46 = .ok (.iconst 0, 1) := by decide +kernel
theorem dX8_mayBegin_47 : decode cX8_mayBegin 47 = .ok (.istore 5, 2) := by decide +kernel
theorem dX8_mayBegin_49 : decode cX8_mayBegin 49 = .ok (.iload 5, 2) := by decide +kernel
theorem dX8_mayBegin_51 : decode cX8_mayBegin 51 = .ok (.ifCond .eq 43, 3) := by decide +kernel
theorem dX8_mayBegin_54 : decode cX8_mayBegin 54 = .ok (.iload_n 3, 1) := by decide +kernel
theorem dX8_mayBegin_55 : decode cX8_mayBegin 55 = .ok (.aload 4, 2) := by decide +kernel
theorem dX8_mayBegin_57 : decode cX8_mayBegin 57 = .ok (.getfield 85, 3) := by decide +kernel
theorem dX8_mayBegin_60 : decode cX8_mayBegin 60 = .ok (.iadd, 1) := by decide +kernel
theorem dX8_mayBegin_61 : decode cX8_mayBegin 61 = .ok (.aload_n 0, 1) := by decide +kernel
theorem dX8_mayBegin_62 : decode cX8_mayBegin 62 = .ok (.getfield 25, 3) := by decide +kernel
theorem dX8_mayBegin_65 : decode cX8_mayBegin 65 = .ok (.getfield 40, 3) := by decide +kernel
theorem dX8_mayBegin_68 : decode cX8_mayBegin 68 = .ok (.if_icmp .gt 26, 3) := by decide +kernel
theorem dX8_mayBegin_71 : decode cX8_mayBegin 71 = .ok (.aload_n 0, 1) := by decide +kernel
theorem dX8_mayBegin_72 : decode cX8_mayBegin 72 = .ok (.getfield 25, 3) := by decide +kernel
theorem dX8_mayBegin_75 : decode cX8_mayBegin 75 = .ok (.iload_n 2, 1) := by decide +kernel
theorem dX8_mayBegin_76 : decode cX8_mayBegin 76 = .ok (.aload_n 0, 1) := by decide +kernel
theorem dX8_mayBegin_77 : decode cX8_mayBegin 77 = .ok (.iload_n 1, 1) := by decide +kernel
theorem dX8_mayBegin_78 : decode cX8_mayBegin 78 = .ok (.invokevirtual 96, 3) := by decide +kernel
theorem dX8_mayBegin_81 : decode cX8_mayBegin 81 = .ok (.aload 4, 2) := by decide +kernel
theorem dX8_mayBegin_83 : decode cX8_mayBegin 83 = .ok (.iload_n 3, 1) := by decide +kernel
theorem dX8_mayBegin_84 : decode cX8_mayBegin 84 = .ok (.invokevirtual 100, 3) := by decide +kernel
theorem dX8_mayBegin_87 : decode cX8_mayBegin 87 = .ok (.ifCond .eq 7, 3) := by decide +kernel
theorem dX8_mayBegin_90 : decode cX8_mayBegin 90 = .ok (.iconst 1, 1) := by decide +kernel
theorem dX8_mayBegin_91 : decode cX8_mayBegin 91 = .ok (.goto 4, 3) := by decide +kernel
theorem dX8_mayBegin_94 : decode cX8_mayBegin 94 = .ok (.iconst 0, 1) := by decide +kernel
theorem dX8_mayBegin_95 : decode cX8_mayBegin 95 = .ok (.ireturn, 1) := by decide +kernel
theorem dX8_choose_0 : decode cX8_choose 0 = .ok (.iconst (-1), 1) := by decide +kernel
theorem dX8_choose_1 : decode cX8_choose 1 = .ok (.istore 4, 2) := by decide +kernel
theorem dX8_choose_3 : decode cX8_choose 3 = .ok (.iconst 0, 1) := by decide +kernel
theorem dX8_choose_4 : decode cX8_choose 4 = .ok (.istore 5, 2) := by decide +kernel
theorem dX8_choose_6 : decode cX8_choose 6 = .ok (.iconst 0, 1) := by decide +kernel
theorem dX8_choose_7 : decode cX8_choose 7 = .ok (.istore 6, 2) := by decide +kernel
theorem dX8_choose_9 : decode cX8_choose 9 = .ok (.iload 6, 2) := by decide +kernel
theorem dX8_choose_11 : decode cX8_choose 11 = .ok (.aload_n 0, 1) := by decide +kernel
theorem dX8_choose_12 : decode cX8_choose 12 = .ok (.getfield 29, 3) := by decide +kernel
theorem dX8_choose_15 : decode cX8_choose 15 = .ok (.getfield 60, 3) := by decide +kernel
theorem dX8_choose_18 : decode cX8_choose 18 = .ok (.if_icmp .ge 51, 3) := by decide +kernel
theorem dX8_choose_21 : decode cX8_choose 21 = .ok (.aload_n 0, 1) := by decide +kernel
theorem dX8_choose_22 : decode cX8_choose 22 = .ok (.iload 6, 2) := by decide +kernel
theorem dX8_choose_24 : decode cX8_choose 24 = .ok (.iload_n 2, 1) := by decide +kernel
theorem dX8_choose_25 : decode cX8_choose 25 = .ok (.iload_n 3, 1) := by decide +kernel
theorem dX8_choose_26 : decode cX8_choose 26 = .ok (.invokevirtual 134, 3) := by decide +kernel
theorem dX8_choose_29 : decode cX8_choose 29 = .ok (.ifCond .eq 34, 3) := by decide +kernel
theorem dX8_choose_32 : decode cX8_choose 32 = .ok (.aload_n 0, 1) := by decide +kernel
theorem dX8_choose_33 : decode cX8_choose 33 = .ok (.iload 6, 2) := by decide +kernel
theorem dX8_choose_35 : decode cX8_choose 35 = .ok (.iload_n 1, 1) := by decide +kernel
theorem dX8_choose_36 : decode cX8_choose 36 = .ok (.iload_n 3, 1) := by decide +kernel
theorem dX8_choose_37 : decode cX8_choose 37 = .ok (.invokevirtual 138, 3) := by decide +kernel
theorem dX8_choose_40 : decode cX8_choose 40 = .ok (.istore 7, 2) := by decide +kernel
theorem dX8_choose_42 : decode cX8_choose 42 = .ok (.iload 4, 2) := by decide +kernel
theorem dX8_choose_44 : decode cX8_choose 44 = .ok (.iconst (-1), 1) := by decide +kernel
theorem dX8_choose_45 : decode cX8_choose 45 = .ok (.if_icmp .eq 10, 3) := by decide +kernel
theorem dX8_choose_48 : decode cX8_choose 48 = .ok (.iload 7, 2) := by decide +kernel
theorem dX8_choose_50 : decode cX8_choose 50 = .ok (.iload 5, 2) := by decide +kernel
theorem dX8_choose_52 : decode cX8_choose 52 = .ok (.if_icmp .ge 11, 3) := by decide +kernel
theorem dX8_choose_55 : decode cX8_choose 55 = .ok (.iload 6, 2) := by decide +kernel
theorem dX8_choose_57 : decode cX8_choose 57 = .ok (.istore 4, 2) := by decide +kernel
theorem dX8_choose_59 : decode cX8_choose 59 = .ok (.iload 7, 2) := by decide +kernel
theorem dX8_choose_61 : decode cX8_choose 61 = .ok (.istore 5, 2) := by decide +kernel
theorem dX8_choose_63 : decode cX8_choose 63 = .ok (.iinc 6 1, 3) := by decide +kernel
theorem dX8_choose_66 : decode cX8_choose 66 = .ok (.goto (-57), 3) := by decide +kernel
theorem dX8_choose_69 : decode cX8_choose 69 = .ok (.iload 4, 2) := by decide +kernel
theorem dX8_choose_71 : decode cX8_choose 71 = .ok (.ireturn, 1) := by decide +kernel
theorem dX8_rankOf_0 : decode cX8_rankOf 0 = .ok (.iload_n 2, 1) := by decide +kernel
theorem dX8_rankOf_1 : decode cX8_rankOf 1 = .ok (.lookupswitch 55 #[(0, 27), (1, 41)], 27) := by decide +kernel
theorem dX8_rankOf_28 : decode cX8_rankOf 28 = .ok (.aload_n 0, 1) := by decide +kernel
theorem dX8_rankOf_29 : decode cX8_rankOf 29 = .ok (.getfield 29, 3) := by decide +kernel
theorem dX8_rankOf_32 : decode cX8_rankOf 32 = .ok (.getfield 65, 3) := by decide +kernel
theorem dX8_rankOf_35 : decode cX8_rankOf 35 = .ok (.iload_n 1, 1) := by decide +kernel
theorem dX8_rankOf_36 : decode cX8_rankOf 36 = .ok (.aaload, 1) := by decide +kernel
theorem dX8_rankOf_37 : decode cX8_rankOf 37 = .ok (.getfield 69, 3) := by decide +kernel
theorem dX8_rankOf_40 : decode cX8_rankOf 40 = .ok (.ineg, 1) := by decide +kernel
theorem dX8_rankOf_41 : decode cX8_rankOf 41 = .ok (.ireturn, 1) := by decide +kernel
theorem dX8_rankOf_42 : decode cX8_rankOf 42 = .ok (.aload_n 0, 1) := by decide +kernel
theorem dX8_rankOf_43 : decode cX8_rankOf 43 = .ok (.getfield 25, 3) := by decide +kernel
theorem dX8_rankOf_46 : decode cX8_rankOf 46 = .ok (.aload_n 0, 1) := by decide +kernel
theorem dX8_rankOf_47 : decode cX8_rankOf 47 = .ok (.iload_n 1, 1) := by decide +kernel
theorem dX8_rankOf_48 : decode cX8_rankOf 48 = .ok (.invokevirtual 96, 3) := by decide +kernel
theorem dX8_rankOf_51 : decode cX8_rankOf 51 = .ok (.iload_n 3, 1) := by decide +kernel
theorem dX8_rankOf_52 : decode cX8_rankOf 52 = .ok (.invokevirtual 141, 3) := by decide +kernel
theorem dX8_rankOf_55 : decode cX8_rankOf 55 = .ok (.ireturn, 1) := by decide +kernel
theorem dX8_rankOf_56 : decode cX8_rankOf 56 = .ok (.aload_n 0, 1) := by decide +kernel
theorem dX8_rankOf_57 : decode cX8_rankOf 57 = .ok (.getfield 25, 3) := by decide +kernel
theorem dX8_rankOf_60 : decode cX8_rankOf 60 = .ok (.aload_n 0, 1) := by decide +kernel
theorem dX8_rankOf_61 : decode cX8_rankOf 61 = .ok (.iload_n 1, 1) := by decide +kernel
theorem dX8_rankOf_62 : decode cX8_rankOf 62 = .ok (.invokevirtual 96, 3) := by decide +kernel
theorem dX8_rankOf_65 : decode cX8_rankOf 65 = .ok (.invokevirtual 145, 3) := by decide +kernel
theorem dX8_rankOf_68 : decode cX8_rankOf 68 = .ok (.ireturn, 1) := by decide +kernel
theorem dX9_init_0 : decode cX9_init 0 = .ok (.aload_n 0, 1) := by decide +kernel
theorem dX9_init_1 : decode cX9_init 1 = .ok (.invokespecial 1, 3) := by decide +kernel
theorem dX9_init_4 : decode cX9_init 4 = .ok (.aload_n 0, 1) := by decide +kernel
theorem dX9_init_5 : decode cX9_init 5 = .ok (.new 7, 3) := by decide +kernel
theorem dX9_init_8 : decode cX9_init 8 = .ok (.dup, 1) := by decide +kernel
theorem dX9_init_9 : decode cX9_init 9 = .ok (.invokespecial 9, 3) := by decide +kernel
theorem dX9_init_12 : decode cX9_init 12 = .ok (.putfield 10, 3) := by decide +kernel
theorem dX9_init_15 : decode cX9_init 15 = .ok (.aload_n 0, 1) := by decide +kernel
theorem dX9_init_16 : decode cX9_init 16 = .ok (.new 16, 3) := by decide +kernel
theorem dX9_init_19 : decode cX9_init 19 = .ok (.dup, 1) := by decide +kernel
theorem dX9_init_20 : decode cX9_init 20 = .ok (.invokespecial 18, 3) := by decide +kernel
theorem dX9_init_23 : decode cX9_init 23 = .ok (.putfield 19, 3) := by decide +kernel
theorem dX9_init_26 : decode cX9_init 26 = .ok (.aload_n 0, 1) := by decide +kernel
theorem dX9_init_27 : decode cX9_init 27 = .ok (.new 23, 3) := by decide +kernel
theorem dX9_init_30 : decode cX9_init 30 = .ok (.dup, 1) := by decide +kernel
theorem dX9_init_31 : decode cX9_init 31 = .ok (.invokespecial 25, 3) := by decide +kernel
theorem dX9_init_34 : decode cX9_init 34 = .ok (.putfield 26, 3) := by decide +kernel
theorem dX9_init_37 : decode cX9_init 37 = .ok (.aload_n 0, 1) := by decide +kernel
theorem dX9_init_38 : decode cX9_init 38 = .ok (.new 30, 3) := by decide +kernel
theorem dX9_init_41 : decode cX9_init 41 = .ok (.dup, 1) := by decide +kernel
theorem dX9_init_42 : decode cX9_init 42 = .ok (.aload_n 0, 1) := by decide +kernel
theorem dX9_init_43 : decode cX9_init 43 = .ok (.getfield 10, 3) := by decide +kernel
theorem dX9_init_46 : decode cX9_init 46 = .ok (.aload_n 0, 1) := by decide +kernel
theorem dX9_init_47 : decode cX9_init 47 = .ok (.getfield 26, 3) := by decide +kernel
theorem dX9_init_50 : decode cX9_init 50 = .ok (.invokespecial 32, 3) := by decide +kernel
theorem dX9_init_53 : decode cX9_init 53 = .ok (.putfield 35, 3) := by decide +kernel
theorem dX9_init_56 : decode cX9_init 56 = .ok (.aload_n 0, 1) := by decide +kernel
theorem dX9_init_57 : decode cX9_init 57 = .ok (.new 39, 3) := by decide +kernel
theorem dX9_init_60 : decode cX9_init 60 = .ok (.dup, 1) := by decide +kernel
theorem dX9_init_61 : decode cX9_init 61 = .ok (.aload_n 0, 1) := by decide +kernel
theorem dX9_init_62 : decode cX9_init 62 = .ok (.getfield 10, 3) := by decide +kernel
theorem dX9_init_65 : decode cX9_init 65 = .ok (.aload_n 0, 1) := by decide +kernel
theorem dX9_init_66 : decode cX9_init 66 = .ok (.getfield 26, 3) := by decide +kernel
theorem dX9_init_69 : decode cX9_init 69 = .ok (.invokespecial 41, 3) := by decide +kernel
theorem dX9_init_72 : decode cX9_init 72 = .ok (.putfield 42, 3) := by decide +kernel
theorem dX9_init_75 : decode cX9_init 75 = .ok (.aload_n 0, 1) := by decide +kernel
theorem dX9_init_76 : decode cX9_init 76 = .ok (.new 46, 3) := by decide +kernel
theorem dX9_init_79 : decode cX9_init 79 = .ok (.dup, 1) := by decide +kernel
theorem dX9_init_80 : decode cX9_init 80 = .ok (.invokespecial 48, 3) := by decide +kernel
theorem dX9_init_83 : decode cX9_init 83 = .ok (.putfield 49, 3) := by decide +kernel
theorem dX9_init_86 : decode cX9_init 86 = .ok (.aload_n 0, 1) := by decide +kernel
theorem dX9_init_87 : decode cX9_init 87 = .ok (.new 53, 3) := by decide +kernel
theorem dX9_init_90 : decode cX9_init 90 = .ok (.dup, 1) := by decide +kernel
theorem dX9_init_91 : decode cX9_init 91 = .ok (.invokespecial 55, 3) := by decide +kernel
theorem dX9_init_94 : decode cX9_init 94 = .ok (.putfield 56, 3) := by decide +kernel
theorem dX9_init_97 : decode cX9_init 97 = .ok (.return_, 1) := by decide +kernel
theorem dX9_slots_0 : decode cX9_slots 0 = .ok (.iload_n 1, 1) := by decide +kernel
theorem dX9_slots_1 : decode cX9_slots 1 = .ok (.iconst 4, 1) := by decide +kernel
theorem dX9_slots_2 : decode cX9_slots 2 = .ok (.if_icmp .lt 9, 3) := by decide +kernel
theorem dX9_slots_5 : decode cX9_slots 5 = .ok (.iload_n 1, 1) := by decide +kernel
theorem dX9_slots_6 : decode cX9_slots 6 = .ok (.bipush 12, 2) := by decide +kernel
theorem dX9_slots_8 : decode cX9_slots 8 = .ok (.if_icmp .le 6, 3) := by decide +kernel
theorem dX9_slots_11 : decode cX9_slots 11 = .ok (.bipush (-3), 2) := by decide +kernel
theorem dX9_slots_13 : decode cX9_slots 13 = .ok (.ireturn, 1) := by decide +kernel
theorem dX9_slots_14 : decode cX9_slots 14 = .ok (.aload_n 0, 1) := by decide +kernel
theorem dX9_slots_15 : decode cX9_slots 15 = .ok (.getfield 10, 3) := by decide +kernel
theorem dX9_slots_18 : decode cX9_slots 18 = .ok (.getfield 60, 3) := by decide +kernel
theorem dX9_slots_21 : decode cX9_slots 21 = .ok (.istore_n 2, 1) := by decide +kernel
theorem dX9_slots_22 : decode cX9_slots 22 = .ok (.aload_n 0, 1) := by decide +kernel
theorem dX9_slots_23 : decode cX9_slots 23 = .ok (.getfield 10, 3) := by decide +kernel
theorem dX9_slots_26 : decode cX9_slots 26 = .ok (.iload_n 1, 1) := by decide +kernel
theorem dX9_slots_27 : decode cX9_slots 27 = .ok (.putfield 60, 3) := by decide +kernel
theorem dX9_slots_30 : decode cX9_slots 30 = .ok (.aload_n 0, 1) := by decide +kernel
theorem dX9_slots_31 : decode cX9_slots 31 = .ok (.getfield 10, 3) := by decide +kernel
theorem dX9_slots_34 : decode cX9_slots 34 = .ok (.invokevirtual 64, 3) := by decide +kernel
theorem dX9_slots_37 : decode cX9_slots 37 = .ok (.aload_n 0, 1) := by decide +kernel
theorem dX9_slots_38 : decode cX9_slots 38 = .ok (.getfield 10, 3) := by decide +kernel
theorem dX9_slots_41 : decode cX9_slots 41 = .ok (.iconst 0, 1) := by decide +kernel
theorem dX9_slots_42 : decode cX9_slots 42 = .ok (.putfield 67, 3) := by decide +kernel
theorem dX9_slots_45 : decode cX9_slots 45 = .ok (.aload_n 0, 1) := by decide +kernel
theorem dX9_slots_46 : decode cX9_slots 46 = .ok (.getfield 35, 3) := by decide +kernel
theorem dX9_slots_49 : decode cX9_slots 49 = .ok (.invokevirtual 70, 3) := by decide +kernel
theorem dX9_slots_52 : decode cX9_slots 52 = .ok (.iload_n 2, 1) := by decide +kernel
theorem dX9_slots_53 : decode cX9_slots 53 = .ok (.ireturn, 1) := by decide +kernel
theorem dX9_target_0 : decode cX9_target 0 = .ok (.iload_n 1, 1) := by decide +kernel
theorem dX9_target_1 : decode cX9_target 1 = .ok (.iconst 0, 1) := by decide +kernel
theorem dX9_target_2 : decode cX9_target 2 = .ok (.bipush 40, 2) := by decide +kernel
theorem dX9_target_4 : decode cX9_target 4 = .ok (.invokestatic 73, 3) := by decide +kernel
theorem dX9_target_7 : decode cX9_target 7 = .ok (.ifCond .eq 22, 3) := by decide +kernel
theorem dX9_target_10 : decode cX9_target 10 = .ok (.iload_n 2, 1) := by decide +kernel
theorem dX9_target_11 : decode cX9_target 11 = .ok (.iconst 0, 1) := by decide +kernel
theorem dX9_target_12 : decode cX9_target 12 = .ok (.bipush 8, 2) := by decide +kernel
theorem dX9_target_14 : decode cX9_target 14 = .ok (.invokestatic 73, 3) := by decide +kernel
theorem dX9_target_17 : decode cX9_target 17 = .ok (.ifCond .eq 12, 3) := by decide +kernel
theorem dX9_target_20 : decode cX9_target 20 = .ok (.iload_n 3, 1) := by decide +kernel
theorem dX9_target_21 : decode cX9_target 21 = .ok (.iconst 0, 1) := by decide +kernel
theorem dX9_target_22 : decode cX9_target 22 = .ok (.iconst 3, 1) := by decide +kernel
theorem dX9_target_23 : decode cX9_target 23 = .ok (.invokestatic 73, 3) := by decide +kernel
theorem dX9_target_26 : decode cX9_target 26 = .ok (.ifCond .ne 6, 3) := by decide +kernel
theorem dX9_target_29 : decode cX9_target 29 = .ok (.bipush (-3), 2) := by decide +kernel
theorem dX9_target_31 : decode cX9_target 31 = .ok (.ireturn, 1) := by decide +kernel
theorem dX9_target_32 : decode cX9_target 32 = .ok (.aload_n 0, 1) := by decide +kernel
theorem dX9_target_33 : decode cX9_target 33 = .ok (.getfield 10, 3) := by decide +kernel
theorem dX9_target_36 : decode cX9_target 36 = .ok (.getfield 77, 3) := by decide +kernel
theorem dX9_target_39 : decode cX9_target 39 = .ok (.bipush 8, 2) := by decide +kernel
theorem dX9_target_41 : decode cX9_target 41 = .ok (.if_icmp .lt 6, 3) := by decide +kernel
theorem dX9_target_44 : decode cX9_target 44 = .ok (.bipush (-5), 2) := by decide +kernel
theorem dX9_target_46 : decode cX9_target 46 = .ok (.ireturn, 1) := by decide +kernel
theorem dX9_target_47 : decode cX9_target 47 = .ok (.aload_n 0, 1) := by decide +kernel
theorem dX9_target_48 : decode cX9_target 48 = .ok (.getfield 10, 3) := by decide +kernel
theorem dX9_target_51 : decode cX9_target 51 = .ok (.iload_n 1, 1) := by decide +kernel
theorem dX9_target_52 : decode cX9_target 52 = .ok (.iload_n 2, 1) := by decide +kernel
theorem dX9_target_53 : decode cX9_target 53 = .ok (.iload_n 3, 1) := by decide +kernel
theorem dX9_target_54 : decode cX9_target 54 = .ok (.invokevirtual 80, 3) := by decide +kernel
theorem dX9_target_57 : decode cX9_target 57 = .ok (.ireturn, 1) := by decide +kernel
theorem dX9_air_0 : decode cX9_air 0 = .ok (.aload_n 0, 1) := by decide +kernel
theorem dX9_air_1 : decode cX9_air 1 = .ok (.getfield 10, 3) := by decide +kernel
theorem dX9_air_4 : decode cX9_air 4 = .ok (.iload_n 1, 1) := by decide +kernel
theorem dX9_air_5 : decode cX9_air 5 = .ok (.invokevirtual 84, 3) := by decide +kernel
theorem dX9_air_8 : decode cX9_air 8 = .ok (.ifCond .eq 14, 3) := by decide +kernel
theorem dX9_air_11 : decode cX9_air 11 = .ok (.aload_n 0, 1) := by decide +kernel
theorem dX9_air_12 : decode cX9_air 12 = .ok (.getfield 10, 3) := by decide +kernel
theorem dX9_air_15 : decode cX9_air 15 = .ok (.iload_n 2, 1) := by decide +kernel
theorem dX9_air_16 : decode cX9_air 16 = .ok (.invokevirtual 88, 3) := by decide +kernel
theorem dX9_air_19 : decode cX9_air 19 = .ok (.ifCond .ne 6, 3) := by decide +kernel
theorem dX9_air_22 : decode cX9_air 22 = .ok (.bipush (-2), 2) := by decide +kernel
theorem dX9_air_24 : decode cX9_air 24 = .ok (.ireturn, 1) := by decide +kernel
theorem dX9_air_25 : decode cX9_air 25 = .ok (.aload_n 0, 1) := by decide +kernel
theorem dX9_air_26 : decode cX9_air 26 = .ok (.getfield 10, 3) := by decide +kernel
theorem dX9_air_29 : decode cX9_air 29 = .ok (.getfield 91, 3) := by decide +kernel
theorem dX9_air_32 : decode cX9_air 32 = .ok (.iload_n 1, 1) := by decide +kernel
theorem dX9_air_33 : decode cX9_air 33 = .ok (.aaload, 1) := by decide +kernel
theorem dX9_air_34 : decode cX9_air 34 = .ok (.astore_n 3, 1) := by decide +kernel
theorem dX9_air_35 : decode cX9_air 35 = .ok (.aload_n 0, 1) := by decide +kernel
theorem dX9_air_36 : decode cX9_air 36 = .ok (.getfield 10, 3) := by decide +kernel
theorem dX9_air_39 : decode cX9_air 39 = .ok (.aload_n 3, 1) := by decide +kernel
theorem dX9_air_40 : decode cX9_air 40 = .ok (.iload_n 2, 1) := by decide +kernel
theorem dX9_air_41 : decode cX9_air 41 = .ok (.invokevirtual 95, 3) := by decide +kernel
theorem dX9_air_44 : decode cX9_air 44 = .ok (.ifCond .eq 15, 3) := by decide +kernel
theorem dX9_air_47 : decode cX9_air 47 = .ok (.aload_n 0, 1) := by decide +kernel
theorem dX9_air_48 : decode cX9_air 48 = .ok (.getfield 10, 3) := by decide +kernel
theorem dX9_air_51 : decode cX9_air 51 = .ok (.aload_n 3, 1) := by decide +kernel
theorem dX9_air_52 : decode cX9_air 52 = .ok (.iload_n 2, 1) := by decide +kernel
theorem dX9_air_53 : decode cX9_air 53 = .ok (.invokevirtual 99, 3) := by decide +kernel
theorem dX9_air_56 : decode cX9_air 56 = .ok (.goto 4, 3) := by decide +kernel
theorem dX9_air_59 : decode cX9_air 59 = .ok (.iconst (-1), 1) := by decide +kernel
theorem dX9_air_60 : decode cX9_air 60 = .ok (.ireturn, 1) := by decide +kernel
theorem dX9_moon_0 : decode cX9_moon 0 = .ok (.iload_n 1, 1) := by decide +kernel
theorem dX9_moon_1 : decode cX9_moon 1 = .ok (.iconst 0, 1) := by decide +kernel
theorem dX9_moon_2 : decode cX9_moon 2 = .ok (.iconst 3, 1) := by decide +kernel
theorem dX9_moon_3 : decode cX9_moon 3 = .ok (.invokestatic 73, 3) := by decide +kernel
theorem dX9_moon_6 : decode cX9_moon 6 = .ok (.ifCond .eq 30, 3) := by decide +kernel
theorem dX9_moon_9 : decode cX9_moon 9 = .ok (.aload_n 0, 1) := by decide +kernel
theorem dX9_moon_10 : decode cX9_moon 10 = .ok (.getfield 10, 3) := by decide +kernel
theorem dX9_moon_13 : decode cX9_moon 13 = .ok (.iload_n 2, 1) := by decide +kernel
theorem dX9_moon_14 : decode cX9_moon 14 = .ok (.invokevirtual 88, 3) := by decide +kernel
theorem dX9_moon_17 : decode cX9_moon 17 = .ok (.ifCond .eq 19, 3) := by decide +kernel
theorem dX9_moon_20 : decode cX9_moon 20 = .ok (.aload_n 0, 1) := by decide +kernel
theorem dX9_moon_21 : decode cX9_moon 21 = .ok (.getfield 10, 3) := by decide +kernel
theorem dX9_moon_24 : decode cX9_moon 24 = .ok (.iload_n 3, 1) := by decide +kernel
theorem dX9_moon_25 : decode cX9_moon 25 = .ok (.invokevirtual 88, 3) := by decide +kernel
theorem dX9_moon_28 : decode cX9_moon 28 = .ok (.ifCond .eq 8, 3) := by decide +kernel
theorem dX9_moon_31 : decode cX9_moon 31 = .ok (.iload_n 2, 1) := by decide +kernel
theorem dX9_moon_32 : decode cX9_moon 32 = .ok (.iload_n 3, 1) := by decide +kernel
theorem dX9_moon_33 : decode cX9_moon 33 = .ok (.if_icmp .le 6, 3) := by decide +kernel
theorem dX9_moon_36 : decode cX9_moon 36 = .ok (.bipush (-3), 2) := by decide +kernel
theorem dX9_moon_38 : decode cX9_moon 38 = .ok (.ireturn, 1) := by decide +kernel
theorem dX9_moon_39 : decode cX9_moon 39 = .ok (.aload_n 0, 1) := by decide +kernel
theorem dX9_moon_40 : decode cX9_moon 40 = .ok (.getfield 10, 3) := by decide +kernel
theorem dX9_moon_43 : decode cX9_moon 43 = .ok (.iload_n 1, 1) := by decide +kernel
theorem dX9_moon_44 : decode cX9_moon 44 = .ok (.putfield 103, 3) := by decide +kernel
theorem dX9_moon_47 : decode cX9_moon 47 = .ok (.aload_n 0, 1) := by decide +kernel
theorem dX9_moon_48 : decode cX9_moon 48 = .ok (.getfield 10, 3) := by decide +kernel
theorem dX9_moon_51 : decode cX9_moon 51 = .ok (.iload_n 2, 1) := by decide +kernel
theorem dX9_moon_52 : decode cX9_moon 52 = .ok (.putfield 106, 3) := by decide +kernel
theorem dX9_moon_55 : decode cX9_moon 55 = .ok (.aload_n 0, 1) := by decide +kernel
theorem dX9_moon_56 : decode cX9_moon 56 = .ok (.getfield 10, 3) := by decide +kernel
theorem dX9_moon_59 : decode cX9_moon 59 = .ok (.iload_n 3, 1) := by decide +kernel
theorem dX9_moon_60 : decode cX9_moon 60 = .ok (.putfield 109, 3) := by decide +kernel
theorem dX9_moon_63 : decode cX9_moon 63 = .ok (.aload_n 0, 1) := by decide +kernel
theorem dX9_moon_64 : decode cX9_moon 64 = .ok (.getfield 35, 3) := by decide +kernel
theorem dX9_moon_67 : decode cX9_moon 67 = .ok (.invokevirtual 70, 3) := by decide +kernel
theorem dX9_moon_70 : decode cX9_moon 70 = .ok (.iconst 1, 1) := by decide +kernel
theorem dX9_moon_71 : decode cX9_moon 71 = .ok (.ireturn, 1) := by decide +kernel
theorem dX9_seeing_0 : decode cX9_seeing 0 = .ok (.aload_n 0, 1) := by decide +kernel
theorem dX9_seeing_1 : decode cX9_seeing 1 = .ok (.getfield 10, 3) := by decide +kernel
theorem dX9_seeing_4 : decode cX9_seeing 4 = .ok (.iload_n 1, 1) := by decide +kernel
theorem dX9_seeing_5 : decode cX9_seeing 5 = .ok (.invokevirtual 112, 3) := by decide +kernel
theorem dX9_seeing_8 : decode cX9_seeing 8 = .ok (.ifCond .eq 14, 3) := by decide +kernel
theorem dX9_seeing_11 : decode cX9_seeing 11 = .ok (.aload_n 0, 1) := by decide +kernel
theorem dX9_seeing_12 : decode cX9_seeing 12 = .ok (.getfield 10, 3) := by decide +kernel
theorem dX9_seeing_15 : decode cX9_seeing 15 = .ok (.iload_n 2, 1) := by decide +kernel
theorem dX9_seeing_16 : decode cX9_seeing 16 = .ok (.invokevirtual 88, 3) := by decide +kernel
theorem dX9_seeing_19 : decode cX9_seeing 19 = .ok (.ifCond .ne 6, 3) := by decide +kernel
theorem dX9_seeing_22 : decode cX9_seeing 22 = .ok (.bipush (-2), 2) := by decide +kernel
theorem dX9_seeing_24 : decode cX9_seeing 24 = .ok (.ireturn, 1) := by decide +kernel
theorem dX9_seeing_25 : decode cX9_seeing 25 = .ok (.iload_n 3, 1) := by decide +kernel
theorem dX9_seeing_26 : decode cX9_seeing 26 = .ok (.iconst 0, 1) := by decide +kernel
theorem dX9_seeing_27 : decode cX9_seeing 27 = .ok (.iconst 4, 1) := by decide +kernel
theorem dX9_seeing_28 : decode cX9_seeing 28 = .ok (.invokestatic 73, 3) := by decide +kernel
theorem dX9_seeing_31 : decode cX9_seeing 31 = .ok (.ifCond .ne 6, 3) := by decide +kernel
theorem dX9_seeing_34 : decode cX9_seeing 34 = .ok (.bipush (-3), 2) := by decide +kernel
theorem dX9_seeing_36 : decode cX9_seeing 36 = .ok (.ireturn, 1) := by decide +kernel
theorem dX9_seeing_37 : decode cX9_seeing 37 = .ok (.aload_n 0, 1) := by decide +kernel
theorem dX9_seeing_38 : decode cX9_seeing 38 = .ok (.getfield 10, 3) := by decide +kernel
theorem dX9_seeing_41 : decode cX9_seeing 41 = .ok (.getfield 115, 3) := by decide +kernel
theorem dX9_seeing_44 : decode cX9_seeing 44 = .ok (.iload_n 1, 1) := by decide +kernel
theorem dX9_seeing_45 : decode cX9_seeing 45 = .ok (.aaload, 1) := by decide +kernel
theorem dX9_seeing_46 : decode cX9_seeing 46 = .ok (.iload_n 2, 1) := by decide +kernel
theorem dX9_seeing_47 : decode cX9_seeing 47 = .ok (.iaload, 1) := by decide +kernel
theorem dX9_seeing_48 : decode cX9_seeing 48 = .ok (.istore 4, 2) := by decide +kernel
theorem dX9_seeing_50 : decode cX9_seeing 50 = .ok (.aload_n 0, 1) := by decide +kernel
theorem dX9_seeing_51 : decode cX9_seeing 51 = .ok (.getfield 10, 3) := by decide +kernel
theorem dX9_seeing_54 : decode cX9_seeing 54 = .ok (.getfield 115, 3) := by decide +kernel
theorem dX9_seeing_57 : decode cX9_seeing 57 = .ok (.iload_n 1, 1) := by decide +kernel
theorem dX9_seeing_58 : decode cX9_seeing 58 = .ok (.aaload, 1) := by decide +kernel
theorem dX9_seeing_59 : decode cX9_seeing 59 = .ok (.iload_n 2, 1) := by decide +kernel
theorem dX9_seeing_60 : decode cX9_seeing 60 = .ok (.iload_n 3, 1) := by decide +kernel
theorem dX9_seeing_61 : decode cX9_seeing 61 = .ok (.iastore, 1) := by decide +kernel
theorem dX9_seeing_62 : decode cX9_seeing 62 = .ok (.aload_n 0, 1) := by decide +kernel
theorem dX9_seeing_63 : decode cX9_seeing 63 = .ok (.getfield 35, 3) := by decide +kernel
theorem dX9_seeing_66 : decode cX9_seeing 66 = .ok (.invokevirtual 70, 3) := by decide +kernel
theorem dX9_seeing_69 : decode cX9_seeing 69 = .ok (.iload 4, 2) := by decide +kernel
theorem dX9_seeing_71 : decode cX9_seeing 71 = .ok (.ireturn, 1) := by decide +kernel
theorem dX9_world_0 : decode cX9_world 0 = .ok (.iload_n 1, 1) := by decide +kernel
theorem dX9_world_1 : decode cX9_world 1 = .ok (.iconst 1, 1) := by decide +kernel
theorem dX9_world_2 : decode cX9_world 2 = .ok (.bipush 9, 2) := by decide +kernel
theorem dX9_world_4 : decode cX9_world 4 = .ok (.invokestatic 73, 3) := by decide +kernel
theorem dX9_world_7 : decode cX9_world 7 = .ok (.ifCond .ne 6, 3) := by decide +kernel
theorem dX9_world_10 : decode cX9_world 10 = .ok (.bipush (-3), 2) := by decide +kernel
theorem dX9_world_12 : decode cX9_world 12 = .ok (.ireturn, 1) := by decide +kernel
theorem dX9_world_13 : decode cX9_world 13 = .ok (.aload_n 0, 1) := by decide +kernel
theorem dX9_world_14 : decode cX9_world 14 = .ok (.getfield 10, 3) := by decide +kernel
theorem dX9_world_17 : decode cX9_world 17 = .ok (.getfield 67, 3) := by decide +kernel
theorem dX9_world_20 : decode cX9_world 20 = .ok (.iconst 4, 1) := by decide +kernel
theorem dX9_world_21 : decode cX9_world 21 = .ok (.if_icmp .lt 6, 3) := by decide +kernel
theorem dX9_world_24 : decode cX9_world 24 = .ok (.bipush (-5), 2) := by decide +kernel
theorem dX9_world_26 : decode cX9_world 26 = .ok (.ireturn, 1) := by decide +kernel
theorem dX9_world_27 : decode cX9_world 27 = .ok (.aload_n 0, 1) := by decide +kernel
theorem dX9_world_28 : decode cX9_world 28 = .ok (.getfield 10, 3) := by decide +kernel
theorem dX9_world_31 : decode cX9_world 31 = .ok (.iload_n 1, 1) := by decide +kernel
theorem dX9_world_32 : decode cX9_world 32 = .ok (.invokevirtual 119, 3) := by decide +kernel
theorem dX9_world_35 : decode cX9_world 35 = .ok (.ireturn, 1) := by decide +kernel
theorem dX9_unworld_0 : decode cX9_unworld 0 = .ok (.aload_n 0, 1) := by decide +kernel
theorem dX9_unworld_1 : decode cX9_unworld 1 = .ok (.getfield 10, 3) := by decide +kernel
theorem dX9_unworld_4 : decode cX9_unworld 4 = .ok (.getfield 67, 3) := by decide +kernel
theorem dX9_unworld_7 : decode cX9_unworld 7 = .ok (.istore_n 1, 1) := by decide +kernel
theorem dX9_unworld_8 : decode cX9_unworld 8 = .ok (.aload_n 0, 1) := by decide +kernel
theorem dX9_unworld_9 : decode cX9_unworld 9 = .ok (.getfield 10, 3) := by decide +kernel
theorem dX9_unworld_12 : decode cX9_unworld 12 = .ok (.iconst 0, 1) := by decide +kernel
theorem dX9_unworld_13 : decode cX9_unworld 13 = .ok (.putfield 67, 3) := by decide +kernel
theorem dX9_unworld_16 : decode cX9_unworld 16 = .ok (.iload_n 1, 1) := by decide +kernel
theorem dX9_unworld_17 : decode cX9_unworld 17 = .ok (.ireturn, 1) := by decide +kernel
theorem dX9_write_0 : decode cX9_write 0 = .ok (.iload_n 3, 1) := by decide +kernel
theorem dX9_write_1 : decode cX9_write 1 = .ok (.iconst 1, 1) := by decide +kernel
theorem dX9_write_2 : decode cX9_write 2 = .ok (.bipush 8, 2) := by decide +kernel
theorem dX9_write_4 : decode cX9_write 4 = .ok (.invokestatic 73, 3) := by decide +kernel
theorem dX9_write_7 : decode cX9_write 7 = .ok (.ifCond .ne 6, 3) := by decide +kernel
theorem dX9_write_10 : decode cX9_write 10 = .ok (.bipush (-3), 2) := by decide +kernel
theorem dX9_write_12 : decode cX9_write 12 = .ok (.ireturn, 1) := by decide +kernel
theorem dX9_write_13 : decode cX9_write 13 = .ok (.aload_n 0, 1) := by decide +kernel
theorem dX9_write_14 : decode cX9_write 14 = .ok (.getfield 19, 3) := by decide +kernel
theorem dX9_write_17 : decode cX9_write 17 = .ok (.getfield 123, 3) := by decide +kernel
theorem dX9_write_20 : decode cX9_write 20 = .ok (.iload_n 3, 1) := by decide +kernel
theorem dX9_write_21 : decode cX9_write 21 = .ok (.iadd, 1) := by decide +kernel
theorem dX9_write_22 : decode cX9_write 22 = .ok (.sipush 160, 3) := by decide +kernel
theorem dX9_write_25 : decode cX9_write 25 = .ok (.if_icmp .le 6, 3) := by decide +kernel
theorem dX9_write_28 : decode cX9_write 28 = .ok (.bipush (-5), 2) := by decide +kernel
theorem dX9_write_30 : decode cX9_write 30 = .ok (.ireturn, 1) := by decide +kernel
theorem dX9_write_31 : decode cX9_write 31 = .ok (.aload_n 0, 1) := by decide +kernel
theorem dX9_write_32 : decode cX9_write 32 = .ok (.getfield 19, 3) := by decide +kernel
theorem dX9_write_35 : decode cX9_write 35 = .ok (.lload_n 1, 1) := by decide +kernel
theorem dX9_write_36 : decode cX9_write 36 = .ok (.iload_n 3, 1) := by decide +kernel
theorem dX9_write_37 : decode cX9_write 37 = .ok (.invokevirtual 126, 3) := by decide +kernel
theorem dX9_write_40 : decode cX9_write 40 = .ok (.aload_n 0, 1) := by decide +kernel
theorem dX9_write_41 : decode cX9_write 41 = .ok (.getfield 19, 3) := by decide +kernel
theorem dX9_write_44 : decode cX9_write 44 = .ok (.getfield 123, 3) := by decide +kernel
theorem dX9_write_47 : decode cX9_write 47 = .ok (.ireturn, 1) := by decide +kernel
theorem dX9_erase_0 : decode cX9_erase 0 = .ok (.aload_n 0, 1) := by decide +kernel
theorem dX9_erase_1 : decode cX9_erase 1 = .ok (.getfield 19, 3) := by decide +kernel
theorem dX9_erase_4 : decode cX9_erase 4 = .ok (.getfield 123, 3) := by decide +kernel
theorem dX9_erase_7 : decode cX9_erase 7 = .ok (.istore_n 1, 1) := by decide +kernel
theorem dX9_erase_8 : decode cX9_erase 8 = .ok (.aload_n 0, 1) := by decide +kernel
theorem dX9_erase_9 : decode cX9_erase 9 = .ok (.getfield 19, 3) := by decide +kernel
theorem dX9_erase_12 : decode cX9_erase 12 = .ok (.iconst 0, 1) := by decide +kernel
theorem dX9_erase_13 : decode cX9_erase 13 = .ok (.putfield 123, 3) := by decide +kernel
theorem dX9_erase_16 : decode cX9_erase 16 = .ok (.iload_n 1, 1) := by decide +kernel
theorem dX9_erase_17 : decode cX9_erase 17 = .ok (.ireturn, 1) := by decide +kernel
theorem dX9_fault_0 : decode cX9_fault 0 = .ok (.aload_n 0, 1) := by decide +kernel
theorem dX9_fault_1 : decode cX9_fault 1 = .ok (.getfield 19, 3) := by decide +kernel
theorem dX9_fault_4 : decode cX9_fault 4 = .ok (.aload_n 0, 1) := by decide +kernel
theorem dX9_fault_5 : decode cX9_fault 5 = .ok (.getfield 10, 3) := by decide +kernel
theorem dX9_fault_8 : decode cX9_fault 8 = .ok (.getfield 77, 3) := by decide +kernel
theorem dX9_fault_11 : decode cX9_fault 11 = .ok (.invokevirtual 130, 3) := by decide +kernel
theorem dX9_fault_14 : decode cX9_fault 14 = .ok (.aload_n 0, 1) := by decide +kernel
theorem dX9_fault_15 : decode cX9_fault 15 = .ok (.getfield 19, 3) := by decide +kernel
theorem dX9_fault_18 : decode cX9_fault 18 = .ok (.getfield 134, 3) := by decide +kernel
theorem dX9_fault_21 : decode cX9_fault 21 = .ok (.ireturn, 1) := by decide +kernel
theorem dX9_stands_0 : decode cX9_stands 0 = .ok (.aload_n 0, 1) := by decide +kernel
theorem dX9_stands_1 : decode cX9_stands 1 = .ok (.getfield 19, 3) := by decide +kernel
theorem dX9_stands_4 : decode cX9_stands 4 = .ok (.aload_n 0, 1) := by decide +kernel
theorem dX9_stands_5 : decode cX9_stands 5 = .ok (.getfield 10, 3) := by decide +kernel
theorem dX9_stands_8 : decode cX9_stands 8 = .ok (.getfield 77, 3) := by decide +kernel
theorem dX9_stands_11 : decode cX9_stands 11 = .ok (.invokevirtual 130, 3) := by decide +kernel
theorem dX9_stands_14 : decode cX9_stands 14 = .ok (.aload_n 0, 1) := by decide +kernel
theorem dX9_stands_15 : decode cX9_stands 15 = .ok (.getfield 19, 3) := by decide +kernel
theorem dX9_stands_18 : decode cX9_stands 18 = .ok (.getfield 137, 3) := by decide +kernel
theorem dX9_stands_21 : decode cX9_stands 21 = .ok (.ireturn, 1) := by decide +kernel
theorem dX9_plan_0 : decode cX9_plan 0 = .ok (.aload_n 0, 1) := by decide +kernel
theorem dX9_plan_1 : decode cX9_plan 1 = .ok (.getfield 19, 3) := by decide +kernel
theorem dX9_plan_4 : decode cX9_plan 4 = .ok (.aload_n 0, 1) := by decide +kernel
theorem dX9_plan_5 : decode cX9_plan 5 = .ok (.getfield 10, 3) := by decide +kernel
theorem dX9_plan_8 : decode cX9_plan 8 = .ok (.getfield 77, 3) := by decide +kernel
theorem dX9_plan_11 : decode cX9_plan 11 = .ok (.invokevirtual 130, 3) := by decide +kernel
theorem dX9_plan_14 : decode cX9_plan 14 = .ok (.aload_n 0, 1) := by decide +kernel
theorem dX9_plan_15 : decode cX9_plan 15 = .ok (.getfield 19, 3) := by decide +kernel
theorem dX9_plan_18 : decode cX9_plan 18 = .ok (.getfield 134, 3) := by decide +kernel
theorem dX9_plan_21 : decode cX9_plan 21 = .ok (.iconst (-1), 1) := by decide +kernel
theorem dX9_plan_22 : decode cX9_plan 22 = .ok (.if_icmp .eq 6, 3) := by decide +kernel
theorem dX9_plan_25 : decode cX9_plan 25 = .ok (.bipush (-4), 2) := by decide +kernel
theorem dX9_plan_27 : decode cX9_plan 27 = .ok (.ireturn, 1) := by decide +kernel
theorem dX9_plan_28 : decode cX9_plan 28 = .ok (.aload_n 0, 1) := by decide +kernel
theorem dX9_plan_29 : decode cX9_plan 29 = .ok (.getfield 26, 3) := by decide +kernel
theorem dX9_plan_32 : decode cX9_plan 32 = .ok (.getfield 140, 3) := by decide +kernel
theorem dX9_plan_35 : decode cX9_plan 35 = .ok (.iconst 5, 1) := by decide +kernel
theorem dX9_plan_36 : decode cX9_plan 36 = .ok (.if_icmp .lt 6, 3) := by decide +kernel
theorem dX9_plan_39 : decode cX9_plan 39 = .ok (.bipush (-5), 2) := by decide +kernel
theorem dX9_plan_41 : decode cX9_plan 41 = .ok (.ireturn, 1) := by decide +kernel
theorem dX9_plan_42 : decode cX9_plan 42 = .ok (.aload_n 0, 1) := by decide +kernel
theorem dX9_plan_43 : decode cX9_plan 43 = .ok (.getfield 19, 3) := by decide +kernel
theorem dX9_plan_46 : decode cX9_plan 46 = .ok (.aload_n 0, 1) := by decide +kernel
theorem dX9_plan_47 : decode cX9_plan 47 = .ok (.getfield 26, 3) := by decide +kernel
theorem dX9_plan_50 : decode cX9_plan 50 = .ok (.aload_n 0, 1) := by decide +kernel
theorem dX9_plan_51 : decode cX9_plan 51 = .ok (.getfield 19, 3) := by decide +kernel
theorem dX9_plan_54 : decode cX9_plan 54 = .ok (.getfield 143, 3) := by decide +kernel
theorem dX9_plan_57 : decode cX9_plan 57 = .ok (.invokevirtual 147, 3) := by decide +kernel
theorem dX9_plan_60 : decode cX9_plan 60 = .ok (.putfield 143, 3) := by decide +kernel
theorem dX9_plan_63 : decode cX9_plan 63 = .ok (.aload_n 0, 1) := by decide +kernel
theorem dX9_plan_64 : decode cX9_plan 64 = .ok (.getfield 19, 3) := by decide +kernel
theorem dX9_plan_67 : decode cX9_plan 67 = .ok (.iconst 0, 1) := by decide +kernel
theorem dX9_plan_68 : decode cX9_plan 68 = .ok (.putfield 123, 3) := by decide +kernel
theorem dX9_plan_71 : decode cX9_plan 71 = .ok (.aload_n 0, 1) := by decide +kernel
theorem dX9_plan_72 : decode cX9_plan 72 = .ok (.getfield 35, 3) := by decide +kernel
theorem dX9_plan_75 : decode cX9_plan 75 = .ok (.invokevirtual 70, 3) := by decide +kernel
theorem dX9_plan_78 : decode cX9_plan 78 = .ok (.aload_n 0, 1) := by decide +kernel
theorem dX9_plan_79 : decode cX9_plan 79 = .ok (.getfield 26, 3) := by decide +kernel
theorem dX9_plan_82 : decode cX9_plan 82 = .ok (.getfield 140, 3) := by decide +kernel
theorem dX9_plan_85 : decode cX9_plan 85 = .ok (.iconst 1, 1) := by decide +kernel
theorem dX9_plan_86 : decode cX9_plan 86 = .ok (.isub, 1) := by decide +kernel
theorem dX9_plan_87 : decode cX9_plan 87 = .ok (.ireturn, 1) := by decide +kernel
theorem dX9_drop_0 : decode cX9_drop 0 = .ok (.aload_n 0, 1) := by decide +kernel
theorem dX9_drop_1 : decode cX9_drop 1 = .ok (.getfield 26, 3) := by decide +kernel
theorem dX9_drop_4 : decode cX9_drop 4 = .ok (.iload_n 1, 1) := by decide +kernel
theorem dX9_drop_5 : decode cX9_drop 5 = .ok (.invokevirtual 151, 3) := by decide +kernel
theorem dX9_drop_8 : decode cX9_drop 8 = .ok (.ifCond .ne 6, 3) := by decide +kernel
theorem dX9_drop_11 : decode cX9_drop 11 = .ok (.bipush (-2), 2) := by decide +kernel
theorem dX9_drop_13 : decode cX9_drop 13 = .ok (.ireturn, 1) := by decide +kernel
theorem dX9_drop_14 : decode cX9_drop 14 = .ok (.aload_n 0, 1) := by decide +kernel
theorem dX9_drop_15 : decode cX9_drop 15 = .ok (.getfield 26, 3) := by decide +kernel
theorem dX9_drop_18 : decode cX9_drop 18 = .ok (.iload_n 1, 1) := by decide +kernel
theorem dX9_drop_19 : decode cX9_drop 19 = .ok (.invokevirtual 154, 3) := by decide +kernel
theorem dX9_drop_22 : decode cX9_drop 22 = .ok (.aload_n 0, 1) := by decide +kernel
theorem dX9_drop_23 : decode cX9_drop 23 = .ok (.getfield 35, 3) := by decide +kernel
theorem dX9_drop_26 : decode cX9_drop 26 = .ok (.invokevirtual 70, 3) := by decide +kernel
theorem dX9_drop_29 : decode cX9_drop 29 = .ok (.iconst 1, 1) := by decide +kernel
theorem dX9_drop_30 : decode cX9_drop 30 = .ok (.ireturn, 1) := by decide +kernel
theorem dX9_told_0 : decode cX9_told 0 = .ok (.aload_n 0, 1) := by decide +kernel
theorem dX9_told_1 : decode cX9_told 1 = .ok (.getfield 26, 3) := by decide +kernel
theorem dX9_told_4 : decode cX9_told 4 = .ok (.iload_n 1, 1) := by decide +kernel
theorem dX9_told_5 : decode cX9_told 5 = .ok (.invokevirtual 151, 3) := by decide +kernel
theorem dX9_told_8 : decode cX9_told 8 = .ok (.ifCond .ne 6, 3) := by decide +kernel
theorem dX9_told_11 : decode cX9_told 11 = .ok (.bipush (-2), 2) := by decide +kernel
theorem dX9_told_13 : decode cX9_told 13 = .ok (.ireturn, 1) := by decide +kernel
theorem dX9_told_14 : decode cX9_told 14 = .ok (.aload_n 0, 1) := by decide +kernel
theorem dX9_told_15 : decode cX9_told 15 = .ok (.getfield 26, 3) := by decide +kernel
theorem dX9_told_18 : decode cX9_told 18 = .ok (.getfield 157, 3) := by decide +kernel
theorem dX9_told_21 : decode cX9_told 21 = .ok (.iload_n 1, 1) := by decide +kernel
theorem dX9_told_22 : decode cX9_told 22 = .ok (.aaload, 1) := by decide +kernel
theorem dX9_told_23 : decode cX9_told 23 = .ok (.astore_n 3, 1) := by decide +kernel
theorem dX9_told_24 : decode cX9_told 24 = .ok (.iload_n 2, 1) := by decide +kernel
theorem dX9_told_25 : decode cX9_told 25 = .ok (.iconst 0, 1) := by decide +kernel
theorem dX9_told_26 : decode cX9_told 26 = .ok (.iconst 4, 1) := by decide +kernel
theorem dX9_told_27 : decode cX9_told 27 = .ok (.invokestatic 73, 3) := by decide +kernel
theorem dX9_told_30 : decode cX9_told 30 = .ok (.ifCond .eq 9, 3) := by decide +kernel
theorem dX9_told_33 : decode cX9_told 33 = .ok (.aload_n 3, 1) := by decide +kernel
theorem dX9_told_34 : decode cX9_told 34 = .ok (.iload_n 2, 1) := by decide +kernel
theorem dX9_told_35 : decode cX9_told 35 = .ok (.invokevirtual 161, 3) := by decide +kernel
theorem dX9_told_38 : decode cX9_told 38 = .ok (.ireturn, 1) := by decide +kernel
theorem dX9_told_39 : decode cX9_told 39 = .ok (.iload_n 2, 1) := by decide +kernel
theorem dX9_told_40 : decode cX9_told 40 = .ok (.bipush 10, 2) := by decide +kernel
theorem dX9_told_42 : decode cX9_told 42 = .ok (.idiv, 1) := by decide +kernel
theorem dX9_told_43 : decode cX9_told 43 = .ok (.iconst 1, 1) := by decide +kernel
theorem dX9_told_44 : decode cX9_told 44 = .ok (.isub, 1) := by decide +kernel
theorem dX9_told_45 : decode cX9_told 45 = .ok (.istore 4, 2) := by decide +kernel
theorem dX9_told_47 : decode cX9_told 47 = .ok (.iload_n 2, 1) := by decide +kernel
theorem dX9_told_48 : decode cX9_told 48 = .ok (.bipush 10, 2) := by decide +kernel
theorem dX9_told_50 : decode cX9_told 50 = .ok (.irem, 1) := by decide +kernel
theorem dX9_told_51 : decode cX9_told 51 = .ok (.istore 5, 2) := by decide +kernel
theorem dX9_told_53 : decode cX9_told 53 = .ok (.iload_n 2, 1) := by decide +kernel
theorem dX9_told_54 : decode cX9_told 54 = .ok (.bipush 10, 2) := by decide +kernel
theorem dX9_told_56 : decode cX9_told 56 = .ok (.bipush 39, 2) := by decide +kernel
theorem dX9_told_58 : decode cX9_told 58 = .ok (.invokestatic 73, 3) := by decide +kernel
theorem dX9_told_61 : decode cX9_told 61 = .ok (.ifCond .eq 18, 3) := by decide +kernel
theorem dX9_told_64 : decode cX9_told 64 = .ok (.iload 5, 2) := by decide +kernel
theorem dX9_told_66 : decode cX9_told 66 = .ok (.iload 4, 2) := by decide +kernel
theorem dX9_told_68 : decode cX9_told 68 = .ok (.ifCond .ne 7, 3) := by decide +kernel
theorem dX9_told_71 : decode cX9_told 71 = .ok (.iconst 3, 1) := by decide +kernel
theorem dX9_told_72 : decode cX9_told 72 = .ok (.goto 4, 3) := by decide +kernel
theorem dX9_told_75 : decode cX9_told 75 = .ok (.iconst 5, 1) := by decide +kernel
theorem dX9_told_76 : decode cX9_told 76 = .ok (.if_icmp .le 6, 3) := by decide +kernel
theorem dX9_told_79 : decode cX9_told 79 = .ok (.bipush (-3), 2) := by decide +kernel
theorem dX9_told_81 : decode cX9_told 81 = .ok (.ireturn, 1) := by decide +kernel
theorem dX9_told_82 : decode cX9_told 82 = .ok (.iload 4, 2) := by decide +kernel
theorem dX9_told_84 : decode cX9_told 84 = .ok (.aload_n 3, 1) := by decide +kernel
theorem dX9_told_85 : decode cX9_told 85 = .ok (.getfield 166, 3) := by decide +kernel
theorem dX9_told_88 : decode cX9_told 88 = .ok (.if_icmp .ge 18, 3) := by decide +kernel
theorem dX9_told_91 : decode cX9_told 91 = .ok (.aload_n 3, 1) := by decide +kernel
theorem dX9_told_92 : decode cX9_told 92 = .ok (.getfield 169, 3) := by decide +kernel
theorem dX9_told_95 : decode cX9_told 95 = .ok (.iload 4, 2) := by decide +kernel
theorem dX9_told_97 : decode cX9_told 97 = .ok (.aaload, 1) := by decide +kernel
theorem dX9_told_98 : decode cX9_told 98 = .ok (.iload 5, 2) := by decide +kernel
theorem dX9_told_100 : decode cX9_told 100 = .ok (.invokevirtual 173, 3) := by decide +kernel
theorem dX9_told_103 : decode cX9_told 103 = .ok (.goto 4, 3) := by decide +kernel
theorem dX9_told_106 : decode cX9_told 106 = .ok (.iconst (-1), 1) := by decide +kernel
theorem dX9_told_107 : decode cX9_told 107 = .ok (.ireturn, 1) := by decide +kernel
theorem dX9_worth_0 : decode cX9_worth 0 = .ok (.aload_n 0, 1) := by decide +kernel
theorem dX9_worth_1 : decode cX9_worth 1 = .ok (.getfield 26, 3) := by decide +kernel
theorem dX9_worth_4 : decode cX9_worth 4 = .ok (.iload_n 1, 1) := by decide +kernel
theorem dX9_worth_5 : decode cX9_worth 5 = .ok (.invokevirtual 151, 3) := by decide +kernel
theorem dX9_worth_8 : decode cX9_worth 8 = .ok (.ifCond .ne 6, 3) := by decide +kernel
theorem dX9_worth_11 : decode cX9_worth 11 = .ok (.bipush (-2), 2) := by decide +kernel
theorem dX9_worth_13 : decode cX9_worth 13 = .ok (.ireturn, 1) := by decide +kernel
theorem dX9_worth_14 : decode cX9_worth 14 = .ok (.iload_n 2, 1) := by decide +kernel
theorem dX9_worth_15 : decode cX9_worth 15 = .ok (.iconst 1, 1) := by decide +kernel
theorem dX9_worth_16 : decode cX9_worth 16 = .ok (.bipush 99, 2) := by decide +kernel
theorem dX9_worth_18 : decode cX9_worth 18 = .ok (.invokestatic 73, 3) := by decide +kernel
theorem dX9_worth_21 : decode cX9_worth 21 = .ok (.ifCond .ne 6, 3) := by decide +kernel
theorem dX9_worth_24 : decode cX9_worth 24 = .ok (.bipush (-3), 2) := by decide +kernel
theorem dX9_worth_26 : decode cX9_worth 26 = .ok (.ireturn, 1) := by decide +kernel
theorem dX9_worth_27 : decode cX9_worth 27 = .ok (.aload_n 0, 1) := by decide +kernel
theorem dX9_worth_28 : decode cX9_worth 28 = .ok (.getfield 26, 3) := by decide +kernel
theorem dX9_worth_31 : decode cX9_worth 31 = .ok (.getfield 157, 3) := by decide +kernel
theorem dX9_worth_34 : decode cX9_worth 34 = .ok (.iload_n 1, 1) := by decide +kernel
theorem dX9_worth_35 : decode cX9_worth 35 = .ok (.aaload, 1) := by decide +kernel
theorem dX9_worth_36 : decode cX9_worth 36 = .ok (.getfield 176, 3) := by decide +kernel
theorem dX9_worth_39 : decode cX9_worth 39 = .ok (.istore_n 3, 1) := by decide +kernel
theorem dX9_worth_40 : decode cX9_worth 40 = .ok (.aload_n 0, 1) := by decide +kernel
theorem dX9_worth_41 : decode cX9_worth 41 = .ok (.getfield 26, 3) := by decide +kernel
theorem dX9_worth_44 : decode cX9_worth 44 = .ok (.getfield 157, 3) := by decide +kernel
theorem dX9_worth_47 : decode cX9_worth 47 = .ok (.iload_n 1, 1) := by decide +kernel
theorem dX9_worth_48 : decode cX9_worth 48 = .ok (.aaload, 1) := by decide +kernel
theorem dX9_worth_49 : decode cX9_worth 49 = .ok (.iload_n 2, 1) := by decide +kernel
theorem dX9_worth_50 : decode cX9_worth 50 = .ok (.putfield 176, 3) := by decide +kernel
theorem dX9_worth_53 : decode cX9_worth 53 = .ok (.aload_n 0, 1) := by decide +kernel
theorem dX9_worth_54 : decode cX9_worth 54 = .ok (.getfield 35, 3) := by decide +kernel
theorem dX9_worth_57 : decode cX9_worth 57 = .ok (.invokevirtual 70, 3) := by decide +kernel
theorem dX9_worth_60 : decode cX9_worth 60 = .ok (.iload_n 3, 1) := by decide +kernel
theorem dX9_worth_61 : decode cX9_worth 61 = .ok (.ireturn, 1) := by decide +kernel
theorem dX9_placements_0 : decode cX9_placements 0 = .ok (.aload_n 0, 1) := by decide +kernel
theorem dX9_placements_1 : decode cX9_placements 1 = .ok (.getfield 26, 3) := by decide +kernel
theorem dX9_placements_4 : decode cX9_placements 4 = .ok (.iload_n 1, 1) := by decide +kernel
theorem dX9_placements_5 : decode cX9_placements 5 = .ok (.invokevirtual 151, 3) := by decide +kernel
theorem dX9_placements_8 : decode cX9_placements 8 = .ok (.ifCond .ne 6, 3) := by decide +kernel
theorem dX9_placements_11 : decode cX9_placements 11 = .ok (.bipush (-2), 2) := by decide +kernel
theorem dX9_placements_13 : decode cX9_placements 13 = .ok (.ireturn, 1) := by decide +kernel
theorem dX9_placements_14 : decode cX9_placements 14 = .ok (.aload_n 0, 1) := by decide +kernel
theorem dX9_placements_15 : decode cX9_placements 15 = .ok (.getfield 35, 3) := by decide +kernel
theorem dX9_placements_18 : decode cX9_placements 18 = .ok (.invokevirtual 179, 3) := by decide +kernel
theorem dX9_placements_21 : decode cX9_placements 21 = .ok (.aload_n 0, 1) := by decide +kernel
theorem dX9_placements_22 : decode cX9_placements 22 = .ok (.getfield 35, 3) := by decide +kernel
theorem dX9_placements_25 : decode cX9_placements 25 = .ok (.getfield 182, 3) := by decide +kernel
theorem dX9_placements_28 : decode cX9_placements 28 = .ok (.iload_n 1, 1) := by decide +kernel
theorem dX9_placements_29 : decode cX9_placements 29 = .ok (.iaload, 1) := by decide +kernel
theorem dX9_placements_30 : decode cX9_placements 30 = .ok (.ireturn, 1) := by decide +kernel
theorem dX9_placement_0 : decode cX9_placement 0 = .ok (.aload_n 0, 1) := by decide +kernel
theorem dX9_placement_1 : decode cX9_placement 1 = .ok (.getfield 26, 3) := by decide +kernel
theorem dX9_placement_4 : decode cX9_placement 4 = .ok (.iload_n 1, 1) := by decide +kernel
theorem dX9_placement_5 : decode cX9_placement 5 = .ok (.invokevirtual 151, 3) := by decide +kernel
theorem dX9_placement_8 : decode cX9_placement 8 = .ok (.ifCond .ne 6, 3) := by decide +kernel
theorem dX9_placement_11 : decode cX9_placement 11 = .ok (.bipush (-2), 2) := by decide +kernel
theorem dX9_placement_13 : decode cX9_placement 13 = .ok (.ireturn, 1) := by decide +kernel
theorem dX9_placement_14 : decode cX9_placement 14 = .ok (.aload_n 0, 1) := by decide +kernel
theorem dX9_placement_15 : decode cX9_placement 15 = .ok (.getfield 35, 3) := by decide +kernel
theorem dX9_placement_18 : decode cX9_placement 18 = .ok (.invokevirtual 179, 3) := by decide +kernel
theorem dX9_placement_21 : decode cX9_placement 21 = .ok (.iload_n 2, 1) := by decide +kernel
theorem dX9_placement_22 : decode cX9_placement 22 = .ok (.iconst 0, 1) := by decide +kernel
theorem dX9_placement_23 : decode cX9_placement 23 = .ok (.aload_n 0, 1) := by decide +kernel
theorem dX9_placement_24 : decode cX9_placement 24 = .ok (.getfield 35, 3) := by decide +kernel
theorem dX9_placement_27 : decode cX9_placement 27 = .ok (.getfield 182, 3) := by decide +kernel
theorem dX9_placement_30 : decode cX9_placement 30 = .ok (.iload_n 1, 1) := by decide +kernel
theorem dX9_placement_31 : decode cX9_placement 31 = .ok (.iaload, 1) := by decide +kernel
theorem dX9_placement_32 : decode cX9_placement 32 = .ok (.iconst 1, 1) := by decide +kernel
theorem dX9_placement_33 : decode cX9_placement 33 = .ok (.isub, 1) := by decide +kernel
theorem dX9_placement_34 : decode cX9_placement 34 = .ok (.invokestatic 73, 3) := by decide +kernel
theorem dX9_placement_37 : decode cX9_placement 37 = .ok (.ifCond .eq 17, 3) := by decide +kernel
theorem dX9_placement_40 : decode cX9_placement 40 = .ok (.aload_n 0, 1) := by decide +kernel
theorem dX9_placement_41 : decode cX9_placement 41 = .ok (.getfield 35, 3) := by decide +kernel
theorem dX9_placement_44 : decode cX9_placement 44 = .ok (.getfield 186, 3) := by decide +kernel
theorem dX9_placement_47 : decode cX9_placement 47 = .ok (.iload_n 1, 1) := by decide +kernel
theorem dX9_placement_48 : decode cX9_placement 48 = .ok (.aaload, 1) := by decide +kernel
theorem dX9_placement_49 : decode cX9_placement 49 = .ok (.iload_n 2, 1) := by decide +kernel
theorem dX9_placement_50 : decode cX9_placement 50 = .ok (.iaload, 1) := by decide +kernel
theorem dX9_placement_51 : decode cX9_placement 51 = .ok (.goto 5, 3) := by decide +kernel
theorem dX9_placement_54 : decode cX9_placement 54 = .ok (.bipush (-3), 2) := by decide +kernel
theorem dX9_placement_56 : decode cX9_placement 56 = .ok (.ireturn, 1) := by decide +kernel
theorem dX9_best_0 : decode cX9_best 0 = .ok (.iload_n 1, 1) := by decide +kernel
theorem dX9_best_1 : decode cX9_best 1 = .ok (.iconst 0, 1) := by decide +kernel
theorem dX9_best_2 : decode cX9_best 2 = .ok (.iconst 1, 1) := by decide +kernel
theorem dX9_best_3 : decode cX9_best 3 = .ok (.invokestatic 73, 3) := by decide +kernel
theorem dX9_best_6 : decode cX9_best 6 = .ok (.ifCond .ne 6, 3) := by decide +kernel
theorem dX9_best_9 : decode cX9_best 9 = .ok (.bipush (-3), 2) := by decide +kernel
theorem dX9_best_11 : decode cX9_best 11 = .ok (.ireturn, 1) := by decide +kernel
theorem dX9_best_12 : decode cX9_best 12 = .ok (.aload_n 0, 1) := by decide +kernel
theorem dX9_best_13 : decode cX9_best 13 = .ok (.getfield 35, 3) := by decide +kernel
theorem dX9_best_16 : decode cX9_best 16 = .ok (.invokevirtual 179, 3) := by decide +kernel
theorem dX9_best_19 : decode cX9_best 19 = .ok (.iload_n 1, 1) := by decide +kernel
theorem dX9_best_20 : decode cX9_best 20 = .ok (.ifCond .ne 13, 3) := by decide +kernel
theorem dX9_best_23 : decode cX9_best 23 = .ok (.aload_n 0, 1) := by decide +kernel
theorem dX9_best_24 : decode cX9_best 24 = .ok (.getfield 35, 3) := by decide +kernel
theorem dX9_best_27 : decode cX9_best 27 = .ok (.invokevirtual 189, 3) := by decide +kernel
theorem dX9_best_30 : decode cX9_best 30 = .ok (.goto 10, 3) := by decide +kernel
theorem dX9_best_33 : decode cX9_best 33 = .ok (.aload_n 0, 1) := by decide +kernel
theorem dX9_best_34 : decode cX9_best 34 = .ok (.getfield 35, 3) := by decide +kernel
theorem dX9_best_37 : decode cX9_best 37 = .ok (.invokevirtual 193, 3) := by decide +kernel
theorem dX9_best_40 : decode cX9_best 40 = .ok (.ireturn, 1) := by decide +kernel
theorem dX9_placed_0 : decode cX9_placed 0 = .ok (.aload_n 0, 1) := by decide +kernel
theorem dX9_placed_1 : decode cX9_placed 1 = .ok (.getfield 26, 3) := by decide +kernel
theorem dX9_placed_4 : decode cX9_placed 4 = .ok (.iload_n 1, 1) := by decide +kernel
theorem dX9_placed_5 : decode cX9_placed 5 = .ok (.invokevirtual 151, 3) := by decide +kernel
theorem dX9_placed_8 : decode cX9_placed 8 = .ok (.ifCond .ne 6, 3) := by decide +kernel
theorem dX9_placed_11 : decode cX9_placed 11 = .ok (.bipush (-2), 2) := by decide +kernel
theorem dX9_placed_13 : decode cX9_placed 13 = .ok (.ireturn, 1) := by decide +kernel
theorem dX9_placed_14 : decode cX9_placed 14 = .ok (.aload_n 0, 1) := by decide +kernel
theorem dX9_placed_15 : decode cX9_placed 15 = .ok (.getfield 35, 3) := by decide +kernel
theorem dX9_placed_18 : decode cX9_placed 18 = .ok (.invokevirtual 179, 3) := by decide +kernel
theorem dX9_placed_21 : decode cX9_placed 21 = .ok (.aload_n 0, 1) := by decide +kernel
theorem dX9_placed_22 : decode cX9_placed 22 = .ok (.getfield 35, 3) := by decide +kernel
theorem dX9_placed_25 : decode cX9_placed 25 = .ok (.iload_n 1, 1) := by decide +kernel
theorem dX9_placed_26 : decode cX9_placed 26 = .ok (.invokevirtual 196, 3) := by decide +kernel
theorem dX9_placed_29 : decode cX9_placed 29 = .ok (.ireturn, 1) := by decide +kernel
theorem dX9_price_0 : decode cX9_price 0 = .ok (.aload_n 0, 1) := by decide +kernel
theorem dX9_price_1 : decode cX9_price 1 = .ok (.getfield 26, 3) := by decide +kernel
theorem dX9_price_4 : decode cX9_price 4 = .ok (.iload_n 1, 1) := by decide +kernel
theorem dX9_price_5 : decode cX9_price 5 = .ok (.invokevirtual 151, 3) := by decide +kernel
theorem dX9_price_8 : decode cX9_price 8 = .ok (.ifCond .ne 6, 3) := by decide +kernel
theorem dX9_price_11 : decode cX9_price 11 = .ok (.bipush (-2), 2) := by decide +kernel
theorem dX9_price_13 : decode cX9_price 13 = .ok (.ireturn, 1) := by decide +kernel
theorem dX9_price_14 : decode cX9_price 14 = .ok (.aload_n 0, 1) := by decide +kernel
theorem dX9_price_15 : decode cX9_price 15 = .ok (.getfield 35, 3) := by decide +kernel
theorem dX9_price_18 : decode cX9_price 18 = .ok (.invokevirtual 179, 3) := by decide +kernel
theorem dX9_price_21 : decode cX9_price 21 = .ok (.aload_n 0, 1) := by decide +kernel
theorem dX9_price_22 : decode cX9_price 22 = .ok (.getfield 35, 3) := by decide +kernel
theorem dX9_price_25 : decode cX9_price 25 = .ok (.iload_n 1, 1) := by decide +kernel
theorem dX9_price_26 : decode cX9_price 26 = .ok (.invokevirtual 199, 3) := by decide +kernel
theorem dX9_price_29 : decode cX9_price 29 = .ok (.ireturn, 1) := by decide +kernel
theorem dX9_empty_0 : decode cX9_empty 0 = .ok (.aload_n 0, 1) := by decide +kernel
theorem dX9_empty_1 : decode cX9_empty 1 = .ok (.getfield 10, 3) := by decide +kernel
theorem dX9_empty_4 : decode cX9_empty 4 = .ok (.iload_n 1, 1) := by decide +kernel
theorem dX9_empty_5 : decode cX9_empty 5 = .ok (.invokevirtual 88, 3) := by decide +kernel
theorem dX9_empty_8 : decode cX9_empty 8 = .ok (.ifCond .ne 6, 3) := by decide +kernel
theorem dX9_empty_11 : decode cX9_empty 11 = .ok (.bipush (-2), 2) := by decide +kernel
theorem dX9_empty_13 : decode cX9_empty 13 = .ok (.ireturn, 1) := by decide +kernel
theorem dX9_empty_14 : decode cX9_empty 14 = .ok (.aload_n 0, 1) := by decide +kernel
theorem dX9_empty_15 : decode cX9_empty 15 = .ok (.getfield 35, 3) := by decide +kernel
