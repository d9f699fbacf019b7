theorem k0_0 : CD 0 0 = o_ald 0 1 := rfl
theorem k0_1 : CD 0 1 = o_objinit 4 := rfl
theorem k0_4 : CD 0 4 = o_ald 0 5 := rfl
theorem k0_5 : CD 0 5 = o_push (vi 5) 6 := rfl
theorem k0_6 : CD 0 6 = o_push (vi 112) 8 := rfl
theorem k0_8 : CD 0 8 = o_mna 12 := rfl
theorem k0_12 : CD 0 12 = o_putR 0 0 15 := rfl
theorem k0_15 : CD 0 15 = o_ald 0 16 := rfl
theorem k0_16 : CD 0 16 = o_push (vi 5) 17 := rfl
theorem k0_17 : CD 0 17 = o_newa 20 19 := rfl
theorem k0_19 : CD 0 19 = o_putR 0 1 22 := rfl
theorem k0_22 : CD 0 22 = o_ald 0 23 := rfl
theorem k0_23 : CD 0 23 = o_push (vi 3) 24 := rfl
theorem k0_24 : CD 0 24 = o_newa 20 26 := rfl
theorem k0_26 : CD 0 26 = o_putR 0 6 29 := rfl
theorem k0_29 : CD 0 29 = o_ald 0 30 := rfl
theorem k0_30 : CD 0 30 = o_push (vi 5) 31 := rfl
theorem k0_31 : CD 0 31 = o_newa 20 33 := rfl
theorem k0_33 : CD 0 33 = o_putR 0 7 36 := rfl
theorem k0_36 : CD 0 36 = o_ald 0 37 := rfl
theorem k0_37 : CD 0 37 = o_push (vi 5) 38 := rfl
theorem k0_38 : CD 0 38 = o_newa 20 40 := rfl
theorem k0_40 : CD 0 40 = o_putR 0 8 43 := rfl
theorem k0_43 : CD 0 43 = o_ald 0 44 := rfl
theorem k0_44 : CD 0 44 = o_push (vi 32) 46 := rfl
theorem k0_46 : CD 0 46 = o_newa 21 48 := rfl
theorem k0_48 : CD 0 48 = o_putR 0 9 51 := rfl
theorem k0_51 : CD 0 51 = o_ald 0 52 := rfl
theorem k0_52 : CD 0 52 = o_push (vi 32) 54 := rfl
theorem k0_54 : CD 0 54 = o_push (vi 5) 55 := rfl
theorem k0_55 : CD 0 55 = o_mna 59 := rfl
theorem k0_59 : CD 0 59 = o_putR 0 10 62 := rfl
theorem k0_62 : CD 0 62 = o_ald 0 63 := rfl
theorem k0_63 : CD 0 63 = o_push (vi 32) 65 := rfl
theorem k0_65 : CD 0 65 = o_newa 20 67 := rfl
theorem k0_67 : CD 0 67 = o_putR 0 11 70 := rfl
theorem k0_70 : CD 0 70 = o_ald 0 71 := rfl
theorem k0_71 : CD 0 71 = o_push (vi 32) 73 := rfl
theorem k0_73 : CD 0 73 = o_newa 20 75 := rfl
theorem k0_75 : CD 0 75 = o_putR 0 12 78 := rfl
theorem k0_78 : CD 0 78 = o_ald 0 79 := rfl
theorem k0_79 : CD 0 79 = o_push (vi 32) 81 := rfl
theorem k0_81 : CD 0 81 = o_newa 22 83 := rfl
theorem k0_83 : CD 0 83 = o_putR 0 13 86 := rfl
theorem k0_86 : CD 0 86 = o_ald 0 87 := rfl
theorem k0_87 : CD 0 87 = o_push (vi 1024) 90 := rfl
theorem k0_90 : CD 0 90 = o_newa 22 92 := rfl
theorem k0_92 : CD 0 92 = o_putR 0 14 95 := rfl
theorem k0_95 : CD 0 95 = o_ald 0 96 := rfl
theorem k0_96 : CD 0 96 = o_ald 1 97 := rfl
theorem k0_97 : CD 0 97 = o_putR 0 4 100 := rfl
theorem k0_100 : CD 0 100 = o_ald 0 101 := rfl
theorem k0_101 : CD 0 101 = o_ald 2 102 := rfl
theorem k0_102 : CD 0 102 = o_putR 0 5 105 := rfl
theorem k0_105 : CD 0 105 = o_vret := rfl
theorem k1_0 : CD 1 0 = o_ald 0 1 := rfl
theorem k1_1 : CD 1 1 = o_push (vi 0) 2 := rfl
theorem k1_2 : CD 1 2 = o_putZ 0 17 5 := rfl
theorem k1_5 : CD 1 5 = o_vret := rfl
theorem k2_0 : CD 2 0 = o_ald 0 1 := rfl
theorem k2_1 : CD 2 1 = o_getI 0 17 4 := rfl
theorem k2_4 : CD 2 4 = o_ifeq 8 7 := rfl
theorem k2_7 : CD 2 7 = o_vret := rfl
theorem k2_8 : CD 2 8 = o_ald 0 9 := rfl
theorem k2_9 : CD 2 9 = o_dupr 10 := rfl
theorem k2_10 : CD 2 10 = o_getI 0 15 13 := rfl
theorem k2_13 : CD 2 13 = o_push (vi 1) 14 := rfl
theorem k2_14 : CD 2 14 = o_iadd 15 := rfl
theorem k2_15 : CD 2 15 = o_putI 0 15 18 := rfl
theorem k2_18 : CD 2 18 = o_push (vi 0) 19 := rfl
theorem k2_19 : CD 2 19 = o_ist 1 20 := rfl
theorem k2_20 : CD 2 20 = o_ild 1 21 := rfl
theorem k2_21 : CD 2 21 = o_ald 0 22 := rfl
theorem k2_22 : CD 2 22 = o_getR 0 5 25 := rfl
theorem k2_25 : CD 2 25 = o_getI 1 1 28 := rfl
theorem k2_28 : CD 2 28 = o_icge 42 31 := rfl
theorem k2_31 : CD 2 31 = o_ald 0 32 := rfl
theorem k2_32 : CD 2 32 = o_ild 1 33 := rfl
theorem k2_33 : CD 2 33 = o_inv 0 12 1 36 := rfl
theorem k2_36 : CD 2 36 = o_iinc 1 1 39 := rfl
theorem k2_39 : CD 2 39 = o_goto 20 := rfl
theorem k2_42 : CD 2 42 = o_push (vi 0) 43 := rfl
theorem k2_43 : CD 2 43 = o_ist 1 44 := rfl
theorem k2_44 : CD 2 44 = o_ild 1 45 := rfl
theorem k2_45 : CD 2 45 = o_push (vi 1) 46 := rfl
theorem k2_46 : CD 2 46 = o_ald 0 47 := rfl
theorem k2_47 : CD 2 47 = o_getR 0 5 50 := rfl
theorem k2_50 : CD 2 50 = o_getI 1 1 53 := rfl
theorem k2_53 : CD 2 53 = o_ishl 54 := rfl
theorem k2_54 : CD 2 54 = o_icge 144 57 := rfl
theorem k2_57 : CD 2 57 = o_ald 0 58 := rfl
theorem k2_58 : CD 2 58 = o_ild 1 59 := rfl
theorem k2_59 : CD 2 59 = o_inv 0 15 1 62 := rfl
theorem k2_62 : CD 2 62 = o_ald 0 63 := rfl
theorem k2_63 : CD 2 63 = o_getR 0 9 66 := rfl
theorem k2_66 : CD 2 66 = o_ild 1 67 := rfl
theorem k2_67 : CD 2 67 = o_ald 0 68 := rfl
theorem k2_68 : CD 2 68 = o_ild 1 69 := rfl
theorem k2_69 : CD 2 69 = o_inv 0 16 1 72 := rfl
theorem k2_72 : CD 2 72 = o_ifeq 105 75 := rfl
theorem k2_75 : CD 2 75 = o_ald 0 76 := rfl
theorem k2_76 : CD 2 76 = o_getR 0 12 79 := rfl
theorem k2_79 : CD 2 79 = o_ild 1 80 := rfl
theorem k2_80 : CD 2 80 = o_iald 81 := rfl
theorem k2_81 : CD 2 81 = o_ald 0 82 := rfl
theorem k2_82 : CD 2 82 = o_getR 0 4 85 := rfl
theorem k2_85 : CD 2 85 = o_getI 4 0 88 := rfl
theorem k2_88 : CD 2 88 = o_icgt 105 91 := rfl
theorem k2_91 : CD 2 91 = o_ald 0 92 := rfl
theorem k2_92 : CD 2 92 = o_ild 1 93 := rfl
theorem k2_93 : CD 2 93 = o_push (vi 0) 94 := rfl
theorem k2_94 : CD 2 94 = o_push (vl (0 : Nat)) 95 := rfl
theorem k2_95 : CD 2 95 = o_inv 0 17 3 98 := rfl
theorem k2_98 : CD 2 98 = o_ifeq 105 101 := rfl
theorem k2_101 : CD 2 101 = o_push (vi 1) 102 := rfl
theorem k2_102 : CD 2 102 = o_goto 106 := rfl
theorem k2_105 : CD 2 105 = o_push (vi 0) 106 := rfl
theorem k2_106 : CD 2 106 = o_bast 107 := rfl
theorem k2_107 : CD 2 107 = o_ald 0 108 := rfl
theorem k2_108 : CD 2 108 = o_getR 0 9 111 := rfl
theorem k2_111 : CD 2 111 = o_ild 1 112 := rfl
theorem k2_112 : CD 2 112 = o_bald 113 := rfl
theorem k2_113 : CD 2 113 = o_ifeq 138 116 := rfl
theorem k2_116 : CD 2 116 = o_ald 0 117 := rfl
theorem k2_117 : CD 2 117 = o_getR 0 8 120 := rfl
theorem k2_120 : CD 2 120 = o_push (vi 0) 121 := rfl
theorem k2_121 : CD 2 121 = o_ald 0 122 := rfl
theorem k2_122 : CD 2 122 = o_getR 0 10 125 := rfl
theorem k2_125 : CD 2 125 = o_ild 1 126 := rfl
theorem k2_126 : CD 2 126 = o_aald 26 127 := rfl
theorem k2_127 : CD 2 127 = o_push (vi 0) 128 := rfl
theorem k2_128 : CD 2 128 = o_ald 0 129 := rfl
theorem k2_129 : CD 2 129 = o_getR 0 5 132 := rfl
theorem k2_132 : CD 2 132 = o_getI 1 1 135 := rfl
theorem k2_135 : CD 2 135 = o_copy 138 := rfl
theorem k2_138 : CD 2 138 = o_iinc 1 1 141 := rfl
theorem k2_141 : CD 2 141 = o_goto 44 := rfl
theorem k2_144 : CD 2 144 = o_ald 0 145 := rfl
theorem k2_145 : CD 2 145 = o_ald 0 146 := rfl
theorem k2_146 : CD 2 146 = o_push (vi (-1)) 147 := rfl
theorem k2_147 : CD 2 147 = o_push (vi 0) 148 := rfl
theorem k2_148 : CD 2 148 = o_inv 0 25 2 151 := rfl
theorem k2_151 : CD 2 151 = o_putI 0 16 154 := rfl
theorem k2_154 : CD 2 154 = o_ald 0 155 := rfl
theorem k2_155 : CD 2 155 = o_push (vi 1) 156 := rfl
theorem k2_156 : CD 2 156 = o_putZ 0 17 159 := rfl
theorem k2_159 : CD 2 159 = o_vret := rfl
theorem k3_0 : CD 3 0 = o_ald 0 1 := rfl
theorem k3_1 : CD 3 1 = o_getR 0 11 4 := rfl
theorem k3_4 : CD 3 4 = o_ald 0 5 := rfl
theorem k3_5 : CD 3 5 = o_getI 0 16 8 := rfl
theorem k3_8 : CD 3 8 = o_iald 9 := rfl
theorem k3_9 : CD 3 9 = o_iret := rfl
theorem k4_0 : CD 4 0 = o_push (vi 0) 1 := rfl
theorem k4_1 : CD 4 1 = o_ist 1 2 := rfl
theorem k4_2 : CD 4 2 = o_push (vi 0) 3 := rfl
theorem k4_3 : CD 4 3 = o_ist 2 4 := rfl
theorem k4_4 : CD 4 4 = o_ild 2 5 := rfl
theorem k4_5 : CD 4 5 = o_ald 0 6 := rfl
theorem k4_6 : CD 4 6 = o_getR 0 5 9 := rfl
theorem k4_9 : CD 4 9 = o_getI 1 1 12 := rfl
theorem k4_12 : CD 4 12 = o_icge 40 15 := rfl
theorem k4_15 : CD 4 15 = o_ald 0 16 := rfl
theorem k4_16 : CD 4 16 = o_getI 0 16 19 := rfl
theorem k4_19 : CD 4 19 = o_ild 2 20 := rfl
theorem k4_20 : CD 4 20 = o_sta 128 2 23 := rfl
theorem k4_23 : CD 4 23 = o_ifeq 34 26 := rfl
theorem k4_26 : CD 4 26 = o_ild 1 27 := rfl
theorem k4_27 : CD 4 27 = o_ald 0 28 := rfl
theorem k4_28 : CD 4 28 = o_ild 2 29 := rfl
theorem k4_29 : CD 4 29 = o_inv 0 10 1 32 := rfl
theorem k4_32 : CD 4 32 = o_ior 33 := rfl
theorem k4_33 : CD 4 33 = o_ist 1 34 := rfl
theorem k4_34 : CD 4 34 = o_iinc 2 1 37 := rfl
theorem k4_37 : CD 4 37 = o_goto 4 := rfl
theorem k4_40 : CD 4 40 = o_ild 1 41 := rfl
theorem k4_41 : CD 4 41 = o_iret := rfl
theorem k5_0 : CD 5 0 = o_ald 0 1 := rfl
theorem k5_1 : CD 5 1 = o_getI 0 16 4 := rfl
theorem k5_4 : CD 5 4 = o_ild 1 5 := rfl
theorem k5_5 : CD 5 5 = o_sta 128 2 8 := rfl
theorem k5_8 : CD 5 8 = o_ifeq 25 11 := rfl
theorem k5_11 : CD 5 11 = o_ald 0 12 := rfl
theorem k5_12 : CD 5 12 = o_getR 0 10 15 := rfl
theorem k5_15 : CD 5 15 = o_ald 0 16 := rfl
theorem k5_16 : CD 5 16 = o_getI 0 16 19 := rfl
theorem k5_19 : CD 5 19 = o_aald 26 20 := rfl
theorem k5_20 : CD 5 20 = o_ild 1 21 := rfl
theorem k5_21 : CD 5 21 = o_iald 22 := rfl
theorem k5_22 : CD 5 22 = o_goto 26 := rfl
theorem k5_25 : CD 5 25 = o_push (vi (-1)) 26 := rfl
theorem k5_26 : CD 5 26 = o_iret := rfl
theorem k6_0 : CD 6 0 = o_push (vi 1) 1 := rfl
theorem k6_1 : CD 6 1 = o_ist 2 2 := rfl
theorem k6_2 : CD 6 2 = o_push (vi 100) 4 := rfl
theorem k6_4 : CD 6 4 = o_ist 3 5 := rfl
theorem k6_5 : CD 6 5 = o_push (vi 0) 6 := rfl
theorem k6_6 : CD 6 6 = o_ist 4 8 := rfl
theorem k6_8 : CD 6 8 = o_ild 4 10 := rfl
theorem k6_10 : CD 6 10 = o_push (vi 7) 12 := rfl
theorem k6_12 : CD 6 12 = o_icge 58 15 := rfl
theorem k6_15 : CD 6 15 = o_ild 2 16 := rfl
theorem k6_16 : CD 6 16 = o_ild 3 17 := rfl
theorem k6_17 : CD 6 17 = o_icge 58 20 := rfl
theorem k6_20 : CD 6 20 = o_ild 2 21 := rfl
theorem k6_21 : CD 6 21 = o_ild 3 22 := rfl
theorem k6_22 : CD 6 22 = o_iadd 23 := rfl
theorem k6_23 : CD 6 23 = o_push (vi 2) 24 := rfl
theorem k6_24 : CD 6 24 = o_idiv 25 := rfl
theorem k6_25 : CD 6 25 = o_ist 5 27 := rfl
theorem k6_27 : CD 6 27 = o_ald 0 28 := rfl
theorem k6_28 : CD 6 28 = o_ild 1 29 := rfl
theorem k6_29 : CD 6 29 = o_ild 5 31 := rfl
theorem k6_31 : CD 6 31 = o_inv 0 25 2 34 := rfl
theorem k6_34 : CD 6 34 = o_ild 1 35 := rfl
theorem k6_35 : CD 6 35 = o_sta 128 2 38 := rfl
theorem k6_38 : CD 6 38 = o_ifeq 47 41 := rfl
theorem k6_41 : CD 6 41 = o_ild 5 43 := rfl
theorem k6_43 : CD 6 43 = o_ist 3 44 := rfl
theorem k6_44 : CD 6 44 = o_goto 52 := rfl
theorem k6_47 : CD 6 47 = o_ild 5 49 := rfl
theorem k6_49 : CD 6 49 = o_push (vi 1) 50 := rfl
theorem k6_50 : CD 6 50 = o_iadd 51 := rfl
theorem k6_51 : CD 6 51 = o_ist 2 52 := rfl
theorem k6_52 : CD 6 52 = o_iinc 4 1 55 := rfl
theorem k6_55 : CD 6 55 = o_goto 8 := rfl
theorem k6_58 : CD 6 58 = o_ild 2 59 := rfl
theorem k6_59 : CD 6 59 = o_push (vi 99) 61 := rfl
theorem k6_61 : CD 6 61 = o_icgt 68 64 := rfl
theorem k6_64 : CD 6 64 = o_ild 2 65 := rfl
theorem k6_65 : CD 6 65 = o_goto 69 := rfl
theorem k6_68 : CD 6 68 = o_push (vi (-1)) 69 := rfl
theorem k6_69 : CD 6 69 = o_iret := rfl
theorem k7_0 : CD 7 0 = o_ald 0 1 := rfl
theorem k7_1 : CD 7 1 = o_inv 0 4 0 4 := rfl
theorem k7_4 : CD 7 4 = o_ild 1 5 := rfl
theorem k7_5 : CD 7 5 = o_sta 128 2 8 := rfl
theorem k7_8 : CD 7 8 = o_ifeq 13 11 := rfl
theorem k7_11 : CD 7 11 = o_push (vi 0) 12 := rfl
theorem k7_12 : CD 7 12 = o_iret := rfl
theorem k7_13 : CD 7 13 = o_ald 0 14 := rfl
theorem k7_14 : CD 7 14 = o_inv 0 11 0 17 := rfl
theorem k7_17 : CD 7 17 = o_lst 2 18 := rfl
theorem k7_18 : CD 7 18 = o_push (vi 1) 19 := rfl
theorem k7_19 : CD 7 19 = o_ist 4 21 := rfl
theorem k7_21 : CD 7 21 = o_push (vi 0) 22 := rfl
theorem k7_22 : CD 7 22 = o_ist 5 24 := rfl
theorem k7_24 : CD 7 24 = o_ild 5 26 := rfl
theorem k7_26 : CD 7 26 = o_ald 0 27 := rfl
theorem k7_27 : CD 7 27 = o_getR 0 5 30 := rfl
theorem k7_30 : CD 7 30 = o_getI 1 1 33 := rfl
theorem k7_33 : CD 7 33 = o_icge 133 36 := rfl
theorem k7_36 : CD 7 36 = o_ald 0 37 := rfl
theorem k7_37 : CD 7 37 = o_getI 0 16 40 := rfl
theorem k7_40 : CD 7 40 = o_ild 5 42 := rfl
theorem k7_42 : CD 7 42 = o_sta 128 2 45 := rfl
theorem k7_45 : CD 7 45 = o_ifeq 51 48 := rfl
theorem k7_48 : CD 7 48 = o_goto 127 := rfl
theorem k7_51 : CD 7 51 = o_push (vi 0) 52 := rfl
theorem k7_52 : CD 7 52 = o_ist 6 54 := rfl
theorem k7_54 : CD 7 54 = o_ild 6 56 := rfl
theorem k7_56 : CD 7 56 = o_ald 0 57 := rfl
theorem k7_57 : CD 7 57 = o_getR 0 1 60 := rfl
theorem k7_60 : CD 7 60 = o_ild 5 62 := rfl
theorem k7_62 : CD 7 62 = o_iald 63 := rfl
theorem k7_63 : CD 7 63 = o_icge 127 66 := rfl
theorem k7_66 : CD 7 66 = o_ald 0 67 := rfl
theorem k7_67 : CD 7 67 = o_getR 0 0 70 := rfl
theorem k7_70 : CD 7 70 = o_ild 5 72 := rfl
theorem k7_72 : CD 7 72 = o_aald 26 73 := rfl
theorem k7_73 : CD 7 73 = o_ild 6 75 := rfl
theorem k7_75 : CD 7 75 = o_iald 76 := rfl
theorem k7_76 : CD 7 76 = o_ild 1 77 := rfl
theorem k7_77 : CD 7 77 = o_sta 128 2 80 := rfl
theorem k7_80 : CD 7 80 = o_ifne 86 83 := rfl
theorem k7_83 : CD 7 83 = o_goto 121 := rfl
theorem k7_86 : CD 7 86 = o_ald 0 87 := rfl
theorem k7_87 : CD 7 87 = o_getR 0 0 90 := rfl
theorem k7_90 : CD 7 90 = o_ild 5 92 := rfl
theorem k7_92 : CD 7 92 = o_aald 26 93 := rfl
theorem k7_93 : CD 7 93 = o_ild 6 95 := rfl
theorem k7_95 : CD 7 95 = o_iald 96 := rfl
theorem k7_96 : CD 7 96 = o_ald 0 97 := rfl
theorem k7_97 : CD 7 97 = o_getR 0 5 100 := rfl
theorem k7_100 : CD 7 100 = o_getR 1 0 103 := rfl
theorem k7_103 : CD 7 103 = o_ild 5 105 := rfl
theorem k7_105 : CD 7 105 = o_aald 23 106 := rfl
theorem k7_106 : CD 7 106 = o_getI 5 1 109 := rfl
theorem k7_109 : CD 7 109 = o_lld 2 110 := rfl
theorem k7_110 : CD 7 110 = o_sta 23 3 113 := rfl
theorem k7_113 : CD 7 113 = o_ifeq 118 116 := rfl
theorem k7_116 : CD 7 116 = o_push (vi 3) 117 := rfl
theorem k7_117 : CD 7 117 = o_iret := rfl
theorem k7_118 : CD 7 118 = o_push (vi 2) 119 := rfl
theorem k7_119 : CD 7 119 = o_ist 4 121 := rfl
theorem k7_121 : CD 7 121 = o_iinc 6 1 124 := rfl
theorem k7_124 : CD 7 124 = o_goto 54 := rfl
theorem k7_127 : CD 7 127 = o_iinc 5 1 130 := rfl
theorem k7_130 : CD 7 130 = o_goto 24 := rfl
theorem k7_133 : CD 7 133 = o_ild 4 135 := rfl
theorem k7_135 : CD 7 135 = o_iret := rfl
theorem k8_0 : CD 8 0 = o_ald 0 1 := rfl
theorem k8_1 : CD 8 1 = o_push (vi (-1)) 2 := rfl
theorem k8_2 : CD 8 2 = o_putI 0 2 5 := rfl
theorem k8_5 : CD 8 5 = o_ald 0 6 := rfl
theorem k8_6 : CD 8 6 = o_push (vi (-1)) 7 := rfl
theorem k8_7 : CD 8 7 = o_putI 0 3 10 := rfl
theorem k8_10 : CD 8 10 = o_ald 0 11 := rfl
theorem k8_11 : CD 8 11 = o_getR 0 4 14 := rfl
theorem k8_14 : CD 8 14 = o_ald 0 15 := rfl
theorem k8_15 : CD 8 15 = o_getR 0 4 18 := rfl
theorem k8_18 : CD 8 18 = o_getR 4 2 21 := rfl
theorem k8_21 : CD 8 21 = o_ild 1 22 := rfl
theorem k8_22 : CD 8 22 = o_aald 25 23 := rfl
theorem k8_23 : CD 8 23 = o_ald 3 24 := rfl
theorem k8_24 : CD 8 24 = o_inv 4 68 2 27 := rfl
theorem k8_27 : CD 8 27 = o_ist 6 29 := rfl
theorem k8_29 : CD 8 29 = o_ild 4 31 := rfl
theorem k8_31 : CD 8 31 = o_ist 7 33 := rfl
theorem k8_33 : CD 8 33 = o_ild 7 35 := rfl
theorem k8_35 : CD 8 35 = o_ild 5 37 := rfl
theorem k8_37 : CD 8 37 = o_icgt 120 40 := rfl
theorem k8_40 : CD 8 40 = o_ald 0 41 := rfl
theorem k8_41 : CD 8 41 = o_getI 0 3 44 := rfl
theorem k8_44 : CD 8 44 = o_ifeq 120 47 := rfl
theorem k8_47 : CD 8 47 = o_ild 6 49 := rfl
theorem k8_49 : CD 8 49 = o_ild 7 51 := rfl
theorem k8_51 : CD 8 51 = o_sta 128 2 54 := rfl
theorem k8_54 : CD 8 54 = o_ifeq 114 57 := rfl
theorem k8_57 : CD 8 57 = o_ild 7 59 := rfl
theorem k8_59 : CD 8 59 = o_ald 3 60 := rfl
theorem k8_60 : CD 8 60 = o_getI 6 0 63 := rfl
theorem k8_63 : CD 8 63 = o_sta 129 2 66 := rfl
theorem k8_66 : CD 8 66 = o_ist 8 68 := rfl
theorem k8_68 : CD 8 68 = o_ald 0 69 := rfl
theorem k8_69 : CD 8 69 = o_inv 0 3 0 72 := rfl
theorem k8_72 : CD 8 72 = o_ald 0 73 := rfl
theorem k8_73 : CD 8 73 = o_ild 8 75 := rfl
theorem k8_75 : CD 8 75 = o_ild 2 76 := rfl
theorem k8_76 : CD 8 76 = o_sta 24 2 79 := rfl
theorem k8_79 : CD 8 79 = o_inv 0 9 1 82 := rfl
theorem k8_82 : CD 8 82 = o_isub 83 := rfl
theorem k8_83 : CD 8 83 = o_ist 9 85 := rfl
theorem k8_85 : CD 8 85 = o_ald 0 86 := rfl
theorem k8_86 : CD 8 86 = o_getI 0 2 89 := rfl
theorem k8_89 : CD 8 89 = o_push (vi (-1)) 90 := rfl
theorem k8_90 : CD 8 90 = o_iceq 102 93 := rfl
theorem k8_93 : CD 8 93 = o_ild 9 95 := rfl
theorem k8_95 : CD 8 95 = o_ald 0 96 := rfl
theorem k8_96 : CD 8 96 = o_getI 0 3 99 := rfl
theorem k8_99 : CD 8 99 = o_icge 114 102 := rfl
theorem k8_102 : CD 8 102 = o_ald 0 103 := rfl
theorem k8_103 : CD 8 103 = o_ild 7 105 := rfl
theorem k8_105 : CD 8 105 = o_putI 0 2 108 := rfl
theorem k8_108 : CD 8 108 = o_ald 0 109 := rfl
theorem k8_109 : CD 8 109 = o_ild 9 111 := rfl
theorem k8_111 : CD 8 111 = o_putI 0 3 114 := rfl
theorem k8_114 : CD 8 114 = o_iinc 7 1 117 := rfl
theorem k8_117 : CD 8 117 = o_goto 33 := rfl
theorem k8_120 : CD 8 120 = o_vret := rfl
theorem k9_0 : CD 9 0 = o_push (vi 0) 1 := rfl
theorem k9_1 : CD 9 1 = o_ist 3 2 := rfl
theorem k9_2 : CD 9 2 = o_push (vi 1) 3 := rfl
theorem k9_3 : CD 9 3 = o_ist 4 5 := rfl
theorem k9_5 : CD 9 5 = o_ild 4 7 := rfl
theorem k9_7 : CD 9 7 = o_push (vi 1) 8 := rfl
theorem k9_8 : CD 9 8 = o_ald 0 9 := rfl
theorem k9_9 : CD 9 9 = o_getR 0 5 12 := rfl
theorem k9_12 : CD 9 12 = o_getI 1 1 15 := rfl
theorem k9_15 : CD 9 15 = o_ishl 16 := rfl
theorem k9_16 : CD 9 16 = o_icge 65 19 := rfl
theorem k9_19 : CD 9 19 = o_ald 0 20 := rfl
theorem k9_20 : CD 9 20 = o_getR 0 9 23 := rfl
theorem k9_23 : CD 9 23 = o_ild 4 25 := rfl
theorem k9_25 : CD 9 25 = o_bald 26 := rfl
theorem k9_26 : CD 9 26 = o_ifeq 59 29 := rfl
theorem k9_29 : CD 9 29 = o_ald 0 30 := rfl
theorem k9_30 : CD 9 30 = o_getR 0 11 33 := rfl
theorem k9_33 : CD 9 33 = o_ild 4 35 := rfl
theorem k9_35 : CD 9 35 = o_iald 36 := rfl
theorem k9_36 : CD 9 36 = o_ild 3 37 := rfl
theorem k9_37 : CD 9 37 = o_icle 59 40 := rfl
theorem k9_40 : CD 9 40 = o_ald 0 41 := rfl
theorem k9_41 : CD 9 41 = o_ild 4 43 := rfl
theorem k9_43 : CD 9 43 = o_push (vi 0) 44 := rfl
theorem k9_44 : CD 9 44 = o_lld 1 45 := rfl
theorem k9_45 : CD 9 45 = o_inv 0 17 3 48 := rfl
theorem k9_48 : CD 9 48 = o_ifeq 59 51 := rfl
theorem k9_51 : CD 9 51 = o_ald 0 52 := rfl
theorem k9_52 : CD 9 52 = o_getR 0 11 55 := rfl
theorem k9_55 : CD 9 55 = o_ild 4 57 := rfl
theorem k9_57 : CD 9 57 = o_iald 58 := rfl
theorem k9_58 : CD 9 58 = o_ist 3 59 := rfl
theorem k9_59 : CD 9 59 = o_iinc 4 1 62 := rfl
theorem k9_62 : CD 9 62 = o_goto 5 := rfl
theorem k9_65 : CD 9 65 = o_ild 3 66 := rfl
theorem k9_66 : CD 9 66 = o_iret := rfl
theorem k10_0 : CD 10 0 = o_ald 0 1 := rfl
theorem k10_1 : CD 10 1 = o_getR 0 0 4 := rfl
theorem k10_4 : CD 10 4 = o_ild 1 5 := rfl
theorem k10_5 : CD 10 5 = o_aald 26 6 := rfl
theorem k10_6 : CD 10 6 = o_ald 0 7 := rfl
theorem k10_7 : CD 10 7 = o_getR 0 10 10 := rfl
theorem k10_10 : CD 10 10 = o_ald 0 11 := rfl
theorem k10_11 : CD 10 11 = o_getI 0 16 14 := rfl
theorem k10_14 : CD 10 14 = o_aald 26 15 := rfl
theorem k10_15 : CD 10 15 = o_ild 1 16 := rfl
theorem k10_16 : CD 10 16 = o_iald 17 := rfl
theorem k10_17 : CD 10 17 = o_iald 18 := rfl
theorem k10_18 : CD 10 18 = o_iret := rfl
theorem k11_0 : CD 11 0 = o_push (vl (0 : Nat)) 1 := rfl
theorem k11_1 : CD 11 1 = o_lst 1 2 := rfl
theorem k11_2 : CD 11 2 = o_push (vi 0) 3 := rfl
theorem k11_3 : CD 11 3 = o_ist 3 4 := rfl
theorem k11_4 : CD 11 4 = o_ild 3 5 := rfl
theorem k11_5 : CD 11 5 = o_ald 0 6 := rfl
theorem k11_6 : CD 11 6 = o_getR 0 5 9 := rfl
theorem k11_9 : CD 11 9 = o_getI 1 1 12 := rfl
theorem k11_12 : CD 11 12 = o_icge 55 15 := rfl
theorem k11_15 : CD 11 15 = o_ald 0 16 := rfl
theorem k11_16 : CD 11 16 = o_getI 0 16 19 := rfl
theorem k11_19 : CD 11 19 = o_ild 3 20 := rfl
theorem k11_20 : CD 11 20 = o_sta 128 2 23 := rfl
theorem k11_23 : CD 11 23 = o_ifeq 49 26 := rfl
theorem k11_26 : CD 11 26 = o_lld 1 27 := rfl
theorem k11_27 : CD 11 27 = o_ald 0 28 := rfl
theorem k11_28 : CD 11 28 = o_ild 3 29 := rfl
theorem k11_29 : CD 11 29 = o_inv 0 10 1 32 := rfl
theorem k11_32 : CD 11 32 = o_ald 0 33 := rfl
theorem k11_33 : CD 11 33 = o_getR 0 5 36 := rfl
theorem k11_36 : CD 11 36 = o_getR 1 0 39 := rfl
theorem k11_39 : CD 11 39 = o_ild 3 40 := rfl
theorem k11_40 : CD 11 40 = o_aald 23 41 := rfl
theorem k11_41 : CD 11 41 = o_getI 5 1 44 := rfl
theorem k11_44 : CD 11 44 = o_sta 24 2 47 := rfl
theorem k11_47 : CD 11 47 = o_lor 48 := rfl
theorem k11_48 : CD 11 48 = o_lst 1 49 := rfl
theorem k11_49 : CD 11 49 = o_iinc 3 1 52 := rfl
theorem k11_52 : CD 11 52 = o_goto 4 := rfl
theorem k11_55 : CD 11 55 = o_lld 1 56 := rfl
theorem k11_56 : CD 11 56 = o_lret := rfl
theorem k12_0 : CD 12 0 = o_ald 0 1 := rfl
theorem k12_1 : CD 12 1 = o_getR 0 5 4 := rfl
theorem k12_4 : CD 12 4 = o_getR 1 0 7 := rfl
theorem k12_7 : CD 12 7 = o_ild 1 8 := rfl
theorem k12_8 : CD 12 8 = o_aald 23 9 := rfl
theorem k12_9 : CD 12 9 = o_ast 2 10 := rfl
theorem k12_10 : CD 12 10 = o_push (vi 0) 11 := rfl
theorem k12_11 : CD 12 11 = o_ist 3 12 := rfl
theorem k12_12 : CD 12 12 = o_ild 3 13 := rfl
theorem k12_13 : CD 12 13 = o_ald 2 14 := rfl
theorem k12_14 : CD 12 14 = o_getI 5 4 17 := rfl
theorem k12_17 : CD 12 17 = o_icge 57 20 := rfl
theorem k12_20 : CD 12 20 = o_ald 0 21 := rfl
theorem k12_21 : CD 12 21 = o_getR 0 6 24 := rfl
theorem k12_24 : CD 12 24 = o_ild 3 25 := rfl
theorem k12_25 : CD 12 25 = o_ald 0 26 := rfl
theorem k12_26 : CD 12 26 = o_getR 0 4 29 := rfl
theorem k12_29 : CD 12 29 = o_ald 0 30 := rfl
theorem k12_30 : CD 12 30 = o_getR 0 4 33 := rfl
theorem k12_33 : CD 12 33 = o_getR 4 2 36 := rfl
theorem k12_36 : CD 12 36 = o_ald 2 37 := rfl
theorem k12_37 : CD 12 37 = o_getI 5 2 40 := rfl
theorem k12_40 : CD 12 40 = o_aald 25 41 := rfl
theorem k12_41 : CD 12 41 = o_ald 2 42 := rfl
theorem k12_42 : CD 12 42 = o_getR 5 5 45 := rfl
theorem k12_45 : CD 12 45 = o_ild 3 46 := rfl
theorem k12_46 : CD 12 46 = o_aald 24 47 := rfl
theorem k12_47 : CD 12 47 = o_inv 4 68 2 50 := rfl
theorem k12_50 : CD 12 50 = o_iast 51 := rfl
theorem k12_51 : CD 12 51 = o_iinc 3 1 54 := rfl
theorem k12_54 : CD 12 54 = o_goto 12 := rfl
theorem k12_57 : CD 12 57 = o_ald 0 58 := rfl
theorem k12_58 : CD 12 58 = o_getR 0 1 61 := rfl
theorem k12_61 : CD 12 61 = o_ild 1 62 := rfl
theorem k12_62 : CD 12 62 = o_push (vi 0) 63 := rfl
theorem k12_63 : CD 12 63 = o_iast 64 := rfl
theorem k12_64 : CD 12 64 = o_ald 0 65 := rfl
theorem k12_65 : CD 12 65 = o_getR 0 7 68 := rfl
theorem k12_68 : CD 12 68 = o_ild 1 69 := rfl
theorem k12_69 : CD 12 69 = o_push (vi 0) 70 := rfl
theorem k12_70 : CD 12 70 = o_iast 71 := rfl
theorem k12_71 : CD 12 71 = o_ald 0 72 := rfl
theorem k12_72 : CD 12 72 = o_ild 1 73 := rfl
theorem k12_73 : CD 12 73 = o_push (vi 0) 74 := rfl
theorem k12_74 : CD 12 74 = o_push (vi 0) 75 := rfl
theorem k12_75 : CD 12 75 = o_ald 0 76 := rfl
theorem k12_76 : CD 12 76 = o_getR 0 4 79 := rfl
theorem k12_79 : CD 12 79 = o_getI 4 0 82 := rfl
theorem k12_82 : CD 12 82 = o_push (vi 1) 83 := rfl
theorem k12_83 : CD 12 83 = o_isub 84 := rfl
theorem k12_84 : CD 12 84 = o_push (vi 0) 85 := rfl
theorem k12_85 : CD 12 85 = o_inv 0 13 5 88 := rfl
theorem k12_88 : CD 12 88 = o_vret := rfl
theorem k13_0 : CD 13 0 = o_ald 0 1 := rfl
theorem k13_1 : CD 13 1 = o_getR 0 5 4 := rfl
theorem k13_4 : CD 13 4 = o_getR 1 0 7 := rfl
theorem k13_7 : CD 13 7 = o_ild 1 8 := rfl
theorem k13_8 : CD 13 8 = o_aald 23 9 := rfl
theorem k13_9 : CD 13 9 = o_ast 6 11 := rfl
theorem k13_11 : CD 13 11 = o_ild 2 12 := rfl
theorem k13_12 : CD 13 12 = o_ald 6 14 := rfl
theorem k13_14 : CD 13 14 = o_getI 5 4 17 := rfl
theorem k13_17 : CD 13 17 = o_iclt 28 20 := rfl
theorem k13_20 : CD 13 20 = o_ald 0 21 := rfl
theorem k13_21 : CD 13 21 = o_ild 1 22 := rfl
theorem k13_22 : CD 13 22 = o_ild 5 24 := rfl
theorem k13_24 : CD 13 24 = o_inv 0 14 2 27 := rfl
theorem k13_27 : CD 13 27 = o_vret := rfl
theorem k13_28 : CD 13 28 = o_ald 6 30 := rfl
theorem k13_30 : CD 13 30 = o_getR 5 5 33 := rfl
theorem k13_33 : CD 13 33 = o_ild 2 34 := rfl
theorem k13_34 : CD 13 34 = o_aald 24 35 := rfl
theorem k13_35 : CD 13 35 = o_getI 6 0 38 := rfl
theorem k13_38 : CD 13 38 = o_ist 7 40 := rfl
theorem k13_40 : CD 13 40 = o_ild 3 41 := rfl
theorem k13_41 : CD 13 41 = o_ist 8 43 := rfl
theorem k13_43 : CD 13 43 = o_ild 8 45 := rfl
theorem k13_45 : CD 13 45 = o_ild 4 47 := rfl
theorem k13_47 : CD 13 47 = o_icgt 181 50 := rfl
theorem k13_50 : CD 13 50 = o_ild 8 52 := rfl
theorem k13_52 : CD 13 52 = o_ald 0 53 := rfl
theorem k13_53 : CD 13 53 = o_getR 0 4 56 := rfl
theorem k13_56 : CD 13 56 = o_getI 4 0 59 := rfl
theorem k13_59 : CD 13 59 = o_icge 181 62 := rfl
theorem k13_62 : CD 13 62 = o_ald 0 63 := rfl
theorem k13_63 : CD 13 63 = o_getR 0 6 66 := rfl
theorem k13_66 : CD 13 66 = o_ild 2 67 := rfl
theorem k13_67 : CD 13 67 = o_iald 68 := rfl
theorem k13_68 : CD 13 68 = o_ild 8 70 := rfl
theorem k13_70 : CD 13 70 = o_sta 128 2 73 := rfl
theorem k13_73 : CD 13 73 = o_ifeq 175 76 := rfl
theorem k13_76 : CD 13 76 = o_ild 8 78 := rfl
theorem k13_78 : CD 13 78 = o_ild 7 80 := rfl
theorem k13_80 : CD 13 80 = o_iadd 81 := rfl
theorem k13_81 : CD 13 81 = o_ist 9 83 := rfl
theorem k13_83 : CD 13 83 = o_ild 2 84 := rfl
theorem k13_84 : CD 13 84 = o_push (vi 1) 85 := rfl
theorem k13_85 : CD 13 85 = o_iadd 86 := rfl
theorem k13_86 : CD 13 86 = o_ald 6 88 := rfl
theorem k13_88 : CD 13 88 = o_getI 5 4 91 := rfl
theorem k13_91 : CD 13 91 = o_icge 98 94 := rfl
theorem k13_94 : CD 13 94 = o_push (vi 1) 95 := rfl
theorem k13_95 : CD 13 95 = o_goto 99 := rfl
theorem k13_98 : CD 13 98 = o_push (vi 0) 99 := rfl
theorem k13_99 : CD 13 99 = o_ist 10 101 := rfl
theorem k13_101 : CD 13 101 = o_ild 10 103 := rfl
theorem k13_103 : CD 13 103 = o_ifeq 121 106 := rfl
theorem k13_106 : CD 13 106 = o_ald 6 108 := rfl
theorem k13_108 : CD 13 108 = o_getR 5 5 111 := rfl
theorem k13_111 : CD 13 111 = o_ild 2 112 := rfl
theorem k13_112 : CD 13 112 = o_push (vi 1) 113 := rfl
theorem k13_113 : CD 13 113 = o_iadd 114 := rfl
theorem k13_114 : CD 13 114 = o_aald 24 115 := rfl
theorem k13_115 : CD 13 115 = o_getI 6 4 118 := rfl
theorem k13_118 : CD 13 118 = o_goto 122 := rfl
theorem k13_121 : CD 13 121 = o_push (vi 0) 122 := rfl
theorem k13_122 : CD 13 122 = o_ist 11 124 := rfl
theorem k13_124 : CD 13 124 = o_ild 10 126 := rfl
theorem k13_126 : CD 13 126 = o_ifeq 144 129 := rfl
theorem k13_129 : CD 13 129 = o_ald 6 131 := rfl
theorem k13_131 : CD 13 131 = o_getR 5 5 134 := rfl
theorem k13_134 : CD 13 134 = o_ild 2 135 := rfl
theorem k13_135 : CD 13 135 = o_push (vi 1) 136 := rfl
theorem k13_136 : CD 13 136 = o_iadd 137 := rfl
theorem k13_137 : CD 13 137 = o_aald 24 138 := rfl
theorem k13_138 : CD 13 138 = o_getI 6 5 141 := rfl
theorem k13_141 : CD 13 141 = o_goto 145 := rfl
theorem k13_144 : CD 13 144 = o_push (vi 0) 145 := rfl
theorem k13_145 : CD 13 145 = o_ist 12 147 := rfl
theorem k13_147 : CD 13 147 = o_ald 0 148 := rfl
theorem k13_148 : CD 13 148 = o_ild 1 149 := rfl
theorem k13_149 : CD 13 149 = o_ild 2 150 := rfl
theorem k13_150 : CD 13 150 = o_push (vi 1) 151 := rfl
theorem k13_151 : CD 13 151 = o_iadd 152 := rfl
theorem k13_152 : CD 13 152 = o_ild 9 154 := rfl
theorem k13_154 : CD 13 154 = o_ild 11 156 := rfl
theorem k13_156 : CD 13 156 = o_iadd 157 := rfl
theorem k13_157 : CD 13 157 = o_ild 9 159 := rfl
theorem k13_159 : CD 13 159 = o_ild 12 161 := rfl
theorem k13_161 : CD 13 161 = o_iadd 162 := rfl
theorem k13_162 : CD 13 162 = o_ild 5 164 := rfl
theorem k13_164 : CD 13 164 = o_ild 8 166 := rfl
theorem k13_166 : CD 13 166 = o_ild 7 168 := rfl
theorem k13_168 : CD 13 168 = o_sta 129 2 171 := rfl
theorem k13_171 : CD 13 171 = o_ior 172 := rfl
theorem k13_172 : CD 13 172 = o_inv 0 13 5 175 := rfl
theorem k13_175 : CD 13 175 = o_iinc 8 1 178 := rfl
theorem k13_178 : CD 13 178 = o_goto 43 := rfl
theorem k13_181 : CD 13 181 = o_vret := rfl
theorem k14_0 : CD 14 0 = o_ald 0 1 := rfl
theorem k14_1 : CD 14 1 = o_getR 0 1 4 := rfl
theorem k14_4 : CD 14 4 = o_ild 1 5 := rfl
theorem k14_5 : CD 14 5 = o_iald 6 := rfl
theorem k14_6 : CD 14 6 = o_push (vi 112) 8 := rfl
theorem k14_8 : CD 14 8 = o_icge 45 11 := rfl
theorem k14_11 : CD 14 11 = o_ald 0 12 := rfl
theorem k14_12 : CD 14 12 = o_getR 0 0 15 := rfl
theorem k14_15 : CD 14 15 = o_ild 1 16 := rfl
theorem k14_16 : CD 14 16 = o_aald 26 17 := rfl
theorem k14_17 : CD 14 17 = o_ald 0 18 := rfl
theorem k14_18 : CD 14 18 = o_getR 0 1 21 := rfl
theorem k14_21 : CD 14 21 = o_ild 1 22 := rfl
theorem k14_22 : CD 14 22 = o_iald 23 := rfl
theorem k14_23 : CD 14 23 = o_ild 2 24 := rfl
theorem k14_24 : CD 14 24 = o_iast 25 := rfl
theorem k14_25 : CD 14 25 = o_ald 0 26 := rfl
theorem k14_26 : CD 14 26 = o_getR 0 1 29 := rfl
theorem k14_29 : CD 14 29 = o_ild 1 30 := rfl
theorem k14_30 : CD 14 30 = o_dup2ir 31 := rfl
theorem k14_31 : CD 14 31 = o_iald 32 := rfl
theorem k14_32 : CD 14 32 = o_push (vi 1) 33 := rfl
theorem k14_33 : CD 14 33 = o_iadd 34 := rfl
theorem k14_34 : CD 14 34 = o_iast 35 := rfl
theorem k14_35 : CD 14 35 = o_ald 0 36 := rfl
theorem k14_36 : CD 14 36 = o_getR 0 7 39 := rfl
theorem k14_39 : CD 14 39 = o_ild 1 40 := rfl
theorem k14_40 : CD 14 40 = o_dup2ir 41 := rfl
theorem k14_41 : CD 14 41 = o_iald 42 := rfl
theorem k14_42 : CD 14 42 = o_ild 2 43 := rfl
theorem k14_43 : CD 14 43 = o_ior 44 := rfl
theorem k14_44 : CD 14 44 = o_iast 45 := rfl
theorem k14_45 : CD 14 45 = o_vret := rfl
theorem k15_0 : CD 15 0 = o_push (vi 0) 1 := rfl
theorem k15_1 : CD 15 1 = o_ist 2 2 := rfl
theorem k15_2 : CD 15 2 = o_ild 2 3 := rfl
theorem k15_3 : CD 15 3 = o_ald 0 4 := rfl
theorem k15_4 : CD 15 4 = o_getR 0 5 7 := rfl
theorem k15_7 : CD 15 7 = o_getI 1 1 10 := rfl
theorem k15_10 : CD 15 10 = o_icge 27 13 := rfl
theorem k15_13 : CD 15 13 = o_ild 1 14 := rfl
theorem k15_14 : CD 15 14 = o_ild 2 15 := rfl
theorem k15_15 : CD 15 15 = o_sta 128 2 18 := rfl
theorem k15_18 : CD 15 18 = o_ifne 27 21 := rfl
theorem k15_21 : CD 15 21 = o_iinc 2 1 24 := rfl
theorem k15_24 : CD 15 24 = o_goto 2 := rfl
theorem k15_27 : CD 15 27 = o_ild 2 28 := rfl
theorem k15_28 : CD 15 28 = o_ald 0 29 := rfl
theorem k15_29 : CD 15 29 = o_getR 0 5 32 := rfl
theorem k15_32 : CD 15 32 = o_getI 1 1 35 := rfl
theorem k15_35 : CD 15 35 = o_iclt 39 38 := rfl
theorem k15_38 : CD 15 38 = o_vret := rfl
theorem k15_39 : CD 15 39 = o_ald 0 40 := rfl
theorem k15_40 : CD 15 40 = o_getR 0 5 43 := rfl
theorem k15_43 : CD 15 43 = o_getR 1 0 46 := rfl
theorem k15_46 : CD 15 46 = o_ild 2 47 := rfl
theorem k15_47 : CD 15 47 = o_aald 23 48 := rfl
theorem k15_48 : CD 15 48 = o_ast 3 49 := rfl
theorem k15_49 : CD 15 49 = o_ild 1 50 := rfl
theorem k15_50 : CD 15 50 = o_push (vi 1) 51 := rfl
theorem k15_51 : CD 15 51 = o_ild 2 52 := rfl
theorem k15_52 : CD 15 52 = o_ishl 53 := rfl
theorem k15_53 : CD 15 53 = o_push (vi (-1)) 54 := rfl
theorem k15_54 : CD 15 54 = o_ixor 55 := rfl
theorem k15_55 : CD 15 55 = o_iand 56 := rfl
theorem k15_56 : CD 15 56 = o_ist 4 58 := rfl
theorem k15_58 : CD 15 58 = o_ald 0 59 := rfl
theorem k15_59 : CD 15 59 = o_getR 0 11 62 := rfl
theorem k15_62 : CD 15 62 = o_ild 1 63 := rfl
theorem k15_63 : CD 15 63 = o_ald 0 64 := rfl
theorem k15_64 : CD 15 64 = o_getR 0 11 67 := rfl
theorem k15_67 : CD 15 67 = o_ild 4 69 := rfl
theorem k15_69 : CD 15 69 = o_iald 70 := rfl
theorem k15_70 : CD 15 70 = o_ald 3 71 := rfl
theorem k15_71 : CD 15 71 = o_getI 5 3 74 := rfl
theorem k15_74 : CD 15 74 = o_iadd 75 := rfl
theorem k15_75 : CD 15 75 = o_iast 76 := rfl
theorem k15_76 : CD 15 76 = o_ald 0 77 := rfl
theorem k15_77 : CD 15 77 = o_getR 0 12 80 := rfl
theorem k15_80 : CD 15 80 = o_ild 1 81 := rfl
theorem k15_81 : CD 15 81 = o_ald 0 82 := rfl
theorem k15_82 : CD 15 82 = o_getR 0 12 85 := rfl
theorem k15_85 : CD 15 85 = o_ild 4 87 := rfl
theorem k15_87 : CD 15 87 = o_iald 88 := rfl
theorem k15_88 : CD 15 88 = o_ald 3 89 := rfl
theorem k15_89 : CD 15 89 = o_inv 5 71 0 92 := rfl
theorem k15_92 : CD 15 92 = o_iadd 93 := rfl
theorem k15_93 : CD 15 93 = o_iast 94 := rfl
theorem k15_94 : CD 15 94 = o_ald 0 95 := rfl
theorem k15_95 : CD 15 95 = o_getR 0 13 98 := rfl
theorem k15_98 : CD 15 98 = o_ild 1 99 := rfl
theorem k15_99 : CD 15 99 = o_ald 0 100 := rfl
theorem k15_100 : CD 15 100 = o_getR 0 13 103 := rfl
theorem k15_103 : CD 15 103 = o_ild 4 105 := rfl
theorem k15_105 : CD 15 105 = o_lald 106 := rfl
theorem k15_106 : CD 15 106 = o_ald 0 107 := rfl
theorem k15_107 : CD 15 107 = o_getR 0 7 110 := rfl
theorem k15_110 : CD 15 110 = o_ild 2 111 := rfl
theorem k15_111 : CD 15 111 = o_iald 112 := rfl
theorem k15_112 : CD 15 112 = o_i2l 113 := rfl
theorem k15_113 : CD 15 113 = o_push (vi 16) 115 := rfl
theorem k15_115 : CD 15 115 = o_ald 3 116 := rfl
theorem k15_116 : CD 15 116 = o_getI 5 1 119 := rfl
theorem k15_119 : CD 15 119 = o_imul 120 := rfl
theorem k15_120 : CD 15 120 = o_lshl 121 := rfl
theorem k15_121 : CD 15 121 = o_lor 122 := rfl
theorem k15_122 : CD 15 122 = o_last 123 := rfl
theorem k15_123 : CD 15 123 = o_vret := rfl
theorem k16_0 : CD 16 0 = o_push (vi 0) 1 := rfl
theorem k16_1 : CD 16 1 = o_ist 2 2 := rfl
theorem k16_2 : CD 16 2 = o_ild 2 3 := rfl
theorem k16_3 : CD 16 3 = o_ald 0 4 := rfl
theorem k16_4 : CD 16 4 = o_getR 0 5 7 := rfl
theorem k16_7 : CD 16 7 = o_getI 1 1 10 := rfl
theorem k16_10 : CD 16 10 = o_icge 44 13 := rfl
theorem k16_13 : CD 16 13 = o_ild 1 14 := rfl
theorem k16_14 : CD 16 14 = o_ild 2 15 := rfl
theorem k16_15 : CD 16 15 = o_sta 128 2 18 := rfl
theorem k16_18 : CD 16 18 = o_ifeq 38 21 := rfl
theorem k16_21 : CD 16 21 = o_ald 0 22 := rfl
theorem k16_22 : CD 16 22 = o_getR 0 9 25 := rfl
theorem k16_25 : CD 16 25 = o_ild 1 26 := rfl
theorem k16_26 : CD 16 26 = o_push (vi 1) 27 := rfl
theorem k16_27 : CD 16 27 = o_ild 2 28 := rfl
theorem k16_28 : CD 16 28 = o_ishl 29 := rfl
theorem k16_29 : CD 16 29 = o_push (vi (-1)) 30 := rfl
theorem k16_30 : CD 16 30 = o_ixor 31 := rfl
theorem k16_31 : CD 16 31 = o_iand 32 := rfl
theorem k16_32 : CD 16 32 = o_bald 33 := rfl
theorem k16_33 : CD 16 33 = o_ifne 38 36 := rfl
theorem k16_36 : CD 16 36 = o_push (vi 0) 37 := rfl
theorem k16_37 : CD 16 37 = o_zret := rfl
theorem k16_38 : CD 16 38 = o_iinc 2 1 41 := rfl
theorem k16_41 : CD 16 41 = o_goto 2 := rfl
theorem k16_44 : CD 16 44 = o_push (vi 1) 45 := rfl
theorem k16_45 : CD 16 45 = o_zret := rfl
theorem k17_0 : CD 17 0 = o_ild 2 1 := rfl
theorem k17_1 : CD 17 1 = o_ald 0 2 := rfl
theorem k17_2 : CD 17 2 = o_getR 0 5 5 := rfl
theorem k17_5 : CD 17 5 = o_getI 1 1 8 := rfl
theorem k17_8 : CD 17 8 = o_iclt 13 11 := rfl
theorem k17_11 : CD 17 11 = o_push (vi 1) 12 := rfl
theorem k17_12 : CD 17 12 = o_zret := rfl
theorem k17_13 : CD 17 13 = o_ild 1 14 := rfl
theorem k17_14 : CD 17 14 = o_ild 2 15 := rfl
theorem k17_15 : CD 17 15 = o_sta 128 2 18 := rfl
theorem k17_18 : CD 17 18 = o_ifne 39 21 := rfl
theorem k17_21 : CD 17 21 = o_ald 0 22 := rfl
theorem k17_22 : CD 17 22 = o_getR 0 8 25 := rfl
theorem k17_25 : CD 17 25 = o_ild 2 26 := rfl
theorem k17_26 : CD 17 26 = o_push (vi 112) 28 := rfl
theorem k17_28 : CD 17 28 = o_iast 29 := rfl
theorem k17_29 : CD 17 29 = o_ald 0 30 := rfl
theorem k17_30 : CD 17 30 = o_ild 1 31 := rfl
theorem k17_31 : CD 17 31 = o_ild 2 32 := rfl
theorem k17_32 : CD 17 32 = o_push (vi 1) 33 := rfl
theorem k17_33 : CD 17 33 = o_iadd 34 := rfl
theorem k17_34 : CD 17 34 = o_lld 3 35 := rfl
theorem k17_35 : CD 17 35 = o_inv 0 17 3 38 := rfl
theorem k17_38 : CD 17 38 = o_zret := rfl
theorem k17_39 : CD 17 39 = o_ild 1 40 := rfl
theorem k17_40 : CD 17 40 = o_push (vi 1) 41 := rfl
theorem k17_41 : CD 17 41 = o_ild 2 42 := rfl
theorem k17_42 : CD 17 42 = o_ishl 43 := rfl
theorem k17_43 : CD 17 43 = o_ineg 44 := rfl
theorem k17_44 : CD 17 44 = o_iand 45 := rfl
theorem k17_45 : CD 17 45 = o_ist 5 47 := rfl
theorem k17_47 : CD 17 47 = o_ald 0 48 := rfl
theorem k17_48 : CD 17 48 = o_getR 0 12 51 := rfl
theorem k17_51 : CD 17 51 = o_ild 5 53 := rfl
theorem k17_53 : CD 17 53 = o_iald 54 := rfl
theorem k17_54 : CD 17 54 = o_ald 0 55 := rfl
theorem k17_55 : CD 17 55 = o_lld 3 56 := rfl
theorem k17_56 : CD 17 56 = o_inv 0 18 1 59 := rfl
theorem k17_59 : CD 17 59 = o_icgt 72 62 := rfl
theorem k17_62 : CD 17 62 = o_ald 0 63 := rfl
theorem k17_63 : CD 17 63 = o_ild 5 65 := rfl
theorem k17_65 : CD 17 65 = o_lld 3 66 := rfl
theorem k17_66 : CD 17 66 = o_inv 0 21 2 69 := rfl
theorem k17_69 : CD 17 69 = o_ifeq 74 72 := rfl
theorem k17_72 : CD 17 72 = o_push (vi 0) 73 := rfl
theorem k17_73 : CD 17 73 = o_zret := rfl
theorem k17_74 : CD 17 74 = o_ald 0 75 := rfl
theorem k17_75 : CD 17 75 = o_getR 0 5 78 := rfl
theorem k17_78 : CD 17 78 = o_getR 1 0 81 := rfl
theorem k17_81 : CD 17 81 = o_ild 2 82 := rfl
theorem k17_82 : CD 17 82 = o_aald 23 83 := rfl
theorem k17_83 : CD 17 83 = o_getI 5 1 86 := rfl
theorem k17_86 : CD 17 86 = o_ist 6 88 := rfl
theorem k17_88 : CD 17 88 = o_push (vi 0) 89 := rfl
theorem k17_89 : CD 17 89 = o_ist 7 91 := rfl
theorem k17_91 : CD 17 91 = o_ild 7 93 := rfl
theorem k17_93 : CD 17 93 = o_ald 0 94 := rfl
theorem k17_94 : CD 17 94 = o_getR 0 1 97 := rfl
theorem k17_97 : CD 17 97 = o_ild 2 98 := rfl
theorem k17_98 : CD 17 98 = o_iald 99 := rfl
theorem k17_99 : CD 17 99 = o_icge 160 102 := rfl
theorem k17_102 : CD 17 102 = o_ald 0 103 := rfl
theorem k17_103 : CD 17 103 = o_getR 0 0 106 := rfl
theorem k17_106 : CD 17 106 = o_ild 2 107 := rfl
theorem k17_107 : CD 17 107 = o_aald 26 108 := rfl
theorem k17_108 : CD 17 108 = o_ild 7 110 := rfl
theorem k17_110 : CD 17 110 = o_iald 111 := rfl
theorem k17_111 : CD 17 111 = o_ist 8 113 := rfl
theorem k17_113 : CD 17 113 = o_ild 8 115 := rfl
theorem k17_115 : CD 17 115 = o_ild 6 117 := rfl
theorem k17_117 : CD 17 117 = o_lld 3 118 := rfl
theorem k17_118 : CD 17 118 = o_sta 23 3 121 := rfl
theorem k17_121 : CD 17 121 = o_ifeq 154 124 := rfl
theorem k17_124 : CD 17 124 = o_ald 0 125 := rfl
theorem k17_125 : CD 17 125 = o_getR 0 8 128 := rfl
theorem k17_128 : CD 17 128 = o_ild 2 129 := rfl
theorem k17_129 : CD 17 129 = o_ild 7 131 := rfl
theorem k17_131 : CD 17 131 = o_iast 132 := rfl
theorem k17_132 : CD 17 132 = o_ald 0 133 := rfl
theorem k17_133 : CD 17 133 = o_ild 1 134 := rfl
theorem k17_134 : CD 17 134 = o_ild 2 135 := rfl
theorem k17_135 : CD 17 135 = o_push (vi 1) 136 := rfl
theorem k17_136 : CD 17 136 = o_iadd 137 := rfl
theorem k17_137 : CD 17 137 = o_lld 3 138 := rfl
theorem k17_138 : CD 17 138 = o_ild 8 140 := rfl
theorem k17_140 : CD 17 140 = o_ild 6 142 := rfl
theorem k17_142 : CD 17 142 = o_sta 24 2 145 := rfl
theorem k17_145 : CD 17 145 = o_lor 146 := rfl
theorem k17_146 : CD 17 146 = o_inv 0 17 3 149 := rfl
theorem k17_149 : CD 17 149 = o_ifeq 154 152 := rfl
theorem k17_152 : CD 17 152 = o_push (vi 1) 153 := rfl
theorem k17_153 : CD 17 153 = o_zret := rfl
theorem k17_154 : CD 17 154 = o_iinc 7 1 157 := rfl
theorem k17_157 : CD 17 157 = o_goto 91 := rfl
theorem k17_160 : CD 17 160 = o_ald 0 161 := rfl
theorem k17_161 : CD 17 161 = o_ild 5 163 := rfl
theorem k17_163 : CD 17 163 = o_lld 3 164 := rfl
theorem k17_164 : CD 17 164 = o_inv 0 22 2 167 := rfl
theorem k17_167 : CD 17 167 = o_push (vi 0) 168 := rfl
theorem k17_168 : CD 17 168 = o_zret := rfl
theorem k18_0 : CD 18 0 = o_ald 0 1 := rfl
theorem k18_1 : CD 18 1 = o_getR 0 4 4 := rfl
theorem k18_4 : CD 18 4 = o_getI 4 0 7 := rfl
theorem k18_7 : CD 18 7 = o_lld 1 8 := rfl
theorem k18_8 : CD 18 8 = o_lld 1 9 := rfl
theorem k18_9 : CD 18 9 = o_push (vi 16) 11 := rfl
theorem k18_11 : CD 18 11 = o_lshr 12 := rfl
theorem k18_12 : CD 18 12 = o_land 13 := rfl
theorem k18_13 : CD 18 13 = o_lld 1 14 := rfl
theorem k18_14 : CD 18 14 = o_push (vi 32) 16 := rfl
theorem k18_16 : CD 18 16 = o_lshr 17 := rfl
theorem k18_17 : CD 18 17 = o_land 18 := rfl
theorem k18_18 : CD 18 18 = o_push (vl 65535) 21 := rfl
theorem k18_21 : CD 18 21 = o_land 22 := rfl
theorem k18_22 : CD 18 22 = o_sta 209 1 25 := rfl
theorem k18_25 : CD 18 25 = o_isub 26 := rfl
theorem k18_26 : CD 18 26 = o_iret := rfl
theorem k19_0 : CD 19 0 = o_lld 2 1 := rfl
theorem k19_1 : CD 19 1 = o_ald 0 2 := rfl
theorem k19_2 : CD 19 2 = o_getR 0 13 5 := rfl
theorem k19_5 : CD 19 5 = o_ild 1 6 := rfl
theorem k19_6 : CD 19 6 = o_lald 7 := rfl
theorem k19_7 : CD 19 7 = o_land 8 := rfl
theorem k19_8 : CD 19 8 = o_ild 1 9 := rfl
theorem k19_9 : CD 19 9 = o_i2l 10 := rfl
theorem k19_10 : CD 19 10 = o_push (vi 48) 12 := rfl
theorem k19_12 : CD 19 12 = o_lshl 13 := rfl
theorem k19_13 : CD 19 13 = o_lor 14 := rfl
theorem k19_14 : CD 19 14 = o_ald 0 15 := rfl
theorem k19_15 : CD 19 15 = o_getI 0 15 18 := rfl
theorem k19_18 : CD 19 18 = o_i2l 19 := rfl
theorem k19_19 : CD 19 19 = o_push (vi 53) 21 := rfl
theorem k19_21 : CD 19 21 = o_lshl 22 := rfl
theorem k19_22 : CD 19 22 = o_lor 23 := rfl
theorem k19_23 : CD 19 23 = o_lret := rfl
theorem k20_0 : CD 20 0 = o_lld 0 1 := rfl
theorem k20_1 : CD 20 1 = o_push (vl (-7046029254386353131)) 4 := rfl
theorem k20_4 : CD 20 4 = o_lmul 5 := rfl
theorem k20_5 : CD 20 5 = o_push (vi 54) 7 := rfl
theorem k20_7 : CD 20 7 = o_lushr 8 := rfl
theorem k20_8 : CD 20 8 = o_l2i 9 := rfl
theorem k20_9 : CD 20 9 = o_iret := rfl
theorem k21_0 : CD 21 0 = o_ald 0 1 := rfl
theorem k21_1 : CD 21 1 = o_ild 1 2 := rfl
theorem k21_2 : CD 21 2 = o_lld 2 3 := rfl
theorem k21_3 : CD 21 3 = o_inv 0 19 2 6 := rfl
theorem k21_6 : CD 21 6 = o_lst 4 8 := rfl
theorem k21_8 : CD 21 8 = o_ald 0 9 := rfl
theorem k21_9 : CD 21 9 = o_getR 0 14 12 := rfl
theorem k21_12 : CD 21 12 = o_lld 4 14 := rfl
theorem k21_14 : CD 21 14 = o_sta 20 1 17 := rfl
theorem k21_17 : CD 21 17 = o_lald 18 := rfl
theorem k21_18 : CD 21 18 = o_lld 4 20 := rfl
theorem k21_20 : CD 21 20 = o_lcmp 21 := rfl
theorem k21_21 : CD 21 21 = o_ifne 28 24 := rfl
theorem k21_24 : CD 21 24 = o_push (vi 1) 25 := rfl
theorem k21_25 : CD 21 25 = o_goto 29 := rfl
theorem k21_28 : CD 21 28 = o_push (vi 0) 29 := rfl
theorem k21_29 : CD 21 29 = o_zret := rfl
theorem k22_0 : CD 22 0 = o_ald 0 1 := rfl
theorem k22_1 : CD 22 1 = o_ild 1 2 := rfl
theorem k22_2 : CD 22 2 = o_lld 2 3 := rfl
theorem k22_3 : CD 22 3 = o_inv 0 19 2 6 := rfl
theorem k22_6 : CD 22 6 = o_lst 4 8 := rfl
theorem k22_8 : CD 22 8 = o_ald 0 9 := rfl
theorem k22_9 : CD 22 9 = o_getR 0 14 12 := rfl
theorem k22_12 : CD 22 12 = o_lld 4 14 := rfl
theorem k22_14 : CD 22 14 = o_sta 20 1 17 := rfl
theorem k22_17 : CD 22 17 = o_lld 4 19 := rfl
theorem k22_19 : CD 22 19 = o_last 20 := rfl
theorem k22_20 : CD 22 20 = o_vret := rfl
theorem k23_0 : CD 23 0 = o_lld 2 1 := rfl
theorem k23_1 : CD 23 1 = o_push (vi 16) 3 := rfl
theorem k23_3 : CD 23 3 = o_ild 1 4 := rfl
theorem k23_4 : CD 23 4 = o_imul 5 := rfl
theorem k23_5 : CD 23 5 = o_lshr 6 := rfl
theorem k23_6 : CD 23 6 = o_ild 0 7 := rfl
theorem k23_7 : CD 23 7 = o_i2l 8 := rfl
theorem k23_8 : CD 23 8 = o_land 9 := rfl
theorem k23_9 : CD 23 9 = o_push (vl (0 : Nat)) 10 := rfl
theorem k23_10 : CD 23 10 = o_lcmp 11 := rfl
theorem k23_11 : CD 23 11 = o_ifne 18 14 := rfl
theorem k23_14 : CD 23 14 = o_push (vi 1) 15 := rfl
theorem k23_15 : CD 23 15 = o_goto 19 := rfl
theorem k23_18 : CD 23 18 = o_push (vi 0) 19 := rfl
theorem k23_19 : CD 23 19 = o_zret := rfl
theorem k24_0 : CD 24 0 = o_ild 0 1 := rfl
theorem k24_1 : CD 24 1 = o_ild 0 2 := rfl
theorem k24_2 : CD 24 2 = o_push (vi 1) 3 := rfl
theorem k24_3 : CD 24 3 = o_ishl 4 := rfl
theorem k24_4 : CD 24 4 = o_ior 5 := rfl
theorem k24_5 : CD 24 5 = o_ild 0 6 := rfl
theorem k24_6 : CD 24 6 = o_push (vi 1) 7 := rfl
theorem k24_7 : CD 24 7 = o_ishr 8 := rfl
theorem k24_8 : CD 24 8 = o_ior 9 := rfl
theorem k24_9 : CD 24 9 = o_i2l 10 := rfl
theorem k24_10 : CD 24 10 = o_lst 2 11 := rfl
theorem k24_11 : CD 24 11 = o_push (vl (0 : Nat)) 12 := rfl
theorem k24_12 : CD 24 12 = o_lst 4 14 := rfl
theorem k24_14 : CD 24 14 = o_push (vi 0) 15 := rfl
theorem k24_15 : CD 24 15 = o_ist 6 17 := rfl
theorem k24_17 : CD 24 17 = o_ild 6 19 := rfl
theorem k24_19 : CD 24 19 = o_push (vi 3) 20 := rfl
theorem k24_20 : CD 24 20 = o_icge 52 23 := rfl
theorem k24_23 : CD 24 23 = o_lld 4 25 := rfl
theorem k24_25 : CD 24 25 = o_ild 6 27 := rfl
theorem k24_27 : CD 24 27 = o_ild 1 28 := rfl
theorem k24_28 : CD 24 28 = o_icne 36 31 := rfl
theorem k24_31 : CD 24 31 = o_ild 0 32 := rfl
theorem k24_32 : CD 24 32 = o_i2l 33 := rfl
theorem k24_33 : CD 24 33 = o_goto 37 := rfl
theorem k24_36 : CD 24 36 = o_lld 2 37 := rfl
theorem k24_37 : CD 24 37 = o_push (vi 16) 39 := rfl
theorem k24_39 : CD 24 39 = o_ild 6 41 := rfl
theorem k24_41 : CD 24 41 = o_imul 42 := rfl
theorem k24_42 : CD 24 42 = o_lshl 43 := rfl
theorem k24_43 : CD 24 43 = o_lor 44 := rfl
theorem k24_44 : CD 24 44 = o_lst 4 46 := rfl
theorem k24_46 : CD 24 46 = o_iinc 6 1 49 := rfl
theorem k24_49 : CD 24 49 = o_goto 17 := rfl
theorem k24_52 : CD 24 52 = o_lld 4 54 := rfl
theorem k24_54 : CD 24 54 = o_lret := rfl
theorem k25_0 : CD 25 0 = o_push (vi 0) 1 := rfl
theorem k25_1 : CD 25 1 = o_ist 3 2 := rfl
theorem k25_2 : CD 25 2 = o_push (vi 1) 3 := rfl
theorem k25_3 : CD 25 3 = o_ist 4 5 := rfl
theorem k25_5 : CD 25 5 = o_ild 4 7 := rfl
theorem k25_7 : CD 25 7 = o_push (vi 1) 8 := rfl
theorem k25_8 : CD 25 8 = o_ald 0 9 := rfl
theorem k25_9 : CD 25 9 = o_getR 0 5 12 := rfl
theorem k25_12 : CD 25 12 = o_getI 1 1 15 := rfl
theorem k25_15 : CD 25 15 = o_ishl 16 := rfl
theorem k25_16 : CD 25 16 = o_icge 50 19 := rfl
theorem k25_19 : CD 25 19 = o_ald 0 20 := rfl
theorem k25_20 : CD 25 20 = o_getR 0 9 23 := rfl
theorem k25_23 : CD 25 23 = o_ild 4 25 := rfl
theorem k25_25 : CD 25 25 = o_bald 26 := rfl
theorem k25_26 : CD 25 26 = o_ifeq 44 29 := rfl
theorem k25_29 : CD 25 29 = o_ald 0 30 := rfl
theorem k25_30 : CD 25 30 = o_ild 4 32 := rfl
theorem k25_32 : CD 25 32 = o_ild 3 33 := rfl
theorem k25_33 : CD 25 33 = o_ild 1 34 := rfl
theorem k25_34 : CD 25 34 = o_ild 2 35 := rfl
theorem k25_35 : CD 25 35 = o_inv 0 26 4 38 := rfl
theorem k25_38 : CD 25 38 = o_ifeq 44 41 := rfl
theorem k25_41 : CD 25 41 = o_ild 4 43 := rfl
theorem k25_43 : CD 25 43 = o_ist 3 44 := rfl
theorem k25_44 : CD 25 44 = o_iinc 4 1 47 := rfl
theorem k25_47 : CD 25 47 = o_goto 5 := rfl
theorem k25_50 : CD 25 50 = o_ild 3 51 := rfl
theorem k25_51 : CD 25 51 = o_iret := rfl
theorem k26_0 : CD 26 0 = o_ald 0 1 := rfl
theorem k26_1 : CD 26 1 = o_ild 1 2 := rfl
theorem k26_2 : CD 26 2 = o_ild 3 3 := rfl
theorem k26_3 : CD 26 3 = o_ild 4 5 := rfl
theorem k26_5 : CD 26 5 = o_inv 0 27 3 8 := rfl
theorem k26_8 : CD 26 8 = o_ald 0 9 := rfl
theorem k26_9 : CD 26 9 = o_ild 2 10 := rfl
theorem k26_10 : CD 26 10 = o_ild 3 11 := rfl
theorem k26_11 : CD 26 11 = o_ild 4 13 := rfl
theorem k26_13 : CD 26 13 = o_inv 0 27 3 16 := rfl
theorem k26_16 : CD 26 16 = o_isub 17 := rfl
theorem k26_17 : CD 26 17 = o_ist 5 19 := rfl
theorem k26_19 : CD 26 19 = o_ild 5 21 := rfl
theorem k26_21 : CD 26 21 = o_ifeq 35 24 := rfl
theorem k26_24 : CD 26 24 = o_ild 5 26 := rfl
theorem k26_26 : CD 26 26 = o_ifle 33 29 := rfl
theorem k26_29 : CD 26 29 = o_push (vi 1) 30 := rfl
theorem k26_30 : CD 26 30 = o_goto 34 := rfl
theorem k26_33 : CD 26 33 = o_push (vi 0) 34 := rfl
theorem k26_34 : CD 26 34 = o_zret := rfl
theorem k26_35 : CD 26 35 = o_ald 0 36 := rfl
theorem k26_36 : CD 26 36 = o_getR 0 12 39 := rfl
theorem k26_39 : CD 26 39 = o_ild 1 40 := rfl
theorem k26_40 : CD 26 40 = o_iald 41 := rfl
theorem k26_41 : CD 26 41 = o_ald 0 42 := rfl
theorem k26_42 : CD 26 42 = o_getR 0 12 45 := rfl
theorem k26_45 : CD 26 45 = o_ild 2 46 := rfl
theorem k26_46 : CD 26 46 = o_iald 47 := rfl
theorem k26_47 : CD 26 47 = o_iceq 71 50 := rfl
theorem k26_50 : CD 26 50 = o_ald 0 51 := rfl
theorem k26_51 : CD 26 51 = o_getR 0 12 54 := rfl
theorem k26_54 : CD 26 54 = o_ild 1 55 := rfl
theorem k26_55 : CD 26 55 = o_iald 56 := rfl
theorem k26_56 : CD 26 56 = o_ald 0 57 := rfl
theorem k26_57 : CD 26 57 = o_getR 0 12 60 := rfl
theorem k26_60 : CD 26 60 = o_ild 2 61 := rfl
theorem k26_61 : CD 26 61 = o_iald 62 := rfl
theorem k26_62 : CD 26 62 = o_icge 69 65 := rfl
theorem k26_65 : CD 26 65 = o_push (vi 1) 66 := rfl
theorem k26_66 : CD 26 66 = o_goto 70 := rfl
theorem k26_69 : CD 26 69 = o_push (vi 0) 70 := rfl
theorem k26_70 : CD 26 70 = o_zret := rfl
theorem k26_71 : CD 26 71 = o_push (vi 0) 72 := rfl
theorem k26_72 : CD 26 72 = o_ist 6 74 := rfl
theorem k26_74 : CD 26 74 = o_ild 6 76 := rfl
theorem k26_76 : CD 26 76 = o_ald 0 77 := rfl
theorem k26_77 : CD 26 77 = o_getR 0 5 80 := rfl
theorem k26_80 : CD 26 80 = o_getI 1 1 83 := rfl
theorem k26_83 : CD 26 83 = o_icge 140 86 := rfl
theorem k26_86 : CD 26 86 = o_ald 0 87 := rfl
theorem k26_87 : CD 26 87 = o_getR 0 10 90 := rfl
theorem k26_90 : CD 26 90 = o_ild 1 91 := rfl
theorem k26_91 : CD 26 91 = o_aald 26 92 := rfl
theorem k26_92 : CD 26 92 = o_ild 6 94 := rfl
theorem k26_94 : CD 26 94 = o_iald 95 := rfl
theorem k26_95 : CD 26 95 = o_ald 0 96 := rfl
theorem k26_96 : CD 26 96 = o_getR 0 10 99 := rfl
theorem k26_99 : CD 26 99 = o_ild 2 100 := rfl
theorem k26_100 : CD 26 100 = o_aald 26 101 := rfl
theorem k26_101 : CD 26 101 = o_ild 6 103 := rfl
theorem k26_103 : CD 26 103 = o_iald 104 := rfl
theorem k26_104 : CD 26 104 = o_iceq 134 107 := rfl
theorem k26_107 : CD 26 107 = o_ald 0 108 := rfl
theorem k26_108 : CD 26 108 = o_getR 0 10 111 := rfl
theorem k26_111 : CD 26 111 = o_ild 1 112 := rfl
theorem k26_112 : CD 26 112 = o_aald 26 113 := rfl
theorem k26_113 : CD 26 113 = o_ild 6 115 := rfl
theorem k26_115 : CD 26 115 = o_iald 116 := rfl
theorem k26_116 : CD 26 116 = o_ald 0 117 := rfl
theorem k26_117 : CD 26 117 = o_getR 0 10 120 := rfl
theorem k26_120 : CD 26 120 = o_ild 2 121 := rfl
theorem k26_121 : CD 26 121 = o_aald 26 122 := rfl
theorem k26_122 : CD 26 122 = o_ild 6 124 := rfl
theorem k26_124 : CD 26 124 = o_iald 125 := rfl
theorem k26_125 : CD 26 125 = o_icge 132 128 := rfl
theorem k26_128 : CD 26 128 = o_push (vi 1) 129 := rfl
theorem k26_129 : CD 26 129 = o_goto 133 := rfl
theorem k26_132 : CD 26 132 = o_push (vi 0) 133 := rfl
theorem k26_133 : CD 26 133 = o_zret := rfl
theorem k26_134 : CD 26 134 = o_iinc 6 1 137 := rfl
theorem k26_137 : CD 26 137 = o_goto 74 := rfl
theorem k26_140 : CD 26 140 = o_push (vi 0) 141 := rfl
theorem k26_141 : CD 26 141 = o_zret := rfl
theorem k27_0 : CD 27 0 = o_ild 2 1 := rfl
theorem k27_1 : CD 27 1 = o_push (vi (-1)) 2 := rfl
theorem k27_2 : CD 27 2 = o_iceq 13 5 := rfl
theorem k27_5 : CD 27 5 = o_ild 1 6 := rfl
theorem k27_6 : CD 27 6 = o_ild 2 7 := rfl
theorem k27_7 : CD 27 7 = o_sta 128 2 10 := rfl
theorem k27_10 : CD 27 10 = o_ifne 20 13 := rfl
theorem k27_13 : CD 27 13 = o_ald 0 14 := rfl
theorem k27_14 : CD 27 14 = o_getR 0 11 17 := rfl
theorem k27_17 : CD 27 17 = o_ild 1 18 := rfl
theorem k27_18 : CD 27 18 = o_iald 19 := rfl
theorem k27_19 : CD 27 19 = o_iret := rfl
theorem k27_20 : CD 27 20 = o_ald 0 21 := rfl
theorem k27_21 : CD 27 21 = o_getR 0 11 24 := rfl
theorem k27_24 : CD 27 24 = o_ild 1 25 := rfl
theorem k27_25 : CD 27 25 = o_iald 26 := rfl
theorem k27_26 : CD 27 26 = o_ald 0 27 := rfl
theorem k27_27 : CD 27 27 = o_getR 0 5 30 := rfl
theorem k27_30 : CD 27 30 = o_getR 1 0 33 := rfl
theorem k27_33 : CD 27 33 = o_ild 2 34 := rfl
theorem k27_34 : CD 27 34 = o_aald 23 35 := rfl
theorem k27_35 : CD 27 35 = o_getI 5 3 38 := rfl
theorem k27_38 : CD 27 38 = o_isub 39 := rfl
theorem k27_39 : CD 27 39 = o_ild 3 40 := rfl
theorem k27_40 : CD 27 40 = o_iadd 41 := rfl
theorem k27_41 : CD 27 41 = o_iret := rfl
theorem k28_0 : CD 28 0 = o_ald 0 1 := rfl
theorem k28_1 : CD 28 1 = o_objinit 4 := rfl
theorem k28_4 : CD 28 4 = o_ald 0 5 := rfl
theorem k28_5 : CD 28 5 = o_push (vi 5) 6 := rfl
theorem k28_6 : CD 28 6 = o_anew 23 9 := rfl
theorem k28_9 : CD 28 9 = o_putR 1 0 12 := rfl
theorem k28_12 : CD 28 12 = o_push (vi 0) 13 := rfl
theorem k28_13 : CD 28 13 = o_ist 1 14 := rfl
theorem k28_14 : CD 28 14 = o_ild 1 15 := rfl
theorem k28_15 : CD 28 15 = o_push (vi 5) 16 := rfl
theorem k28_16 : CD 28 16 = o_icge 38 19 := rfl
theorem k28_19 : CD 28 19 = o_ald 0 20 := rfl
theorem k28_20 : CD 28 20 = o_getR 1 0 23 := rfl
theorem k28_23 : CD 28 23 = o_ild 1 24 := rfl
theorem k28_24 : CD 28 24 = o_new 5 27 := rfl
theorem k28_27 : CD 28 27 = o_dupr 28 := rfl
theorem k28_28 : CD 28 28 = o_inv 5 69 0 31 := rfl
theorem k28_31 : CD 28 31 = o_aast 23 32 := rfl
theorem k28_32 : CD 28 32 = o_iinc 1 1 35 := rfl
theorem k28_35 : CD 28 35 = o_goto 14 := rfl
theorem k28_38 : CD 28 38 = o_vret := rfl
theorem k29_0 : CD 29 0 = o_ild 1 1 := rfl
theorem k29_1 : CD 29 1 = o_iflt 16 4 := rfl
theorem k29_4 : CD 29 4 = o_ild 1 5 := rfl
theorem k29_5 : CD 29 5 = o_ald 0 6 := rfl
theorem k29_6 : CD 29 6 = o_getI 1 1 9 := rfl
theorem k29_9 : CD 29 9 = o_icge 16 12 := rfl
theorem k29_12 : CD 29 12 = o_push (vi 1) 13 := rfl
theorem k29_13 : CD 29 13 = o_goto 17 := rfl
theorem k29_16 : CD 29 16 = o_push (vi 0) 17 := rfl
theorem k29_17 : CD 29 17 = o_zret := rfl
theorem k30_0 : CD 30 0 = o_ald 0 1 := rfl
theorem k30_1 : CD 30 1 = o_getI 1 1 4 := rfl
theorem k30_4 : CD 30 4 = o_push (vi 5) 5 := rfl
theorem k30_5 : CD 30 5 = o_iclt 10 8 := rfl
theorem k30_8 : CD 30 8 = o_ald 1 9 := rfl
theorem k30_9 : CD 30 9 = o_aret := rfl
theorem k30_10 : CD 30 10 = o_ald 0 11 := rfl
theorem k30_11 : CD 30 11 = o_getR 1 0 14 := rfl
theorem k30_14 : CD 30 14 = o_ald 0 15 := rfl
theorem k30_15 : CD 30 15 = o_getI 1 1 18 := rfl
theorem k30_18 : CD 30 18 = o_aald 23 19 := rfl
theorem k30_19 : CD 30 19 = o_ast 2 20 := rfl
theorem k30_20 : CD 30 20 = o_ald 0 21 := rfl
theorem k30_21 : CD 30 21 = o_getR 1 0 24 := rfl
theorem k30_24 : CD 30 24 = o_ald 0 25 := rfl
theorem k30_25 : CD 30 25 = o_getI 1 1 28 := rfl
theorem k30_28 : CD 30 28 = o_ald 1 29 := rfl
theorem k30_29 : CD 30 29 = o_aast 23 30 := rfl
theorem k30_30 : CD 30 30 = o_ald 0 31 := rfl
theorem k30_31 : CD 30 31 = o_dupr 32 := rfl
theorem k30_32 : CD 30 32 = o_getI 1 1 35 := rfl
theorem k30_35 : CD 30 35 = o_push (vi 1) 36 := rfl
theorem k30_36 : CD 30 36 = o_iadd 37 := rfl
theorem k30_37 : CD 30 37 = o_putI 1 1 40 := rfl
theorem k30_40 : CD 30 40 = o_ald 2 41 := rfl
theorem k30_41 : CD 30 41 = o_aret := rfl
theorem k31_0 : CD 31 0 = o_ald 0 1 := rfl
theorem k31_1 : CD 31 1 = o_ild 1 2 := rfl
theorem k31_2 : CD 31 2 = o_inv 1 29 1 5 := rfl
theorem k31_5 : CD 31 5 = o_ifne 9 8 := rfl
theorem k31_8 : CD 31 8 = o_vret := rfl
theorem k31_9 : CD 31 9 = o_ald 0 10 := rfl
theorem k31_10 : CD 31 10 = o_getR 1 0 13 := rfl
theorem k31_13 : CD 31 13 = o_ild 1 14 := rfl
theorem k31_14 : CD 31 14 = o_aald 23 15 := rfl
theorem k31_15 : CD 31 15 = o_ast 2 16 := rfl
theorem k31_16 : CD 31 16 = o_ild 1 17 := rfl
theorem k31_17 : CD 31 17 = o_ist 3 18 := rfl
theorem k31_18 : CD 31 18 = o_ild 3 19 := rfl
theorem k31_19 : CD 31 19 = o_push (vi 1) 20 := rfl
theorem k31_20 : CD 31 20 = o_iadd 21 := rfl
theorem k31_21 : CD 31 21 = o_ald 0 22 := rfl
theorem k31_22 : CD 31 22 = o_getI 1 1 25 := rfl
theorem k31_25 : CD 31 25 = o_icge 48 28 := rfl
theorem k31_28 : CD 31 28 = o_ald 0 29 := rfl
theorem k31_29 : CD 31 29 = o_getR 1 0 32 := rfl
theorem k31_32 : CD 31 32 = o_ild 3 33 := rfl
theorem k31_33 : CD 31 33 = o_ald 0 34 := rfl
theorem k31_34 : CD 31 34 = o_getR 1 0 37 := rfl
theorem k31_37 : CD 31 37 = o_ild 3 38 := rfl
theorem k31_38 : CD 31 38 = o_push (vi 1) 39 := rfl
theorem k31_39 : CD 31 39 = o_iadd 40 := rfl
theorem k31_40 : CD 31 40 = o_aald 23 41 := rfl
theorem k31_41 : CD 31 41 = o_aast 23 42 := rfl
theorem k31_42 : CD 31 42 = o_iinc 3 1 45 := rfl
theorem k31_45 : CD 31 45 = o_goto 18 := rfl
theorem k31_48 : CD 31 48 = o_ald 0 49 := rfl
theorem k31_49 : CD 31 49 = o_dupr 50 := rfl
theorem k31_50 : CD 31 50 = o_getI 1 1 53 := rfl
theorem k31_53 : CD 31 53 = o_push (vi 1) 54 := rfl
theorem k31_54 : CD 31 54 = o_isub 55 := rfl
theorem k31_55 : CD 31 55 = o_putI 1 1 58 := rfl
theorem k31_58 : CD 31 58 = o_ald 0 59 := rfl
theorem k31_59 : CD 31 59 = o_getR 1 0 62 := rfl
theorem k31_62 : CD 31 62 = o_ald 0 63 := rfl
theorem k31_63 : CD 31 63 = o_getI 1 1 66 := rfl
theorem k31_66 : CD 31 66 = o_ald 2 67 := rfl
theorem k31_67 : CD 31 67 = o_aast 23 68 := rfl
theorem k31_68 : CD 31 68 = o_vret := rfl
theorem k32_0 : CD 32 0 = o_ald 0 1 := rfl
theorem k32_1 : CD 32 1 = o_objinit 4 := rfl
theorem k32_4 : CD 32 4 = o_ald 0 5 := rfl
theorem k32_5 : CD 32 5 = o_push (vi 160) 8 := rfl
theorem k32_8 : CD 32 8 = o_newa 20 10 := rfl
theorem k32_10 : CD 32 10 = o_putR 2 0 13 := rfl
theorem k32_13 : CD 32 13 = o_ald 0 14 := rfl
theorem k32_14 : CD 32 14 = o_new 5 17 := rfl
theorem k32_17 : CD 32 17 = o_dupr 18 := rfl
theorem k32_18 : CD 32 18 = o_inv 5 69 0 21 := rfl
theorem k32_21 : CD 32 21 = o_putR 2 2 24 := rfl
theorem k32_24 : CD 32 24 = o_vret := rfl
theorem k33_0 : CD 33 0 = o_push (vi 0) 1 := rfl
theorem k33_1 : CD 33 1 = o_ist 4 3 := rfl
theorem k33_3 : CD 33 3 = o_ild 4 5 := rfl
theorem k33_5 : CD 33 5 = o_ild 3 6 := rfl
theorem k33_6 : CD 33 6 = o_icge 56 9 := rfl
theorem k33_9 : CD 33 9 = o_ald 0 10 := rfl
theorem k33_10 : CD 33 10 = o_getI 2 1 13 := rfl
theorem k33_13 : CD 33 13 = o_push (vi 160) 16 := rfl
theorem k33_16 : CD 33 16 = o_icge 56 19 := rfl
theorem k33_19 : CD 33 19 = o_ald 0 20 := rfl
theorem k33_20 : CD 33 20 = o_getR 2 0 23 := rfl
theorem k33_23 : CD 33 23 = o_ald 0 24 := rfl
theorem k33_24 : CD 33 24 = o_getI 2 1 27 := rfl
theorem k33_27 : CD 33 27 = o_lld 1 28 := rfl
theorem k33_28 : CD 33 28 = o_push (vi 8) 30 := rfl
theorem k33_30 : CD 33 30 = o_ild 4 32 := rfl
theorem k33_32 : CD 33 32 = o_imul 33 := rfl
theorem k33_33 : CD 33 33 = o_lshr 34 := rfl
theorem k33_34 : CD 33 34 = o_push (vl 255) 37 := rfl
theorem k33_37 : CD 33 37 = o_land 38 := rfl
theorem k33_38 : CD 33 38 = o_l2i 39 := rfl
theorem k33_39 : CD 33 39 = o_iast 40 := rfl
theorem k33_40 : CD 33 40 = o_ald 0 41 := rfl
theorem k33_41 : CD 33 41 = o_dupr 42 := rfl
theorem k33_42 : CD 33 42 = o_getI 2 1 45 := rfl
theorem k33_45 : CD 33 45 = o_push (vi 1) 46 := rfl
theorem k33_46 : CD 33 46 = o_iadd 47 := rfl
theorem k33_47 : CD 33 47 = o_putI 2 1 50 := rfl
theorem k33_50 : CD 33 50 = o_iinc 4 1 53 := rfl
theorem k33_53 : CD 33 53 = o_goto 3 := rfl
theorem k33_56 : CD 33 56 = o_vret := rfl
theorem k34_0 : CD 34 0 = o_ald 0 1 := rfl
theorem k34_1 : CD 34 1 = o_push (vi (-1)) 2 := rfl
theorem k34_2 : CD 34 2 = o_putI 2 3 5 := rfl
theorem k34_5 : CD 34 5 = o_ald 0 6 := rfl
theorem k34_6 : CD 34 6 = o_push (vi 0) 7 := rfl
theorem k34_7 : CD 34 7 = o_putI 2 4 10 := rfl
theorem k34_10 : CD 34 10 = o_ald 0 11 := rfl
theorem k34_11 : CD 34 11 = o_push (vi 0) 12 := rfl
theorem k34_12 : CD 34 12 = o_putI 2 7 15 := rfl
theorem k34_15 : CD 34 15 = o_ald 0 16 := rfl
theorem k34_16 : CD 34 16 = o_push (vi 0) 17 := rfl
theorem k34_17 : CD 34 17 = o_putI 2 9 20 := rfl
theorem k34_20 : CD 34 20 = o_ald 0 21 := rfl
theorem k34_21 : CD 34 21 = o_push (vi 0) 22 := rfl
theorem k34_22 : CD 34 22 = o_putI 2 10 25 := rfl
theorem k34_25 : CD 34 25 = o_push (vi 0) 26 := rfl
theorem k34_26 : CD 34 26 = o_ist 2 27 := rfl
theorem k34_27 : CD 34 27 = o_ild 2 28 := rfl
theorem k34_28 : CD 34 28 = o_push (vi 160) 31 := rfl
theorem k34_31 : CD 34 31 = o_icgt 91 34 := rfl
theorem k34_34 : CD 34 34 = o_ald 0 35 := rfl
theorem k34_35 : CD 34 35 = o_inv 2 35 0 38 := rfl
theorem k34_38 : CD 34 38 = o_ald 0 39 := rfl
theorem k34_39 : CD 34 39 = o_ild 1 40 := rfl
theorem k34_40 : CD 34 40 = o_inv 2 40 1 43 := rfl
theorem k34_43 : CD 34 43 = o_ifne 63 46 := rfl
theorem k34_46 : CD 34 46 = o_ald 0 47 := rfl
theorem k34_47 : CD 34 47 = o_ald 0 48 := rfl
theorem k34_48 : CD 34 48 = o_getI 2 6 51 := rfl
theorem k34_51 : CD 34 51 = o_putI 2 3 54 := rfl
theorem k34_54 : CD 34 54 = o_ald 0 55 := rfl
theorem k34_55 : CD 34 55 = o_ald 0 56 := rfl
theorem k34_56 : CD 34 56 = o_inv 2 50 0 59 := rfl
theorem k34_59 : CD 34 59 = o_putI 2 4 62 := rfl
theorem k34_62 : CD 34 62 = o_vret := rfl
theorem k34_63 : CD 34 63 = o_ald 0 64 := rfl
theorem k34_64 : CD 34 64 = o_getI 2 5 67 := rfl
theorem k34_67 : CD 34 67 = o_push (vi 3) 68 := rfl
theorem k34_68 : CD 34 68 = o_icne 85 71 := rfl
theorem k34_71 : CD 34 71 = o_ald 0 72 := rfl
theorem k34_72 : CD 34 72 = o_getR 2 2 75 := rfl
theorem k34_75 : CD 34 75 = o_ald 0 76 := rfl
theorem k34_76 : CD 34 76 = o_getI 2 10 79 := rfl
theorem k34_79 : CD 34 79 = o_push (vi 1) 80 := rfl
theorem k34_80 : CD 34 80 = o_iadd 81 := rfl
theorem k34_81 : CD 34 81 = o_putI 5 4 84 := rfl
theorem k34_84 : CD 34 84 = o_vret := rfl
theorem k34_85 : CD 34 85 = o_iinc 2 1 88 := rfl
theorem k34_88 : CD 34 88 = o_goto 27 := rfl
theorem k34_91 : CD 34 91 = o_vret := rfl
theorem k35_0 : CD 35 0 = o_ald 0 1 := rfl
theorem k35_1 : CD 35 1 = o_getI 2 7 4 := rfl
theorem k35_4 : CD 35 4 = o_ist 1 5 := rfl
theorem k35_5 : CD 35 5 = o_ild 1 6 := rfl
theorem k35_6 : CD 35 6 = o_ald 0 7 := rfl
theorem k35_7 : CD 35 7 = o_getI 2 1 10 := rfl
theorem k35_10 : CD 35 10 = o_icge 30 13 := rfl
theorem k35_13 : CD 35 13 = o_ald 0 14 := rfl
theorem k35_14 : CD 35 14 = o_getR 2 0 17 := rfl
theorem k35_17 : CD 35 17 = o_ild 1 18 := rfl
theorem k35_18 : CD 35 18 = o_iald 19 := rfl
theorem k35_19 : CD 35 19 = o_push (vi 32) 21 := rfl
theorem k35_21 : CD 35 21 = o_icne 30 24 := rfl
theorem k35_24 : CD 35 24 = o_iinc 1 1 27 := rfl
theorem k35_27 : CD 35 27 = o_goto 5 := rfl
theorem k35_30 : CD 35 30 = o_ald 0 31 := rfl
theorem k35_31 : CD 35 31 = o_ild 1 32 := rfl
theorem k35_32 : CD 35 32 = o_putI 2 6 35 := rfl
theorem k35_35 : CD 35 35 = o_ild 1 36 := rfl
theorem k35_36 : CD 35 36 = o_ald 0 37 := rfl
theorem k35_37 : CD 35 37 = o_getI 2 1 40 := rfl
theorem k35_40 : CD 35 40 = o_iclt 56 43 := rfl
theorem k35_43 : CD 35 43 = o_ald 0 44 := rfl
theorem k35_44 : CD 35 44 = o_ild 1 45 := rfl
theorem k35_45 : CD 35 45 = o_putI 2 7 48 := rfl
theorem k35_48 : CD 35 48 = o_ald 0 49 := rfl
theorem k35_49 : CD 35 49 = o_push (vi 3) 50 := rfl
theorem k35_50 : CD 35 50 = o_putI 2 5 53 := rfl
theorem k35_53 : CD 35 53 = o_goto 132 := rfl
theorem k35_56 : CD 35 56 = o_ald 0 57 := rfl
theorem k35_57 : CD 35 57 = o_getR 2 0 60 := rfl
theorem k35_60 : CD 35 60 = o_ild 1 61 := rfl
theorem k35_61 : CD 35 61 = o_iald 62 := rfl
theorem k35_62 : CD 35 62 = o_sta 38 1 65 := rfl
theorem k35_65 : CD 35 65 = o_ifeq 75 68 := rfl
theorem k35_68 : CD 35 68 = o_ald 0 69 := rfl
theorem k35_69 : CD 35 69 = o_inv 2 36 0 72 := rfl
theorem k35_72 : CD 35 72 = o_goto 132 := rfl
theorem k35_75 : CD 35 75 = o_ald 0 76 := rfl
theorem k35_76 : CD 35 76 = o_getR 2 0 79 := rfl
theorem k35_79 : CD 35 79 = o_ild 1 80 := rfl
theorem k35_80 : CD 35 80 = o_iald 81 := rfl
theorem k35_81 : CD 35 81 = o_sta 39 1 84 := rfl
theorem k35_84 : CD 35 84 = o_ifeq 94 87 := rfl
theorem k35_87 : CD 35 87 = o_ald 0 88 := rfl
theorem k35_88 : CD 35 88 = o_inv 2 37 0 91 := rfl
theorem k35_91 : CD 35 91 = o_goto 132 := rfl
theorem k35_94 : CD 35 94 = o_ald 0 95 := rfl
theorem k35_95 : CD 35 95 = o_ild 1 96 := rfl
theorem k35_96 : CD 35 96 = o_push (vi 1) 97 := rfl
theorem k35_97 : CD 35 97 = o_iadd 98 := rfl
theorem k35_98 : CD 35 98 = o_putI 2 7 101 := rfl
theorem k35_101 : CD 35 101 = o_ald 0 102 := rfl
theorem k35_102 : CD 35 102 = o_ald 0 103 := rfl
theorem k35_103 : CD 35 103 = o_getR 2 0 106 := rfl
theorem k35_106 : CD 35 106 = o_ild 1 107 := rfl
theorem k35_107 : CD 35 107 = o_iald 108 := rfl
theorem k35_108 : CD 35 108 = o_push (vi 58) 110 := rfl
theorem k35_110 : CD 35 110 = o_iceq 124 113 := rfl
theorem k35_113 : CD 35 113 = o_ald 0 114 := rfl
theorem k35_114 : CD 35 114 = o_getR 2 0 117 := rfl
theorem k35_117 : CD 35 117 = o_ild 1 118 := rfl
theorem k35_118 : CD 35 118 = o_iald 119 := rfl
theorem k35_119 : CD 35 119 = o_push (vi 44) 121 := rfl
theorem k35_121 : CD 35 121 = o_icne 128 124 := rfl
theorem k35_124 : CD 35 124 = o_push (vi 2) 125 := rfl
theorem k35_125 : CD 35 125 = o_goto 129 := rfl
theorem k35_128 : CD 35 128 = o_push (vi 4) 129 := rfl
theorem k35_129 : CD 35 129 = o_putI 2 5 132 := rfl
theorem k35_132 : CD 35 132 = o_vret := rfl
theorem k36_0 : CD 36 0 = o_ald 0 1 := rfl
theorem k36_1 : CD 36 1 = o_getI 2 6 4 := rfl
theorem k36_4 : CD 36 4 = o_ist 1 5 := rfl
theorem k36_5 : CD 36 5 = o_ild 1 6 := rfl
theorem k36_6 : CD 36 6 = o_ald 0 7 := rfl
theorem k36_7 : CD 36 7 = o_getI 2 1 10 := rfl
theorem k36_10 : CD 36 10 = o_icge 31 13 := rfl
theorem k36_13 : CD 36 13 = o_ald 0 14 := rfl
theorem k36_14 : CD 36 14 = o_getR 2 0 17 := rfl
theorem k36_17 : CD 36 17 = o_ild 1 18 := rfl
theorem k36_18 : CD 36 18 = o_iald 19 := rfl
theorem k36_19 : CD 36 19 = o_sta 38 1 22 := rfl
theorem k36_22 : CD 36 22 = o_ifeq 31 25 := rfl
theorem k36_25 : CD 36 25 = o_iinc 1 1 28 := rfl
theorem k36_28 : CD 36 28 = o_goto 5 := rfl
theorem k36_31 : CD 36 31 = o_ald 0 32 := rfl
theorem k36_32 : CD 36 32 = o_ild 1 33 := rfl
theorem k36_33 : CD 36 33 = o_putI 2 7 36 := rfl
theorem k36_36 : CD 36 36 = o_ald 0 37 := rfl
theorem k36_37 : CD 36 37 = o_push (vi 0) 38 := rfl
theorem k36_38 : CD 36 38 = o_putI 2 5 41 := rfl
theorem k36_41 : CD 36 41 = o_vret := rfl
theorem k37_0 : CD 37 0 = o_ald 0 1 := rfl
theorem k37_1 : CD 37 1 = o_getI 2 6 4 := rfl
theorem k37_4 : CD 37 4 = o_ist 1 5 := rfl
theorem k37_5 : CD 37 5 = o_ald 0 6 := rfl
theorem k37_6 : CD 37 6 = o_push (vi 0) 7 := rfl
theorem k37_7 : CD 37 7 = o_putI 2 8 10 := rfl
theorem k37_10 : CD 37 10 = o_ild 1 11 := rfl
theorem k37_11 : CD 37 11 = o_ald 0 12 := rfl
theorem k37_12 : CD 37 12 = o_getI 2 1 15 := rfl
theorem k37_15 : CD 37 15 = o_icge 57 18 := rfl
theorem k37_18 : CD 37 18 = o_ald 0 19 := rfl
theorem k37_19 : CD 37 19 = o_getR 2 0 22 := rfl
theorem k37_22 : CD 37 22 = o_ild 1 23 := rfl
theorem k37_23 : CD 37 23 = o_iald 24 := rfl
theorem k37_24 : CD 37 24 = o_sta 39 1 27 := rfl
theorem k37_27 : CD 37 27 = o_ifeq 57 30 := rfl
theorem k37_30 : CD 37 30 = o_ald 0 31 := rfl
theorem k37_31 : CD 37 31 = o_ald 0 32 := rfl
theorem k37_32 : CD 37 32 = o_getI 2 8 35 := rfl
theorem k37_35 : CD 37 35 = o_push (vi 10) 37 := rfl
theorem k37_37 : CD 37 37 = o_imul 38 := rfl
theorem k37_38 : CD 37 38 = o_ald 0 39 := rfl
theorem k37_39 : CD 37 39 = o_getR 2 0 42 := rfl
theorem k37_42 : CD 37 42 = o_ild 1 43 := rfl
theorem k37_43 : CD 37 43 = o_iald 44 := rfl
theorem k37_44 : CD 37 44 = o_iadd 45 := rfl
theorem k37_45 : CD 37 45 = o_push (vi 48) 47 := rfl
theorem k37_47 : CD 37 47 = o_isub 48 := rfl
theorem k37_48 : CD 37 48 = o_putI 2 8 51 := rfl
theorem k37_51 : CD 37 51 = o_iinc 1 1 54 := rfl
theorem k37_54 : CD 37 54 = o_goto 10 := rfl
theorem k37_57 : CD 37 57 = o_ald 0 58 := rfl
theorem k37_58 : CD 37 58 = o_ild 1 59 := rfl
theorem k37_59 : CD 37 59 = o_putI 2 7 62 := rfl
theorem k37_62 : CD 37 62 = o_ald 0 63 := rfl
theorem k37_63 : CD 37 63 = o_ild 1 64 := rfl
theorem k37_64 : CD 37 64 = o_ald 0 65 := rfl
theorem k37_65 : CD 37 65 = o_getI 2 6 68 := rfl
theorem k37_68 : CD 37 68 = o_isub 69 := rfl
theorem k37_69 : CD 37 69 = o_push (vi 2) 70 := rfl
theorem k37_70 : CD 37 70 = o_icle 77 73 := rfl
theorem k37_73 : CD 37 73 = o_push (vi 4) 74 := rfl
theorem k37_74 : CD 37 74 = o_goto 78 := rfl
theorem k37_77 : CD 37 77 = o_push (vi 1) 78 := rfl
theorem k37_78 : CD 37 78 = o_putI 2 5 81 := rfl
theorem k37_81 : CD 37 81 = o_vret := rfl
theorem k38_0 : CD 38 0 = o_ild 0 1 := rfl
theorem k38_1 : CD 38 1 = o_push (vi 97) 3 := rfl
theorem k38_3 : CD 38 3 = o_iclt 16 6 := rfl
theorem k38_6 : CD 38 6 = o_ild 0 7 := rfl
theorem k38_7 : CD 38 7 = o_push (vi 122) 9 := rfl
theorem k38_9 : CD 38 9 = o_icgt 16 12 := rfl
theorem k38_12 : CD 38 12 = o_push (vi 1) 13 := rfl
theorem k38_13 : CD 38 13 = o_goto 17 := rfl
theorem k38_16 : CD 38 16 = o_push (vi 0) 17 := rfl
theorem k38_17 : CD 38 17 = o_zret := rfl
theorem k39_0 : CD 39 0 = o_ild 0 1 := rfl
theorem k39_1 : CD 39 1 = o_push (vi 48) 3 := rfl
theorem k39_3 : CD 39 3 = o_iclt 16 6 := rfl
theorem k39_6 : CD 39 6 = o_ild 0 7 := rfl
theorem k39_7 : CD 39 7 = o_push (vi 57) 9 := rfl
theorem k39_9 : CD 39 9 = o_icgt 16 12 := rfl
theorem k39_12 : CD 39 12 = o_push (vi 1) 13 := rfl
theorem k39_13 : CD 39 13 = o_goto 17 := rfl
theorem k39_16 : CD 39 16 = o_push (vi 0) 17 := rfl
theorem k39_17 : CD 39 17 = o_zret := rfl
theorem k40_0 : CD 40 0 = o_ald 0 1 := rfl
theorem k40_1 : CD 40 1 = o_getI 2 5 4 := rfl
theorem k40_4 : CD 40 4 = o_tsw 0 [36, 41, 47, 52] 76 := rfl
theorem k40_36 : CD 40 36 = o_ald 0 37 := rfl
theorem k40_37 : CD 40 37 = o_inv 2 41 0 40 := rfl
theorem k40_40 : CD 40 40 = o_zret := rfl
theorem k40_41 : CD 40 41 = o_ald 0 42 := rfl
theorem k40_42 : CD 40 42 = o_ild 1 43 := rfl
theorem k40_43 : CD 40 43 = o_inv 2 42 1 46 := rfl
theorem k40_46 : CD 40 46 = o_zret := rfl
theorem k40_47 : CD 40 47 = o_ald 0 48 := rfl
theorem k40_48 : CD 40 48 = o_inv 2 43 0 51 := rfl
theorem k40_51 : CD 40 51 = o_zret := rfl
theorem k40_52 : CD 40 52 = o_ald 0 53 := rfl
theorem k40_53 : CD 40 53 = o_getI 2 9 56 := rfl
theorem k40_56 : CD 40 56 = o_push (vi 15) 58 := rfl
theorem k40_58 : CD 40 58 = o_iceq 70 61 := rfl
theorem k40_61 : CD 40 61 = o_ald 0 62 := rfl
theorem k40_62 : CD 40 62 = o_getI 2 9 65 := rfl
theorem k40_65 : CD 40 65 = o_push (vi 16) 67 := rfl
theorem k40_67 : CD 40 67 = o_icne 74 70 := rfl
theorem k40_70 : CD 40 70 = o_push (vi 1) 71 := rfl
theorem k40_71 : CD 40 71 = o_goto 75 := rfl
theorem k40_74 : CD 40 74 = o_push (vi 0) 75 := rfl
theorem k40_75 : CD 40 75 = o_zret := rfl
theorem k40_76 : CD 40 76 = o_push (vi 0) 77 := rfl
theorem k40_77 : CD 40 77 = o_zret := rfl
theorem k41_0 : CD 41 0 = o_ald 0 1 := rfl
theorem k41_1 : CD 41 1 = o_ald 0 2 := rfl
theorem k41_2 : CD 41 2 = o_getI 2 9 5 := rfl
theorem k41_5 : CD 41 5 = o_sta 45 1 8 := rfl
theorem k41_8 : CD 41 8 = o_inv 2 44 1 11 := rfl
theorem k41_11 : CD 41 11 = o_ifne 16 14 := rfl
theorem k41_14 : CD 41 14 = o_push (vi 0) 15 := rfl
theorem k41_15 : CD 41 15 = o_zret := rfl
theorem k41_16 : CD 41 16 = o_ald 0 17 := rfl
theorem k41_17 : CD 41 17 = o_getI 2 9 20 := rfl
theorem k41_20 : CD 41 20 = o_push (vi 15) 22 := rfl
theorem k41_22 : CD 41 22 = o_icne 41 25 := rfl
theorem k41_25 : CD 41 25 = o_ald 0 26 := rfl
theorem k41_26 : CD 41 26 = o_getR 2 2 29 := rfl
theorem k41_29 : CD 41 29 = o_getR 5 5 32 := rfl
theorem k41_32 : CD 41 32 = o_ald 0 33 := rfl
theorem k41_33 : CD 41 33 = o_getI 2 10 36 := rfl
theorem k41_36 : CD 41 36 = o_aald 24 37 := rfl
theorem k41_37 : CD 41 37 = o_push (vi 1) 38 := rfl
theorem k41_38 : CD 41 38 = o_putZ 6 3 41 := rfl
theorem k41_41 : CD 41 41 = o_ald 0 42 := rfl
theorem k41_42 : CD 41 42 = o_dupr 43 := rfl
theorem k41_43 : CD 41 43 = o_getI 2 9 46 := rfl
theorem k41_46 : CD 41 46 = o_push (vi 1) 47 := rfl
theorem k41_47 : CD 41 47 = o_iadd 48 := rfl
theorem k41_48 : CD 41 48 = o_putI 2 9 51 := rfl
theorem k41_51 : CD 41 51 = o_push (vi 1) 52 := rfl
theorem k41_52 : CD 41 52 = o_zret := rfl
theorem k42_0 : CD 42 0 = o_ald 0 1 := rfl
theorem k42_1 : CD 42 1 = o_getI 2 9 4 := rfl
theorem k42_4 : CD 42 4 = o_sta 46 1 7 := rfl
theorem k42_7 : CD 42 7 = o_ifeq 33 10 := rfl
theorem k42_10 : CD 42 10 = o_ald 0 11 := rfl
theorem k42_11 : CD 42 11 = o_getI 2 8 14 := rfl
theorem k42_14 : CD 42 14 = o_ald 0 15 := rfl
theorem k42_15 : CD 42 15 = o_inv 2 47 0 18 := rfl
theorem k42_18 : CD 42 18 = o_iclt 33 21 := rfl
theorem k42_21 : CD 42 21 = o_ald 0 22 := rfl
theorem k42_22 : CD 42 22 = o_getI 2 8 25 := rfl
theorem k42_25 : CD 42 25 = o_ald 0 26 := rfl
theorem k42_26 : CD 42 26 = o_ild 1 27 := rfl
theorem k42_27 : CD 42 27 = o_inv 2 48 1 30 := rfl
theorem k42_30 : CD 42 30 = o_icle 35 33 := rfl
theorem k42_33 : CD 42 33 = o_push (vi 0) 34 := rfl
theorem k42_34 : CD 42 34 = o_zret := rfl
theorem k42_35 : CD 42 35 = o_ald 0 36 := rfl
theorem k42_36 : CD 42 36 = o_inv 2 49 0 39 := rfl
theorem k42_39 : CD 42 39 = o_ald 0 40 := rfl
theorem k42_40 : CD 42 40 = o_dupr 41 := rfl
theorem k42_41 : CD 42 41 = o_getI 2 9 44 := rfl
theorem k42_44 : CD 42 44 = o_push (vi 1) 45 := rfl
theorem k42_45 : CD 42 45 = o_iadd 46 := rfl
theorem k42_46 : CD 42 46 = o_putI 2 9 49 := rfl
theorem k42_49 : CD 42 49 = o_push (vi 1) 50 := rfl
theorem k42_50 : CD 42 50 = o_zret := rfl
theorem k43_0 : CD 43 0 = o_ald 0 1 := rfl
theorem k43_1 : CD 43 1 = o_getR 2 0 4 := rfl
theorem k43_4 : CD 43 4 = o_ald 0 5 := rfl
theorem k43_5 : CD 43 5 = o_getI 2 6 8 := rfl
theorem k43_8 : CD 43 8 = o_iald 9 := rfl
theorem k43_9 : CD 43 9 = o_ist 1 10 := rfl
theorem k43_10 : CD 43 10 = o_ald 0 11 := rfl
theorem k43_11 : CD 43 11 = o_getI 2 9 14 := rfl
theorem k43_14 : CD 43 14 = o_push (vi 8) 16 := rfl
theorem k43_16 : CD 43 16 = o_icne 25 19 := rfl
theorem k43_19 : CD 43 19 = o_ild 1 20 := rfl
theorem k43_20 : CD 43 20 = o_push (vi 58) 22 := rfl
theorem k43_22 : CD 43 22 = o_iceq 40 25 := rfl
theorem k43_25 : CD 43 25 = o_ald 0 26 := rfl
theorem k43_26 : CD 43 26 = o_getI 2 9 29 := rfl
theorem k43_29 : CD 43 29 = o_push (vi 21) 31 := rfl
theorem k43_31 : CD 43 31 = o_icne 48 34 := rfl
theorem k43_34 : CD 43 34 = o_ild 1 35 := rfl
theorem k43_35 : CD 43 35 = o_push (vi 44) 37 := rfl
theorem k43_37 : CD 43 37 = o_icne 48 40 := rfl
theorem k43_40 : CD 43 40 = o_ald 0 41 := rfl
theorem k43_41 : CD 43 41 = o_push (vi 9) 43 := rfl
theorem k43_43 : CD 43 43 = o_putI 2 9 46 := rfl
theorem k43_46 : CD 43 46 = o_push (vi 1) 47 := rfl
theorem k43_47 : CD 43 47 = o_zret := rfl
theorem k43_48 : CD 43 48 = o_ald 0 49 := rfl
theorem k43_49 : CD 43 49 = o_getI 2 9 52 := rfl
theorem k43_52 : CD 43 52 = o_push (vi 15) 54 := rfl
theorem k43_54 : CD 43 54 = o_iceq 66 57 := rfl
theorem k43_57 : CD 43 57 = o_ald 0 58 := rfl
theorem k43_58 : CD 43 58 = o_getI 2 9 61 := rfl
theorem k43_61 : CD 43 61 = o_push (vi 16) 63 := rfl
theorem k43_63 : CD 43 63 = o_icne 100 66 := rfl
theorem k43_66 : CD 43 66 = o_ild 1 67 := rfl
theorem k43_67 : CD 43 67 = o_push (vi 44) 69 := rfl
theorem k43_69 : CD 43 69 = o_icne 100 72 := rfl
theorem k43_72 : CD 43 72 = o_ald 0 73 := rfl
theorem k43_73 : CD 43 73 = o_getI 2 10 76 := rfl
theorem k43_76 : CD 43 76 = o_push (vi 1) 77 := rfl
theorem k43_77 : CD 43 77 = o_iadd 78 := rfl
theorem k43_78 : CD 43 78 = o_push (vi 3) 79 := rfl
theorem k43_79 : CD 43 79 = o_icge 100 82 := rfl
theorem k43_82 : CD 43 82 = o_ald 0 83 := rfl
theorem k43_83 : CD 43 83 = o_dupr 84 := rfl
theorem k43_84 : CD 43 84 = o_getI 2 10 87 := rfl
theorem k43_87 : CD 43 87 = o_push (vi 1) 88 := rfl
theorem k43_88 : CD 43 88 = o_iadd 89 := rfl
theorem k43_89 : CD 43 89 = o_putI 2 10 92 := rfl
theorem k43_92 : CD 43 92 = o_ald 0 93 := rfl
theorem k43_93 : CD 43 93 = o_push (vi 17) 95 := rfl
theorem k43_95 : CD 43 95 = o_putI 2 9 98 := rfl
theorem k43_98 : CD 43 98 = o_push (vi 1) 99 := rfl
theorem k43_99 : CD 43 99 = o_zret := rfl
theorem k43_100 : CD 43 100 = o_push (vi 0) 101 := rfl
theorem k43_101 : CD 43 101 = o_zret := rfl
theorem k44_0 : CD 44 0 = o_ald 0 1 := rfl
theorem k44_1 : CD 44 1 = o_getI 2 7 4 := rfl
theorem k44_4 : CD 44 4 = o_ald 0 5 := rfl
theorem k44_5 : CD 44 5 = o_getI 2 6 8 := rfl
theorem k44_8 : CD 44 8 = o_isub 9 := rfl
theorem k44_9 : CD 44 9 = o_ist 2 10 := rfl
theorem k44_10 : CD 44 10 = o_ild 2 11 := rfl
theorem k44_11 : CD 44 11 = o_ald 1 12 := rfl
theorem k44_12 : CD 44 12 = o_strlen 15 := rfl
theorem k44_15 : CD 44 15 = o_iceq 20 18 := rfl
theorem k44_18 : CD 44 18 = o_push (vi 0) 19 := rfl
theorem k44_19 : CD 44 19 = o_zret := rfl
theorem k44_20 : CD 44 20 = o_push (vi 0) 21 := rfl
theorem k44_21 : CD 44 21 = o_ist 3 22 := rfl
theorem k44_22 : CD 44 22 = o_ild 3 23 := rfl
theorem k44_23 : CD 44 23 = o_ild 2 24 := rfl
theorem k44_24 : CD 44 24 = o_icge 54 27 := rfl
theorem k44_27 : CD 44 27 = o_ald 0 28 := rfl
theorem k44_28 : CD 44 28 = o_getR 2 0 31 := rfl
theorem k44_31 : CD 44 31 = o_ald 0 32 := rfl
theorem k44_32 : CD 44 32 = o_getI 2 6 35 := rfl
theorem k44_35 : CD 44 35 = o_ild 3 36 := rfl
theorem k44_36 : CD 44 36 = o_iadd 37 := rfl
theorem k44_37 : CD 44 37 = o_iald 38 := rfl
theorem k44_38 : CD 44 38 = o_ald 1 39 := rfl
theorem k44_39 : CD 44 39 = o_ild 3 40 := rfl
theorem k44_40 : CD 44 40 = o_charAt 43 := rfl
theorem k44_43 : CD 44 43 = o_iceq 48 46 := rfl
theorem k44_46 : CD 44 46 = o_push (vi 0) 47 := rfl
theorem k44_47 : CD 44 47 = o_zret := rfl
theorem k44_48 : CD 44 48 = o_iinc 3 1 51 := rfl
theorem k44_51 : CD 44 51 = o_goto 22 := rfl
theorem k44_54 : CD 44 54 = o_push (vi 1) 55 := rfl
theorem k44_55 : CD 44 55 = o_zret := rfl
theorem k45_0 : CD 45 0 = o_ild 0 1 := rfl
theorem k45_1 : CD 45 1 = o_tsw 0 [96, 126, 99, 126, 102, 126, 105, 126, 126, 108, 126, 111, 126, 114, 126, 117, 126, 120, 126, 123] 126 := rfl
theorem k45_96 : CD 45 96 = o_push (vr 2) 98 := rfl
theorem k45_98 : CD 45 98 = o_aret := rfl
theorem k45_99 : CD 45 99 = o_push (vr 3) 101 := rfl
theorem k45_101 : CD 45 101 = o_aret := rfl
theorem k45_102 : CD 45 102 = o_push (vr 4) 104 := rfl
theorem k45_104 : CD 45 104 = o_aret := rfl
theorem k45_105 : CD 45 105 = o_push (vr 5) 107 := rfl
theorem k45_107 : CD 45 107 = o_aret := rfl
theorem k45_108 : CD 45 108 = o_push (vr 6) 110 := rfl
theorem k45_110 : CD 45 110 = o_aret := rfl
theorem k45_111 : CD 45 111 = o_push (vr 7) 113 := rfl
theorem k45_113 : CD 45 113 = o_aret := rfl
theorem k45_114 : CD 45 114 = o_push (vr 8) 116 := rfl
theorem k45_116 : CD 45 116 = o_aret := rfl
theorem k45_117 : CD 45 117 = o_push (vr 9) 119 := rfl
theorem k45_119 : CD 45 119 = o_aret := rfl
theorem k45_120 : CD 45 120 = o_push (vr 10) 122 := rfl
theorem k45_122 : CD 45 122 = o_aret := rfl
theorem k45_123 : CD 45 123 = o_push (vr 11) 125 := rfl
theorem k45_125 : CD 45 125 = o_aret := rfl
theorem k45_126 : CD 45 126 = o_push (vr 12) 128 := rfl
theorem k45_128 : CD 45 128 = o_aret := rfl
theorem k46_0 : CD 46 0 = o_ild 0 1 := rfl
theorem k46_1 : CD 46 1 = o_tsw 1 [96, 98, 96, 98, 96, 98, 96, 98, 98, 96, 98, 96, 98, 96, 98, 98, 98, 96, 98, 96] 98 := rfl
theorem k46_96 : CD 46 96 = o_push (vi 1) 97 := rfl
theorem k46_97 : CD 46 97 = o_zret := rfl
theorem k46_98 : CD 46 98 = o_push (vi 0) 99 := rfl
theorem k46_99 : CD 46 99 = o_zret := rfl
theorem k47_0 : CD 47 0 = o_ald 0 1 := rfl
theorem k47_1 : CD 47 1 = o_getI 2 9 4 := rfl
theorem k47_4 : CD 47 4 = o_lsw [(7, 40), (10, 40), (20, 42)] 58 := rfl
theorem k47_40 : CD 47 40 = o_push (vi 1) 41 := rfl
theorem k47_41 : CD 47 41 = o_iret := rfl
theorem k47_42 : CD 47 42 = o_ald 0 43 := rfl
theorem k47_43 : CD 47 43 = o_getR 2 2 46 := rfl
theorem k47_46 : CD 47 46 = o_getR 5 5 49 := rfl
theorem k47_49 : CD 47 49 = o_ald 0 50 := rfl
theorem k47_50 : CD 47 50 = o_getI 2 10 53 := rfl
theorem k47_53 : CD 47 53 = o_aald 24 54 := rfl
theorem k47_54 : CD 47 54 = o_getI 6 4 57 := rfl
theorem k47_57 : CD 47 57 = o_iret := rfl
theorem k47_58 : CD 47 58 = o_push (vi 0) 59 := rfl
theorem k47_59 : CD 47 59 = o_iret := rfl
theorem k48_0 : CD 48 0 = o_ald 0 1 := rfl
theorem k48_1 : CD 48 1 = o_getI 2 9 4 := rfl
theorem k48_4 : CD 48 4 = o_tsw 1 [92, 113, 94, 113, 96, 113, 100, 113, 113, 103, 113, 105, 113, 107, 113, 113, 113, 110] 113 := rfl
theorem k48_92 : CD 48 92 = o_push (vi 3) 93 := rfl
theorem k48_93 : CD 48 93 = o_iret := rfl
theorem k48_94 : CD 48 94 = o_push (vi 2) 95 := rfl
theorem k48_95 : CD 48 95 = o_iret := rfl
theorem k48_96 : CD 48 96 = o_ild 1 97 := rfl
theorem k48_97 : CD 48 97 = o_push (vi 1) 98 := rfl
theorem k48_98 : CD 48 98 = o_isub 99 := rfl
theorem k48_99 : CD 48 99 = o_iret := rfl
theorem k48_100 : CD 48 100 = o_push (vi 99) 102 := rfl
theorem k48_102 : CD 48 102 = o_iret := rfl
theorem k48_103 : CD 48 103 = o_push (vi 4) 104 := rfl
theorem k48_104 : CD 48 104 = o_iret := rfl
theorem k48_105 : CD 48 105 = o_push (vi 3) 106 := rfl
theorem k48_106 : CD 48 106 = o_iret := rfl
theorem k48_107 : CD 48 107 = o_push (vi 8) 109 := rfl
theorem k48_109 : CD 48 109 = o_iret := rfl
theorem k48_110 : CD 48 110 = o_push (vi 6) 112 := rfl
theorem k48_112 : CD 48 112 = o_iret := rfl
theorem k48_113 : CD 48 113 = o_ald 0 114 := rfl
theorem k48_114 : CD 48 114 = o_getR 2 2 117 := rfl
theorem k48_117 : CD 48 117 = o_getR 5 5 120 := rfl
theorem k48_120 : CD 48 120 = o_ald 0 121 := rfl
theorem k48_121 : CD 48 121 = o_getI 2 10 124 := rfl
theorem k48_124 : CD 48 124 = o_aald 24 125 := rfl
theorem k48_125 : CD 48 125 = o_getI 6 4 128 := rfl
theorem k48_128 : CD 48 128 = o_push (vi 3) 129 := rfl
theorem k48_129 : CD 48 129 = o_iadd 130 := rfl
theorem k48_130 : CD 48 130 = o_iret := rfl
theorem k49_0 : CD 49 0 = o_ald 0 1 := rfl
theorem k49_1 : CD 49 1 = o_getR 2 2 4 := rfl
theorem k49_4 : CD 49 4 = o_getR 5 5 7 := rfl
theorem k49_7 : CD 49 7 = o_ald 0 8 := rfl
theorem k49_8 : CD 49 8 = o_getI 2 10 11 := rfl
theorem k49_11 : CD 49 11 = o_aald 24 12 := rfl
theorem k49_12 : CD 49 12 = o_ast 1 13 := rfl
theorem k49_13 : CD 49 13 = o_ald 0 14 := rfl
theorem k49_14 : CD 49 14 = o_getI 2 9 17 := rfl
theorem k49_17 : CD 49 17 = o_tsw 1 [104, 209, 118, 209, 132, 209, 146, 209, 209, 160, 209, 171, 209, 182, 209, 209, 209, 198] 209 := rfl
theorem k49_104 : CD 49 104 = o_ald 0 105 := rfl
theorem k49_105 : CD 49 105 = o_getR 2 2 108 := rfl
theorem k49_108 : CD 49 108 = o_ald 0 109 := rfl
theorem k49_109 : CD 49 109 = o_getI 2 8 112 := rfl
theorem k49_112 : CD 49 112 = o_putI 5 0 115 := rfl
theorem k49_115 : CD 49 115 = o_goto 217 := rfl
theorem k49_118 : CD 49 118 = o_ald 0 119 := rfl
theorem k49_119 : CD 49 119 = o_getR 2 2 122 := rfl
theorem k49_122 : CD 49 122 = o_ald 0 123 := rfl
theorem k49_123 : CD 49 123 = o_getI 2 8 126 := rfl
theorem k49_126 : CD 49 126 = o_putI 5 1 129 := rfl
theorem k49_129 : CD 49 129 = o_goto 217 := rfl
theorem k49_132 : CD 49 132 = o_ald 0 133 := rfl
theorem k49_133 : CD 49 133 = o_getR 2 2 136 := rfl
theorem k49_136 : CD 49 136 = o_ald 0 137 := rfl
theorem k49_137 : CD 49 137 = o_getI 2 8 140 := rfl
theorem k49_140 : CD 49 140 = o_putI 5 2 143 := rfl
theorem k49_143 : CD 49 143 = o_goto 217 := rfl
theorem k49_146 : CD 49 146 = o_ald 0 147 := rfl
theorem k49_147 : CD 49 147 = o_getR 2 2 150 := rfl
theorem k49_150 : CD 49 150 = o_ald 0 151 := rfl
theorem k49_151 : CD 49 151 = o_getI 2 8 154 := rfl
theorem k49_154 : CD 49 154 = o_putI 5 3 157 := rfl
theorem k49_157 : CD 49 157 = o_goto 217 := rfl
theorem k49_160 : CD 49 160 = o_ald 1 161 := rfl
theorem k49_161 : CD 49 161 = o_ald 0 162 := rfl
theorem k49_162 : CD 49 162 = o_getI 2 8 165 := rfl
theorem k49_165 : CD 49 165 = o_putI 6 0 168 := rfl
theorem k49_168 : CD 49 168 = o_goto 217 := rfl
theorem k49_171 : CD 49 171 = o_ald 1 172 := rfl
theorem k49_172 : CD 49 172 = o_ald 0 173 := rfl
theorem k49_173 : CD 49 173 = o_getI 2 8 176 := rfl
theorem k49_176 : CD 49 176 = o_putI 6 1 179 := rfl
theorem k49_179 : CD 49 179 = o_goto 217 := rfl
theorem k49_182 : CD 49 182 = o_ald 1 183 := rfl
theorem k49_183 : CD 49 183 = o_ald 0 184 := rfl
theorem k49_184 : CD 49 184 = o_getI 2 8 187 := rfl
theorem k49_187 : CD 49 187 = o_putI 6 2 190 := rfl
theorem k49_190 : CD 49 190 = o_ald 1 191 := rfl
theorem k49_191 : CD 49 191 = o_push (vi 0) 192 := rfl
theorem k49_192 : CD 49 192 = o_putZ 6 3 195 := rfl
theorem k49_195 : CD 49 195 = o_goto 217 := rfl
theorem k49_198 : CD 49 198 = o_ald 1 199 := rfl
theorem k49_199 : CD 49 199 = o_ald 0 200 := rfl
theorem k49_200 : CD 49 200 = o_getI 2 8 203 := rfl
theorem k49_203 : CD 49 203 = o_putI 6 4 206 := rfl
theorem k49_206 : CD 49 206 = o_goto 217 := rfl
theorem k49_209 : CD 49 209 = o_ald 1 210 := rfl
theorem k49_210 : CD 49 210 = o_ald 0 211 := rfl
theorem k49_211 : CD 49 211 = o_getI 2 8 214 := rfl
theorem k49_214 : CD 49 214 = o_putI 6 5 217 := rfl
theorem k49_217 : CD 49 217 = o_vret := rfl
theorem k50_0 : CD 50 0 = o_ald 0 1 := rfl
theorem k50_1 : CD 50 1 = o_getI 2 10 4 := rfl
theorem k50_4 : CD 50 4 = o_push (vi 1) 5 := rfl
theorem k50_5 : CD 50 5 = o_iadd 6 := rfl
theorem k50_6 : CD 50 6 = o_push (vi 3) 7 := rfl
theorem k50_7 : CD 50 7 = o_icge 14 10 := rfl
theorem k50_10 : CD 50 10 = o_push (vi 4) 11 := rfl
theorem k50_11 : CD 50 11 = o_goto 15 := rfl
theorem k50_14 : CD 50 14 = o_push (vi 0) 15 := rfl
theorem k50_15 : CD 50 15 = o_ist 1 16 := rfl
theorem k50_16 : CD 50 16 = o_ald 0 17 := rfl
theorem k50_17 : CD 50 17 = o_getI 2 9 20 := rfl
theorem k50_20 : CD 50 20 = o_lsw [(8, 64), (15, 66), (16, 71), (21, 64)] 76 := rfl
theorem k50_64 : CD 50 64 = o_push (vi 4) 65 := rfl
theorem k50_65 : CD 50 65 = o_iret := rfl
theorem k50_66 : CD 50 66 = o_push (vi 24) 68 := rfl
theorem k50_68 : CD 50 68 = o_ild 1 69 := rfl
theorem k50_69 : CD 50 69 = o_ior 70 := rfl
theorem k50_70 : CD 50 70 = o_iret := rfl
theorem k50_71 : CD 50 71 = o_push (vi 8) 73 := rfl
theorem k50_73 : CD 50 73 = o_ild 1 74 := rfl
theorem k50_74 : CD 50 74 = o_ior 75 := rfl
theorem k50_75 : CD 50 75 = o_iret := rfl
theorem k50_76 : CD 50 76 = o_ald 0 77 := rfl
theorem k50_77 : CD 50 77 = o_getI 2 9 80 := rfl
theorem k50_80 : CD 50 80 = o_sta 46 1 83 := rfl
theorem k50_83 : CD 50 83 = o_ifeq 90 86 := rfl
theorem k50_86 : CD 50 86 = o_push (vi 2) 87 := rfl
theorem k50_87 : CD 50 87 = o_goto 91 := rfl
theorem k50_90 : CD 50 90 = o_push (vi 1) 91 := rfl
theorem k50_91 : CD 50 91 = o_iret := rfl
theorem k51_0 : CD 51 0 = o_ald 0 1 := rfl
theorem k51_1 : CD 51 1 = o_objinit 4 := rfl
theorem k51_4 : CD 51 4 = o_ald 0 5 := rfl
theorem k51_5 : CD 51 5 = o_push (vi 8) 7 := rfl
theorem k51_7 : CD 51 7 = o_newa 20 9 := rfl
theorem k51_9 : CD 51 9 = o_putR 3 0 12 := rfl
theorem k51_12 : CD 51 12 = o_ald 0 13 := rfl
theorem k51_13 : CD 51 13 = o_push (vi 4) 14 := rfl
theorem k51_14 : CD 51 14 = o_newa 20 16 := rfl
theorem k51_16 : CD 51 16 = o_putR 3 1 19 := rfl
theorem k51_19 : CD 51 19 = o_push (vi 0) 20 := rfl
theorem k51_20 : CD 51 20 = o_ist 1 21 := rfl
theorem k51_21 : CD 51 21 = o_ild 1 22 := rfl
theorem k51_22 : CD 51 22 = o_push (vi 4) 23 := rfl
theorem k51_23 : CD 51 23 = o_icge 39 26 := rfl
theorem k51_26 : CD 51 26 = o_ald 0 27 := rfl
theorem k51_27 : CD 51 27 = o_getR 3 1 30 := rfl
theorem k51_30 : CD 51 30 = o_ild 1 31 := rfl
theorem k51_31 : CD 51 31 = o_push (vi 1) 32 := rfl
theorem k51_32 : CD 51 32 = o_iast 33 := rfl
theorem k51_33 : CD 51 33 = o_iinc 1 1 36 := rfl
theorem k51_36 : CD 51 36 = o_goto 21 := rfl
theorem k51_39 : CD 51 39 = o_vret := rfl
