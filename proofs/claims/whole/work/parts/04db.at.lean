theorem k52_0 : CD 52 0 = o_ald 0 1 := rfl
theorem k52_1 : CD 52 1 = o_getR 3 0 4 := rfl
theorem k52_4 : CD 52 4 = o_ild 1 5 := rfl
theorem k52_5 : CD 52 5 = o_dup2ir 6 := rfl
theorem k52_6 : CD 52 6 = o_iald 7 := rfl
theorem k52_7 : CD 52 7 = o_push (vi 1) 8 := rfl
theorem k52_8 : CD 52 8 = o_iadd 9 := rfl
theorem k52_9 : CD 52 9 = o_iast 10 := rfl
theorem k52_10 : CD 52 10 = o_ald 0 11 := rfl
theorem k52_11 : CD 52 11 = o_getR 3 0 14 := rfl
theorem k52_14 : CD 52 14 = o_push (vi 7) 16 := rfl
theorem k52_16 : CD 52 16 = o_dup2ir 17 := rfl
theorem k52_17 : CD 52 17 = o_iald 18 := rfl
theorem k52_18 : CD 52 18 = o_push (vi 1) 19 := rfl
theorem k52_19 : CD 52 19 = o_iadd 20 := rfl
theorem k52_20 : CD 52 20 = o_iast 21 := rfl
theorem k52_21 : CD 52 21 = o_vret := rfl
theorem k53_0 : CD 53 0 = o_push (vi 0) 1 := rfl
theorem k53_1 : CD 53 1 = o_ist 2 2 := rfl
theorem k53_2 : CD 53 2 = o_push (vi 0) 3 := rfl
theorem k53_3 : CD 53 3 = o_ist 3 4 := rfl
theorem k53_4 : CD 53 4 = o_push (vi 0) 5 := rfl
theorem k53_5 : CD 53 5 = o_ist 4 7 := rfl
theorem k53_7 : CD 53 7 = o_ild 4 9 := rfl
theorem k53_9 : CD 53 9 = o_push (vi 4) 10 := rfl
theorem k53_10 : CD 53 10 = o_icge 39 13 := rfl
theorem k53_13 : CD 53 13 = o_ild 2 14 := rfl
theorem k53_14 : CD 53 14 = o_ald 0 15 := rfl
theorem k53_15 : CD 53 15 = o_getR 3 0 18 := rfl
theorem k53_18 : CD 53 18 = o_ild 4 20 := rfl
theorem k53_20 : CD 53 20 = o_iald 21 := rfl
theorem k53_21 : CD 53 21 = o_iadd 22 := rfl
theorem k53_22 : CD 53 22 = o_ist 2 23 := rfl
theorem k53_23 : CD 53 23 = o_ild 3 24 := rfl
theorem k53_24 : CD 53 24 = o_ald 0 25 := rfl
theorem k53_25 : CD 53 25 = o_getR 3 1 28 := rfl
theorem k53_28 : CD 53 28 = o_ild 4 30 := rfl
theorem k53_30 : CD 53 30 = o_iald 31 := rfl
theorem k53_31 : CD 53 31 = o_iadd 32 := rfl
theorem k53_32 : CD 53 32 = o_ist 3 33 := rfl
theorem k53_33 : CD 53 33 = o_iinc 4 1 36 := rfl
theorem k53_36 : CD 53 36 = o_goto 7 := rfl
theorem k53_39 : CD 53 39 = o_ald 0 40 := rfl
theorem k53_40 : CD 53 40 = o_getR 3 1 43 := rfl
theorem k53_43 : CD 53 43 = o_ild 1 44 := rfl
theorem k53_44 : CD 53 44 = o_iald 45 := rfl
theorem k53_45 : CD 53 45 = o_ild 2 46 := rfl
theorem k53_46 : CD 53 46 = o_imul 47 := rfl
theorem k53_47 : CD 53 47 = o_ild 3 48 := rfl
theorem k53_48 : CD 53 48 = o_ald 0 49 := rfl
theorem k53_49 : CD 53 49 = o_getR 3 0 52 := rfl
theorem k53_52 : CD 53 52 = o_ild 1 53 := rfl
theorem k53_53 : CD 53 53 = o_iald 54 := rfl
theorem k53_54 : CD 53 54 = o_imul 55 := rfl
theorem k53_55 : CD 53 55 = o_isub 56 := rfl
theorem k53_56 : CD 53 56 = o_iret := rfl
theorem k54_0 : CD 54 0 = o_push (vi 0) 1 := rfl
theorem k54_1 : CD 54 1 = o_ist 1 2 := rfl
theorem k54_2 : CD 54 2 = o_push (vi 1) 3 := rfl
theorem k54_3 : CD 54 3 = o_ist 2 4 := rfl
theorem k54_4 : CD 54 4 = o_ild 2 5 := rfl
theorem k54_5 : CD 54 5 = o_push (vi 4) 6 := rfl
theorem k54_6 : CD 54 6 = o_icge 30 9 := rfl
theorem k54_9 : CD 54 9 = o_ald 0 10 := rfl
theorem k54_10 : CD 54 10 = o_ild 2 11 := rfl
theorem k54_11 : CD 54 11 = o_inv 3 53 1 14 := rfl
theorem k54_14 : CD 54 14 = o_ald 0 15 := rfl
theorem k54_15 : CD 54 15 = o_ild 1 16 := rfl
theorem k54_16 : CD 54 16 = o_inv 3 53 1 19 := rfl
theorem k54_19 : CD 54 19 = o_icle 24 22 := rfl
theorem k54_22 : CD 54 22 = o_ild 2 23 := rfl
theorem k54_23 : CD 54 23 = o_ist 1 24 := rfl
theorem k54_24 : CD 54 24 = o_iinc 2 1 27 := rfl
theorem k54_27 : CD 54 27 = o_goto 4 := rfl
theorem k54_30 : CD 54 30 = o_ild 1 31 := rfl
theorem k54_31 : CD 54 31 = o_iret := rfl
theorem k55_0 : CD 55 0 = o_ald 0 1 := rfl
theorem k55_1 : CD 55 1 = o_objinit 4 := rfl
theorem k55_4 : CD 55 4 = o_ald 0 5 := rfl
theorem k55_5 : CD 55 5 = o_push (vi 10) 7 := rfl
theorem k55_7 : CD 55 7 = o_putI 4 0 10 := rfl
theorem k55_10 : CD 55 10 = o_ald 0 11 := rfl
theorem k55_11 : CD 55 11 = o_push (vi 8) 13 := rfl
theorem k55_13 : CD 55 13 = o_anew 25 16 := rfl
theorem k55_16 : CD 55 16 = o_putR 4 2 19 := rfl
theorem k55_19 : CD 55 19 = o_ald 0 20 := rfl
theorem k55_20 : CD 55 20 = o_push (vi 6) 22 := rfl
theorem k55_22 : CD 55 22 = o_push (vi 12) 24 := rfl
theorem k55_24 : CD 55 24 = o_mna 28 := rfl
theorem k55_28 : CD 55 28 = o_putR 4 7 31 := rfl
theorem k55_31 : CD 55 31 = o_ald 0 32 := rfl
theorem k55_32 : CD 55 32 = o_push (vi 4) 33 := rfl
theorem k55_33 : CD 55 33 = o_newa 20 35 := rfl
theorem k55_35 : CD 55 35 = o_putR 4 8 38 := rfl
theorem k55_38 : CD 55 38 = o_push (vi 0) 39 := rfl
theorem k55_39 : CD 55 39 = o_ist 1 40 := rfl
theorem k55_40 : CD 55 40 = o_ild 1 41 := rfl
theorem k55_41 : CD 55 41 = o_push (vi 8) 43 := rfl
theorem k55_43 : CD 55 43 = o_icge 65 46 := rfl
theorem k55_46 : CD 55 46 = o_ald 0 47 := rfl
theorem k55_47 : CD 55 47 = o_getR 4 2 50 := rfl
theorem k55_50 : CD 55 50 = o_ild 1 51 := rfl
theorem k55_51 : CD 55 51 = o_new 7 54 := rfl
theorem k55_54 : CD 55 54 = o_dupr 55 := rfl
theorem k55_55 : CD 55 55 = o_inv 7 74 0 58 := rfl
theorem k55_58 : CD 55 58 = o_aast 25 59 := rfl
theorem k55_59 : CD 55 59 = o_iinc 1 1 62 := rfl
theorem k55_62 : CD 55 62 = o_goto 40 := rfl
theorem k55_65 : CD 55 65 = o_ald 0 66 := rfl
theorem k55_66 : CD 55 66 = o_inv 4 56 0 69 := rfl
theorem k55_69 : CD 55 69 = o_vret := rfl
theorem k56_0 : CD 56 0 = o_ald 0 1 := rfl
theorem k56_1 : CD 56 1 = o_push (vi (-1)) 2 := rfl
theorem k56_2 : CD 56 2 = o_putI 4 4 5 := rfl
theorem k56_5 : CD 56 5 = o_push (vi 0) 6 := rfl
theorem k56_6 : CD 56 6 = o_ist 1 7 := rfl
theorem k56_7 : CD 56 7 = o_ild 1 8 := rfl
theorem k56_8 : CD 56 8 = o_push (vi 12) 10 := rfl
theorem k56_10 : CD 56 10 = o_icge 37 13 := rfl
theorem k56_13 : CD 56 13 = o_ald 0 14 := rfl
theorem k56_14 : CD 56 14 = o_getR 4 7 17 := rfl
theorem k56_17 : CD 56 17 = o_push (vi 0) 18 := rfl
theorem k56_18 : CD 56 18 = o_aald 26 19 := rfl
theorem k56_19 : CD 56 19 = o_ild 1 20 := rfl
theorem k56_20 : CD 56 20 = o_push (vi 1) 21 := rfl
theorem k56_21 : CD 56 21 = o_iast 22 := rfl
theorem k56_22 : CD 56 22 = o_ald 0 23 := rfl
theorem k56_23 : CD 56 23 = o_getR 4 7 26 := rfl
theorem k56_26 : CD 56 26 = o_push (vi 1) 27 := rfl
theorem k56_27 : CD 56 27 = o_aald 26 28 := rfl
theorem k56_28 : CD 56 28 = o_ild 1 29 := rfl
theorem k56_29 : CD 56 29 = o_push (vi 1) 30 := rfl
theorem k56_30 : CD 56 30 = o_iast 31 := rfl
theorem k56_31 : CD 56 31 = o_iinc 1 1 34 := rfl
theorem k56_34 : CD 56 34 = o_goto 7 := rfl
theorem k56_37 : CD 56 37 = o_vret := rfl
theorem k57_0 : CD 57 0 = o_ild 1 1 := rfl
theorem k57_1 : CD 57 1 = o_iflt 16 4 := rfl
theorem k57_4 : CD 57 4 = o_ild 1 5 := rfl
theorem k57_5 : CD 57 5 = o_ald 0 6 := rfl
theorem k57_6 : CD 57 6 = o_getI 4 0 9 := rfl
theorem k57_9 : CD 57 9 = o_icge 16 12 := rfl
theorem k57_12 : CD 57 12 = o_push (vi 1) 13 := rfl
theorem k57_13 : CD 57 13 = o_goto 17 := rfl
theorem k57_16 : CD 57 16 = o_push (vi 0) 17 := rfl
theorem k57_17 : CD 57 17 = o_zret := rfl
theorem k58_0 : CD 58 0 = o_ild 1 1 := rfl
theorem k58_1 : CD 58 1 = o_iflt 16 4 := rfl
theorem k58_4 : CD 58 4 = o_ild 1 5 := rfl
theorem k58_5 : CD 58 5 = o_ald 0 6 := rfl
theorem k58_6 : CD 58 6 = o_getI 4 3 9 := rfl
theorem k58_9 : CD 58 9 = o_icge 16 12 := rfl
theorem k58_12 : CD 58 12 = o_push (vi 1) 13 := rfl
theorem k58_13 : CD 58 13 = o_goto 17 := rfl
theorem k58_16 : CD 58 16 = o_push (vi 0) 17 := rfl
theorem k58_17 : CD 58 17 = o_zret := rfl
theorem k59_0 : CD 59 0 = o_ild 1 1 := rfl
theorem k59_1 : CD 59 1 = o_iflt 18 4 := rfl
theorem k59_4 : CD 59 4 = o_ild 1 5 := rfl
theorem k59_5 : CD 59 5 = o_push (vi 2) 6 := rfl
theorem k59_6 : CD 59 6 = o_ald 0 7 := rfl
theorem k59_7 : CD 59 7 = o_getI 4 9 10 := rfl
theorem k59_10 : CD 59 10 = o_iadd 11 := rfl
theorem k59_11 : CD 59 11 = o_icge 18 14 := rfl
theorem k59_14 : CD 59 14 = o_push (vi 1) 15 := rfl
theorem k59_15 : CD 59 15 = o_goto 19 := rfl
theorem k59_18 : CD 59 18 = o_push (vi 0) 19 := rfl
theorem k59_19 : CD 59 19 = o_zret := rfl
theorem k60_0 : CD 60 0 = o_ald 0 1 := rfl
theorem k60_1 : CD 60 1 = o_getR 4 2 4 := rfl
theorem k60_4 : CD 60 4 = o_ald 0 5 := rfl
theorem k60_5 : CD 60 5 = o_getI 4 3 8 := rfl
theorem k60_8 : CD 60 8 = o_aald 25 9 := rfl
theorem k60_9 : CD 60 9 = o_ast 4 11 := rfl
theorem k60_11 : CD 60 11 = o_ald 4 13 := rfl
theorem k60_13 : CD 60 13 = o_ild 1 14 := rfl
theorem k60_14 : CD 60 14 = o_putI 7 0 17 := rfl
theorem k60_17 : CD 60 17 = o_ald 4 19 := rfl
theorem k60_19 : CD 60 19 = o_ild 2 20 := rfl
theorem k60_20 : CD 60 20 = o_putI 7 1 23 := rfl
theorem k60_23 : CD 60 23 = o_ald 4 25 := rfl
theorem k60_25 : CD 60 25 = o_ild 3 26 := rfl
theorem k60_26 : CD 60 26 = o_putI 7 2 29 := rfl
theorem k60_29 : CD 60 29 = o_ald 0 30 := rfl
theorem k60_30 : CD 60 30 = o_dupr 31 := rfl
theorem k60_31 : CD 60 31 = o_getI 4 3 34 := rfl
theorem k60_34 : CD 60 34 = o_push (vi 1) 35 := rfl
theorem k60_35 : CD 60 35 = o_iadd 36 := rfl
theorem k60_36 : CD 60 36 = o_putI 4 3 39 := rfl
theorem k60_39 : CD 60 39 = o_ald 0 40 := rfl
theorem k60_40 : CD 60 40 = o_getI 4 3 43 := rfl
theorem k60_43 : CD 60 43 = o_push (vi 1) 44 := rfl
theorem k60_44 : CD 60 44 = o_isub 45 := rfl
theorem k60_45 : CD 60 45 = o_iret := rfl
theorem k61_0 : CD 61 0 = o_ald 0 1 := rfl
theorem k61_1 : CD 61 1 = o_getR 4 8 4 := rfl
theorem k61_4 : CD 61 4 = o_ald 0 5 := rfl
theorem k61_5 : CD 61 5 = o_getI 4 9 8 := rfl
theorem k61_8 : CD 61 8 = o_ild 1 9 := rfl
theorem k61_9 : CD 61 9 = o_iast 10 := rfl
theorem k61_10 : CD 61 10 = o_push (vi 0) 11 := rfl
theorem k61_11 : CD 61 11 = o_ist 2 12 := rfl
theorem k61_12 : CD 61 12 = o_ild 2 13 := rfl
theorem k61_13 : CD 61 13 = o_push (vi 12) 15 := rfl
theorem k61_15 : CD 61 15 = o_icge 45 18 := rfl
theorem k61_18 : CD 61 18 = o_ald 0 19 := rfl
theorem k61_19 : CD 61 19 = o_getR 4 7 22 := rfl
theorem k61_22 : CD 61 22 = o_push (vi 2) 23 := rfl
theorem k61_23 : CD 61 23 = o_ald 0 24 := rfl
theorem k61_24 : CD 61 24 = o_getI 4 9 27 := rfl
theorem k61_27 : CD 61 27 = o_iadd 28 := rfl
theorem k61_28 : CD 61 28 = o_aald 26 29 := rfl
theorem k61_29 : CD 61 29 = o_ild 2 30 := rfl
theorem k61_30 : CD 61 30 = o_ald 0 31 := rfl
theorem k61_31 : CD 61 31 = o_getR 4 7 34 := rfl
theorem k61_34 : CD 61 34 = o_push (vi 0) 35 := rfl
theorem k61_35 : CD 61 35 = o_aald 26 36 := rfl
theorem k61_36 : CD 61 36 = o_ild 2 37 := rfl
theorem k61_37 : CD 61 37 = o_iald 38 := rfl
theorem k61_38 : CD 61 38 = o_iast 39 := rfl
theorem k61_39 : CD 61 39 = o_iinc 2 1 42 := rfl
theorem k61_42 : CD 61 42 = o_goto 12 := rfl
theorem k61_45 : CD 61 45 = o_ald 0 46 := rfl
theorem k61_46 : CD 61 46 = o_dupr 47 := rfl
theorem k61_47 : CD 61 47 = o_getI 4 9 50 := rfl
theorem k61_50 : CD 61 50 = o_push (vi 1) 51 := rfl
theorem k61_51 : CD 61 51 = o_iadd 52 := rfl
theorem k61_52 : CD 61 52 = o_putI 4 9 55 := rfl
theorem k61_55 : CD 61 55 = o_ald 0 56 := rfl
theorem k61_56 : CD 61 56 = o_getI 4 9 59 := rfl
theorem k61_59 : CD 61 59 = o_push (vi 1) 60 := rfl
theorem k61_60 : CD 61 60 = o_isub 61 := rfl
theorem k61_61 : CD 61 61 = o_iret := rfl
theorem k62_0 : CD 62 0 = o_push (vi 0) 1 := rfl
theorem k62_1 : CD 62 1 = o_ist 1 2 := rfl
theorem k62_2 : CD 62 2 = o_push (vi 0) 3 := rfl
theorem k62_3 : CD 62 3 = o_ist 2 4 := rfl
theorem k62_4 : CD 62 4 = o_ild 2 5 := rfl
theorem k62_5 : CD 62 5 = o_ald 0 6 := rfl
theorem k62_6 : CD 62 6 = o_getI 4 9 9 := rfl
theorem k62_9 : CD 62 9 = o_icge 27 12 := rfl
theorem k62_12 : CD 62 12 = o_ild 1 13 := rfl
theorem k62_13 : CD 62 13 = o_ald 0 14 := rfl
theorem k62_14 : CD 62 14 = o_getR 4 8 17 := rfl
theorem k62_17 : CD 62 17 = o_ild 2 18 := rfl
theorem k62_18 : CD 62 18 = o_iald 19 := rfl
theorem k62_19 : CD 62 19 = o_iadd 20 := rfl
theorem k62_20 : CD 62 20 = o_ist 1 21 := rfl
theorem k62_21 : CD 62 21 = o_iinc 2 1 24 := rfl
theorem k62_24 : CD 62 24 = o_goto 4 := rfl
theorem k62_27 : CD 62 27 = o_ild 1 28 := rfl
theorem k62_28 : CD 62 28 = o_iret := rfl
theorem k63_0 : CD 63 0 = o_ild 2 1 := rfl
theorem k63_1 : CD 63 1 = o_ald 1 2 := rfl
theorem k63_2 : CD 63 2 = o_getI 7 0 5 := rfl
theorem k63_5 : CD 63 5 = o_ald 0 6 := rfl
theorem k63_6 : CD 63 6 = o_getI 4 1 9 := rfl
theorem k63_9 : CD 63 9 = o_isub 10 := rfl
theorem k63_10 : CD 63 10 = o_isub 11 := rfl
theorem k63_11 : CD 63 11 = o_mabs 14 := rfl
theorem k63_14 : CD 63 14 = o_iret := rfl
theorem k64_0 : CD 64 0 = o_ald 0 1 := rfl
theorem k64_1 : CD 64 1 = o_ald 1 2 := rfl
theorem k64_2 : CD 64 2 = o_ild 2 3 := rfl
theorem k64_3 : CD 64 3 = o_inv 4 63 2 6 := rfl
theorem k64_6 : CD 64 6 = o_ald 1 7 := rfl
theorem k64_7 : CD 64 7 = o_getI 7 1 10 := rfl
theorem k64_10 : CD 64 10 = o_icgt 17 13 := rfl
theorem k64_13 : CD 64 13 = o_push (vi 1) 14 := rfl
theorem k64_14 : CD 64 14 = o_goto 18 := rfl
theorem k64_17 : CD 64 17 = o_push (vi 0) 18 := rfl
theorem k64_18 : CD 64 18 = o_zret := rfl
theorem k65_0 : CD 65 0 = o_ald 0 1 := rfl
theorem k65_1 : CD 65 1 = o_getI 4 0 4 := rfl
theorem k65_4 : CD 65 4 = o_push (vi 1) 5 := rfl
theorem k65_5 : CD 65 5 = o_isub 6 := rfl
theorem k65_6 : CD 65 6 = o_ald 1 7 := rfl
theorem k65_7 : CD 65 7 = o_getI 7 0 10 := rfl
theorem k65_10 : CD 65 10 = o_ald 0 11 := rfl
theorem k65_11 : CD 65 11 = o_getI 4 1 14 := rfl
theorem k65_14 : CD 65 14 = o_isub 15 := rfl
theorem k65_15 : CD 65 15 = o_ald 1 16 := rfl
theorem k65_16 : CD 65 16 = o_getI 7 1 19 := rfl
theorem k65_19 : CD 65 19 = o_iadd 20 := rfl
theorem k65_20 : CD 65 20 = o_mmin 23 := rfl
theorem k65_23 : CD 65 23 = o_iret := rfl
theorem k66_0 : CD 66 0 = o_ald 1 1 := rfl
theorem k66_1 : CD 66 1 = o_getI 7 2 4 := rfl
theorem k66_4 : CD 66 4 = o_ald 0 5 := rfl
theorem k66_5 : CD 66 5 = o_getI 4 4 8 := rfl
theorem k66_8 : CD 66 8 = o_icne 31 11 := rfl
theorem k66_11 : CD 66 11 = o_ild 2 12 := rfl
theorem k66_12 : CD 66 12 = o_ald 0 13 := rfl
theorem k66_13 : CD 66 13 = o_getI 4 5 16 := rfl
theorem k66_16 : CD 66 16 = o_iclt 31 19 := rfl
theorem k66_19 : CD 66 19 = o_ild 2 20 := rfl
theorem k66_20 : CD 66 20 = o_ald 0 21 := rfl
theorem k66_21 : CD 66 21 = o_getI 4 6 24 := rfl
theorem k66_24 : CD 66 24 = o_icgt 31 27 := rfl
theorem k66_27 : CD 66 27 = o_push (vi 1) 28 := rfl
theorem k66_28 : CD 66 28 = o_goto 32 := rfl
theorem k66_31 : CD 66 31 = o_push (vi 0) 32 := rfl
theorem k66_32 : CD 66 32 = o_zret := rfl
theorem k67_0 : CD 67 0 = o_ald 0 1 := rfl
theorem k67_1 : CD 67 1 = o_getR 4 7 4 := rfl
theorem k67_4 : CD 67 4 = o_ild 1 5 := rfl
theorem k67_5 : CD 67 5 = o_aald 26 6 := rfl
theorem k67_6 : CD 67 6 = o_ild 4 8 := rfl
theorem k67_8 : CD 67 8 = o_iald 9 := rfl
theorem k67_9 : CD 67 9 = o_ist 5 11 := rfl
theorem k67_11 : CD 67 11 = o_ald 0 12 := rfl
theorem k67_12 : CD 67 12 = o_ald 2 13 := rfl
theorem k67_13 : CD 67 13 = o_ild 4 15 := rfl
theorem k67_15 : CD 67 15 = o_inv 4 63 2 18 := rfl
theorem k67_18 : CD 67 18 = o_ist 6 20 := rfl
theorem k67_20 : CD 67 20 = o_ild 5 22 := rfl
theorem k67_22 : CD 67 22 = o_ald 3 23 := rfl
theorem k67_23 : CD 67 23 = o_getI 6 1 26 := rfl
theorem k67_26 : CD 67 26 = o_icgt 74 29 := rfl
theorem k67_29 : CD 67 29 = o_ild 5 31 := rfl
theorem k67_31 : CD 67 31 = o_push (vi 4) 32 := rfl
theorem k67_32 : CD 67 32 = o_iceq 74 35 := rfl
theorem k67_35 : CD 67 35 = o_ild 6 37 := rfl
theorem k67_37 : CD 67 37 = o_ald 2 38 := rfl
theorem k67_38 : CD 67 38 = o_getI 7 1 41 := rfl
theorem k67_41 : CD 67 41 = o_icgt 74 44 := rfl
theorem k67_44 : CD 67 44 = o_ild 6 46 := rfl
theorem k67_46 : CD 67 46 = o_ald 3 47 := rfl
theorem k67_47 : CD 67 47 = o_getI 6 2 50 := rfl
theorem k67_50 : CD 67 50 = o_icgt 74 53 := rfl
theorem k67_53 : CD 67 53 = o_ald 3 54 := rfl
theorem k67_54 : CD 67 54 = o_getI 6 3 57 := rfl
theorem k67_57 : CD 67 57 = o_ifeq 70 60 := rfl
theorem k67_60 : CD 67 60 = o_ald 0 61 := rfl
theorem k67_61 : CD 67 61 = o_ald 2 62 := rfl
theorem k67_62 : CD 67 62 = o_ild 4 64 := rfl
theorem k67_64 : CD 67 64 = o_inv 4 66 2 67 := rfl
theorem k67_67 : CD 67 67 = o_ifne 74 70 := rfl
theorem k67_70 : CD 67 70 = o_push (vi 1) 71 := rfl
theorem k67_71 : CD 67 71 = o_goto 75 := rfl
theorem k67_74 : CD 67 74 = o_push (vi 0) 75 := rfl
theorem k67_75 : CD 67 75 = o_zret := rfl
theorem k68_0 : CD 68 0 = o_push (vi 0) 1 := rfl
theorem k68_1 : CD 68 1 = o_ist 3 2 := rfl
theorem k68_2 : CD 68 2 = o_push (vi 0) 3 := rfl
theorem k68_3 : CD 68 3 = o_ist 4 5 := rfl
theorem k68_5 : CD 68 5 = o_ild 4 7 := rfl
theorem k68_7 : CD 68 7 = o_ald 0 8 := rfl
theorem k68_8 : CD 68 8 = o_getI 4 0 11 := rfl
theorem k68_11 : CD 68 11 = o_icge 39 14 := rfl
theorem k68_14 : CD 68 14 = o_ald 0 15 := rfl
theorem k68_15 : CD 68 15 = o_push (vi 0) 16 := rfl
theorem k68_16 : CD 68 16 = o_ald 1 17 := rfl
theorem k68_17 : CD 68 17 = o_ald 2 18 := rfl
theorem k68_18 : CD 68 18 = o_ild 4 20 := rfl
theorem k68_20 : CD 68 20 = o_inv 4 67 4 23 := rfl
theorem k68_23 : CD 68 23 = o_ifeq 33 26 := rfl
theorem k68_26 : CD 68 26 = o_ild 3 27 := rfl
theorem k68_27 : CD 68 27 = o_push (vi 1) 28 := rfl
theorem k68_28 : CD 68 28 = o_ild 4 30 := rfl
theorem k68_30 : CD 68 30 = o_ishl 31 := rfl
theorem k68_31 : CD 68 31 = o_ior 32 := rfl
theorem k68_32 : CD 68 32 = o_ist 3 33 := rfl
theorem k68_33 : CD 68 33 = o_iinc 4 1 36 := rfl
theorem k68_36 : CD 68 36 = o_goto 5 := rfl
theorem k68_39 : CD 68 39 = o_ild 3 40 := rfl
theorem k68_40 : CD 68 40 = o_ist 4 42 := rfl
theorem k68_42 : CD 68 42 = o_push (vi 1) 43 := rfl
theorem k68_43 : CD 68 43 = o_ist 5 45 := rfl
theorem k68_45 : CD 68 45 = o_ild 5 47 := rfl
theorem k68_47 : CD 68 47 = o_ald 2 48 := rfl
theorem k68_48 : CD 68 48 = o_getI 6 0 51 := rfl
theorem k68_51 : CD 68 51 = o_icge 69 54 := rfl
theorem k68_54 : CD 68 54 = o_ild 4 56 := rfl
theorem k68_56 : CD 68 56 = o_ild 3 57 := rfl
theorem k68_57 : CD 68 57 = o_ild 5 59 := rfl
theorem k68_59 : CD 68 59 = o_ishr 60 := rfl
theorem k68_60 : CD 68 60 = o_iand 61 := rfl
theorem k68_61 : CD 68 61 = o_ist 4 63 := rfl
theorem k68_63 : CD 68 63 = o_iinc 5 1 66 := rfl
theorem k68_66 : CD 68 66 = o_goto 45 := rfl
theorem k68_69 : CD 68 69 = o_ild 4 71 := rfl
theorem k68_71 : CD 68 71 = o_iret := rfl
theorem k69_0 : CD 69 0 = o_ald 0 1 := rfl
theorem k69_1 : CD 69 1 = o_objinit 4 := rfl
theorem k69_4 : CD 69 4 = o_ald 0 5 := rfl
theorem k69_5 : CD 69 5 = o_push (vi 3) 6 := rfl
theorem k69_6 : CD 69 6 = o_anew 24 9 := rfl
theorem k69_9 : CD 69 9 = o_putR 5 5 12 := rfl
theorem k69_12 : CD 69 12 = o_push (vi 0) 13 := rfl
theorem k69_13 : CD 69 13 = o_ist 1 14 := rfl
theorem k69_14 : CD 69 14 = o_ild 1 15 := rfl
theorem k69_15 : CD 69 15 = o_push (vi 3) 16 := rfl
theorem k69_16 : CD 69 16 = o_icge 38 19 := rfl
theorem k69_19 : CD 69 19 = o_ald 0 20 := rfl
theorem k69_20 : CD 69 20 = o_getR 5 5 23 := rfl
theorem k69_23 : CD 69 23 = o_ild 1 24 := rfl
theorem k69_24 : CD 69 24 = o_new 6 27 := rfl
theorem k69_27 : CD 69 27 = o_dupr 28 := rfl
theorem k69_28 : CD 69 28 = o_inv 6 72 0 31 := rfl
theorem k69_31 : CD 69 31 = o_aast 24 32 := rfl
theorem k69_32 : CD 69 32 = o_iinc 1 1 35 := rfl
theorem k69_35 : CD 69 35 = o_goto 14 := rfl
theorem k69_38 : CD 69 38 = o_vret := rfl
theorem k70_0 : CD 70 0 = o_ild 1 1 := rfl
theorem k70_1 : CD 70 1 = o_tsw 0 [32, 37, 42, 47] 52 := rfl
theorem k70_32 : CD 70 32 = o_ald 0 33 := rfl
theorem k70_33 : CD 70 33 = o_getI 5 0 36 := rfl
theorem k70_36 : CD 70 36 = o_iret := rfl
theorem k70_37 : CD 70 37 = o_ald 0 38 := rfl
theorem k70_38 : CD 70 38 = o_getI 5 1 41 := rfl
theorem k70_41 : CD 70 41 = o_iret := rfl
theorem k70_42 : CD 70 42 = o_ald 0 43 := rfl
theorem k70_43 : CD 70 43 = o_getI 5 2 46 := rfl
theorem k70_46 : CD 70 46 = o_iret := rfl
theorem k70_47 : CD 70 47 = o_ald 0 48 := rfl
theorem k70_48 : CD 70 48 = o_getI 5 3 51 := rfl
theorem k70_51 : CD 70 51 = o_iret := rfl
theorem k70_52 : CD 70 52 = o_ald 0 53 := rfl
theorem k70_53 : CD 70 53 = o_getI 5 4 56 := rfl
theorem k70_56 : CD 70 56 = o_iret := rfl
theorem k71_0 : CD 71 0 = o_push (vi 0) 1 := rfl
theorem k71_1 : CD 71 1 = o_ist 1 2 := rfl
theorem k71_2 : CD 71 2 = o_push (vi 0) 3 := rfl
theorem k71_3 : CD 71 3 = o_ist 2 4 := rfl
theorem k71_4 : CD 71 4 = o_ild 2 5 := rfl
theorem k71_5 : CD 71 5 = o_ald 0 6 := rfl
theorem k71_6 : CD 71 6 = o_getI 5 4 9 := rfl
theorem k71_9 : CD 71 9 = o_icge 30 12 := rfl
theorem k71_12 : CD 71 12 = o_ild 1 13 := rfl
theorem k71_13 : CD 71 13 = o_ald 0 14 := rfl
theorem k71_14 : CD 71 14 = o_getR 5 5 17 := rfl
theorem k71_17 : CD 71 17 = o_ild 2 18 := rfl
theorem k71_18 : CD 71 18 = o_aald 24 19 := rfl
theorem k71_19 : CD 71 19 = o_getI 6 0 22 := rfl
theorem k71_22 : CD 71 22 = o_iadd 23 := rfl
theorem k71_23 : CD 71 23 = o_ist 1 24 := rfl
theorem k71_24 : CD 71 24 = o_iinc 2 1 27 := rfl
theorem k71_27 : CD 71 27 = o_goto 4 := rfl
theorem k71_30 : CD 71 30 = o_ild 1 31 := rfl
theorem k71_31 : CD 71 31 = o_iret := rfl
theorem k72_0 : CD 72 0 = o_ald 0 1 := rfl
theorem k72_1 : CD 72 1 = o_objinit 4 := rfl
theorem k72_4 : CD 72 4 = o_vret := rfl
theorem k73_0 : CD 73 0 = o_ild 1 1 := rfl
theorem k73_1 : CD 73 1 = o_tsw 0 [36, 41, 46, 51, 64] 69 := rfl
theorem k73_36 : CD 73 36 = o_ald 0 37 := rfl
theorem k73_37 : CD 73 37 = o_getI 6 0 40 := rfl
theorem k73_40 : CD 73 40 = o_iret := rfl
theorem k73_41 : CD 73 41 = o_ald 0 42 := rfl
theorem k73_42 : CD 73 42 = o_getI 6 1 45 := rfl
theorem k73_45 : CD 73 45 = o_iret := rfl
theorem k73_46 : CD 73 46 = o_ald 0 47 := rfl
theorem k73_47 : CD 73 47 = o_getI 6 2 50 := rfl
theorem k73_50 : CD 73 50 = o_iret := rfl
theorem k73_51 : CD 73 51 = o_ald 0 52 := rfl
theorem k73_52 : CD 73 52 = o_getI 6 3 55 := rfl
theorem k73_55 : CD 73 55 = o_ifeq 62 58 := rfl
theorem k73_58 : CD 73 58 = o_push (vi 1) 59 := rfl
theorem k73_59 : CD 73 59 = o_goto 63 := rfl
theorem k73_62 : CD 73 62 = o_push (vi 0) 63 := rfl
theorem k73_63 : CD 73 63 = o_iret := rfl
theorem k73_64 : CD 73 64 = o_ald 0 65 := rfl
theorem k73_65 : CD 73 65 = o_getI 6 4 68 := rfl
theorem k73_68 : CD 73 68 = o_iret := rfl
theorem k73_69 : CD 73 69 = o_ald 0 70 := rfl
theorem k73_70 : CD 73 70 = o_getI 6 5 73 := rfl
theorem k73_73 : CD 73 73 = o_iret := rfl
theorem k74_0 : CD 74 0 = o_ald 0 1 := rfl
theorem k74_1 : CD 74 1 = o_objinit 4 := rfl
theorem k74_4 : CD 74 4 = o_vret := rfl
theorem k75_0 : CD 75 0 = o_ald 0 1 := rfl
theorem k75_1 : CD 75 1 = o_objinit 4 := rfl
theorem k75_4 : CD 75 4 = o_ald 0 5 := rfl
theorem k75_5 : CD 75 5 = o_push (vi 12) 7 := rfl
theorem k75_7 : CD 75 7 = o_newa 20 9 := rfl
theorem k75_9 : CD 75 9 = o_putR 8 1 12 := rfl
theorem k75_12 : CD 75 12 = o_ald 0 13 := rfl
theorem k75_13 : CD 75 13 = o_push (vi 5) 14 := rfl
theorem k75_14 : CD 75 14 = o_newa 20 16 := rfl
theorem k75_16 : CD 75 16 = o_putR 8 2 19 := rfl
theorem k75_19 : CD 75 19 = o_ald 0 20 := rfl
theorem k75_20 : CD 75 20 = o_push (vi 5) 21 := rfl
theorem k75_21 : CD 75 21 = o_newa 20 23 := rfl
theorem k75_23 : CD 75 23 = o_putR 8 5 26 := rfl
theorem k75_26 : CD 75 26 = o_ald 0 27 := rfl
theorem k75_27 : CD 75 27 = o_push (vi 5) 28 := rfl
theorem k75_28 : CD 75 28 = o_newa 21 30 := rfl
theorem k75_30 : CD 75 30 = o_putR 8 6 33 := rfl
theorem k75_33 : CD 75 33 = o_ald 0 34 := rfl
theorem k75_34 : CD 75 34 = o_ald 1 35 := rfl
theorem k75_35 : CD 75 35 = o_putR 8 3 38 := rfl
theorem k75_38 : CD 75 38 = o_ald 0 39 := rfl
theorem k75_39 : CD 75 39 = o_ald 2 40 := rfl
theorem k75_40 : CD 75 40 = o_putR 8 4 43 := rfl
theorem k75_43 : CD 75 43 = o_vret := rfl
theorem k76_0 : CD 76 0 = o_push (vi 0) 1 := rfl
theorem k76_1 : CD 76 1 = o_ist 4 3 := rfl
theorem k76_3 : CD 76 3 = o_ild 4 5 := rfl
theorem k76_5 : CD 76 5 = o_push (vi 5) 6 := rfl
theorem k76_6 : CD 76 6 = o_icge 31 9 := rfl
theorem k76_9 : CD 76 9 = o_ald 0 10 := rfl
theorem k76_10 : CD 76 10 = o_getR 8 2 13 := rfl
theorem k76_13 : CD 76 13 = o_ild 4 15 := rfl
theorem k76_15 : CD 76 15 = o_push (vi 0) 16 := rfl
theorem k76_16 : CD 76 16 = o_iast 17 := rfl
theorem k76_17 : CD 76 17 = o_ald 0 18 := rfl
theorem k76_18 : CD 76 18 = o_getR 8 6 21 := rfl
theorem k76_21 : CD 76 21 = o_ild 4 23 := rfl
theorem k76_23 : CD 76 23 = o_push (vi 0) 24 := rfl
theorem k76_24 : CD 76 24 = o_bast 25 := rfl
theorem k76_25 : CD 76 25 = o_iinc 4 1 28 := rfl
theorem k76_28 : CD 76 28 = o_goto 3 := rfl
theorem k76_31 : CD 76 31 = o_ald 0 32 := rfl
theorem k76_32 : CD 76 32 = o_push (vi 0) 33 := rfl
theorem k76_33 : CD 76 33 = o_putI 8 7 36 := rfl
theorem k76_36 : CD 76 36 = o_ald 0 37 := rfl
theorem k76_37 : CD 76 37 = o_push (vi (-1)) 38 := rfl
theorem k76_38 : CD 76 38 = o_putI 8 8 41 := rfl
theorem k76_41 : CD 76 41 = o_push (vi 0) 42 := rfl
theorem k76_42 : CD 76 42 = o_ist 4 44 := rfl
theorem k76_44 : CD 76 44 = o_ild 4 46 := rfl
theorem k76_46 : CD 76 46 = o_ild 3 47 := rfl
theorem k76_47 : CD 76 47 = o_icge 121 50 := rfl
theorem k76_50 : CD 76 50 = o_ild 4 52 := rfl
theorem k76_52 : CD 76 52 = o_ald 0 53 := rfl
theorem k76_53 : CD 76 53 = o_getR 8 3 56 := rfl
theorem k76_56 : CD 76 56 = o_getI 4 0 59 := rfl
theorem k76_59 : CD 76 59 = o_icge 121 62 := rfl
theorem k76_62 : CD 76 62 = o_ald 0 63 := rfl
theorem k76_63 : CD 76 63 = o_getI 8 8 66 := rfl
theorem k76_66 : CD 76 66 = o_push (vi (-1)) 67 := rfl
theorem k76_67 : CD 76 67 = o_icne 101 70 := rfl
theorem k76_70 : CD 76 70 = o_ald 0 71 := rfl
theorem k76_71 : CD 76 71 = o_ild 4 73 := rfl
theorem k76_73 : CD 76 73 = o_inv 8 82 1 76 := rfl
theorem k76_76 : CD 76 76 = o_ald 0 77 := rfl
theorem k76_77 : CD 76 77 = o_getR 8 1 80 := rfl
theorem k76_80 : CD 76 80 = o_ild 4 82 := rfl
theorem k76_82 : CD 76 82 = o_ald 0 83 := rfl
theorem k76_83 : CD 76 83 = o_ild 2 84 := rfl
theorem k76_84 : CD 76 84 = o_ild 4 86 := rfl
theorem k76_86 : CD 76 86 = o_ald 0 87 := rfl
theorem k76_87 : CD 76 87 = o_ild 1 88 := rfl
theorem k76_88 : CD 76 88 = o_ild 2 89 := rfl
theorem k76_89 : CD 76 89 = o_ild 4 91 := rfl
theorem k76_91 : CD 76 91 = o_inv 8 88 3 94 := rfl
theorem k76_94 : CD 76 94 = o_inv 8 79 3 97 := rfl
theorem k76_97 : CD 76 97 = o_iast 98 := rfl
theorem k76_98 : CD 76 98 = o_goto 115 := rfl
theorem k76_101 : CD 76 101 = o_ald 0 102 := rfl
theorem k76_102 : CD 76 102 = o_getR 8 1 105 := rfl
theorem k76_105 : CD 76 105 = o_ild 4 107 := rfl
theorem k76_107 : CD 76 107 = o_ald 0 108 := rfl
theorem k76_108 : CD 76 108 = o_ild 2 109 := rfl
theorem k76_109 : CD 76 109 = o_ild 4 111 := rfl
theorem k76_111 : CD 76 111 = o_inv 8 80 2 114 := rfl
theorem k76_114 : CD 76 114 = o_iast 115 := rfl
theorem k76_115 : CD 76 115 = o_iinc 4 1 118 := rfl
theorem k76_118 : CD 76 118 = o_goto 44 := rfl
theorem k76_121 : CD 76 121 = o_vret := rfl
theorem k77_0 : CD 77 0 = o_push (vi 0) 1 := rfl
theorem k77_1 : CD 77 1 = o_ist 1 2 := rfl
theorem k77_2 : CD 77 2 = o_push (vi 0) 3 := rfl
theorem k77_3 : CD 77 3 = o_ist 2 4 := rfl
theorem k77_4 : CD 77 4 = o_ild 2 5 := rfl
theorem k77_5 : CD 77 5 = o_ald 0 6 := rfl
theorem k77_6 : CD 77 6 = o_getR 8 4 9 := rfl
theorem k77_9 : CD 77 9 = o_getI 1 1 12 := rfl
theorem k77_12 : CD 77 12 = o_icge 47 15 := rfl
theorem k77_15 : CD 77 15 = o_ald 0 16 := rfl
theorem k77_16 : CD 77 16 = o_getR 8 2 19 := rfl
theorem k77_19 : CD 77 19 = o_ild 2 20 := rfl
theorem k77_20 : CD 77 20 = o_iald 21 := rfl
theorem k77_21 : CD 77 21 = o_push (vi 8) 23 := rfl
theorem k77_23 : CD 77 23 = o_icne 41 26 := rfl
theorem k77_26 : CD 77 26 = o_ild 1 27 := rfl
theorem k77_27 : CD 77 27 = o_ald 0 28 := rfl
theorem k77_28 : CD 77 28 = o_getR 8 4 31 := rfl
theorem k77_31 : CD 77 31 = o_getR 1 0 34 := rfl
theorem k77_34 : CD 77 34 = o_ild 2 35 := rfl
theorem k77_35 : CD 77 35 = o_aald 23 36 := rfl
theorem k77_36 : CD 77 36 = o_getI 5 3 39 := rfl
theorem k77_39 : CD 77 39 = o_iadd 40 := rfl
theorem k77_40 : CD 77 40 = o_ist 1 41 := rfl
theorem k77_41 : CD 77 41 = o_iinc 2 1 44 := rfl
theorem k77_44 : CD 77 44 = o_goto 4 := rfl
theorem k77_47 : CD 77 47 = o_ild 1 48 := rfl
theorem k77_48 : CD 77 48 = o_iret := rfl
theorem k78_0 : CD 78 0 = o_ald 0 1 := rfl
theorem k78_1 : CD 78 1 = o_getR 8 1 4 := rfl
theorem k78_4 : CD 78 4 = o_ild 1 5 := rfl
theorem k78_5 : CD 78 5 = o_iald 6 := rfl
theorem k78_6 : CD 78 6 = o_ist 2 7 := rfl
theorem k78_7 : CD 78 7 = o_ild 2 8 := rfl
theorem k78_8 : CD 78 8 = o_push (vi 20) 10 := rfl
theorem k78_10 : CD 78 10 = o_iclt 17 13 := rfl
theorem k78_13 : CD 78 13 = o_push (vi (-1)) 14 := rfl
theorem k78_14 : CD 78 14 = o_goto 21 := rfl
theorem k78_17 : CD 78 17 = o_ild 2 18 := rfl
theorem k78_18 : CD 78 18 = o_push (vi 10) 20 := rfl
theorem k78_20 : CD 78 20 = o_irem 21 := rfl
theorem k78_21 : CD 78 21 = o_iret := rfl
theorem k79_0 : CD 79 0 = o_ild 3 1 := rfl
theorem k79_1 : CD 79 1 = o_push (vi (-1)) 2 := rfl
theorem k79_2 : CD 79 2 = o_icne 28 5 := rfl
theorem k79_5 : CD 79 5 = o_ald 0 6 := rfl
theorem k79_6 : CD 79 6 = o_getR 8 3 9 := rfl
theorem k79_9 : CD 79 9 = o_getR 4 7 12 := rfl
theorem k79_12 : CD 79 12 = o_ild 1 13 := rfl
theorem k79_13 : CD 79 13 = o_aald 26 14 := rfl
theorem k79_14 : CD 79 14 = o_ild 2 15 := rfl
theorem k79_15 : CD 79 15 = o_iald 16 := rfl
theorem k79_16 : CD 79 16 = o_push (vi 4) 17 := rfl
theorem k79_17 : CD 79 17 = o_icne 25 20 := rfl
theorem k79_20 : CD 79 20 = o_push (vi 21) 22 := rfl
theorem k79_22 : CD 79 22 = o_goto 27 := rfl
theorem k79_25 : CD 79 25 = o_push (vi 22) 27 := rfl
theorem k79_27 : CD 79 27 = o_iret := rfl
theorem k79_28 : CD 79 28 = o_ald 0 29 := rfl
theorem k79_29 : CD 79 29 = o_getR 8 4 32 := rfl
theorem k79_32 : CD 79 32 = o_getR 1 0 35 := rfl
theorem k79_35 : CD 79 35 = o_ild 3 36 := rfl
theorem k79_36 : CD 79 36 = o_aald 23 37 := rfl
theorem k79_37 : CD 79 37 = o_getI 5 1 40 := rfl
theorem k79_40 : CD 79 40 = o_ald 0 41 := rfl
theorem k79_41 : CD 79 41 = o_getI 8 7 44 := rfl
theorem k79_44 : CD 79 44 = o_iceq 66 47 := rfl
theorem k79_47 : CD 79 47 = o_ald 0 48 := rfl
theorem k79_48 : CD 79 48 = o_ald 0 49 := rfl
theorem k79_49 : CD 79 49 = o_getR 8 4 52 := rfl
theorem k79_52 : CD 79 52 = o_getR 1 0 55 := rfl
theorem k79_55 : CD 79 55 = o_ild 3 56 := rfl
theorem k79_56 : CD 79 56 = o_aald 23 57 := rfl
theorem k79_57 : CD 79 57 = o_getI 5 1 60 := rfl
theorem k79_60 : CD 79 60 = o_putI 8 7 63 := rfl
theorem k79_63 : CD 79 63 = o_push (vi 20) 65 := rfl
theorem k79_65 : CD 79 65 = o_iret := rfl
theorem k79_66 : CD 79 66 = o_ald 0 67 := rfl
theorem k79_67 : CD 79 67 = o_ild 3 68 := rfl
theorem k79_68 : CD 79 68 = o_putI 8 8 71 := rfl
theorem k79_71 : CD 79 71 = o_ald 0 72 := rfl
theorem k79_72 : CD 79 72 = o_ald 0 73 := rfl
theorem k79_73 : CD 79 73 = o_ild 3 74 := rfl
theorem k79_74 : CD 79 74 = o_inv 8 85 1 77 := rfl
theorem k79_77 : CD 79 77 = o_getI 6 0 80 := rfl
theorem k79_80 : CD 79 80 = o_putI 8 9 83 := rfl
theorem k79_83 : CD 79 83 = o_ald 0 84 := rfl
theorem k79_84 : CD 79 84 = o_ild 2 85 := rfl
theorem k79_85 : CD 79 85 = o_inv 8 81 1 88 := rfl
theorem k79_88 : CD 79 88 = o_ild 3 89 := rfl
theorem k79_89 : CD 79 89 = o_iret := rfl
theorem k80_0 : CD 80 0 = o_ald 0 1 := rfl
theorem k80_1 : CD 80 1 = o_getI 8 8 4 := rfl
theorem k80_4 : CD 80 4 = o_ist 3 5 := rfl
theorem k80_5 : CD 80 5 = o_ald 0 6 := rfl
theorem k80_6 : CD 80 6 = o_getR 8 3 9 := rfl
theorem k80_9 : CD 80 9 = o_ild 1 10 := rfl
theorem k80_10 : CD 80 10 = o_ald 0 11 := rfl
theorem k80_11 : CD 80 11 = o_ild 3 12 := rfl
theorem k80_12 : CD 80 12 = o_inv 8 86 1 15 := rfl
theorem k80_15 : CD 80 15 = o_ald 0 16 := rfl
theorem k80_16 : CD 80 16 = o_ild 3 17 := rfl
theorem k80_17 : CD 80 17 = o_inv 8 85 1 20 := rfl
theorem k80_20 : CD 80 20 = o_ild 2 21 := rfl
theorem k80_21 : CD 80 21 = o_inv 4 67 4 24 := rfl
theorem k80_24 : CD 80 24 = o_ifeq 34 27 := rfl
theorem k80_27 : CD 80 27 = o_ald 0 28 := rfl
theorem k80_28 : CD 80 28 = o_ild 2 29 := rfl
theorem k80_29 : CD 80 29 = o_inv 8 81 1 32 := rfl
theorem k80_32 : CD 80 32 = o_ild 3 33 := rfl
theorem k80_33 : CD 80 33 = o_iret := rfl
theorem k80_34 : CD 80 34 = o_ald 0 35 := rfl
theorem k80_35 : CD 80 35 = o_push (vi (-1)) 36 := rfl
theorem k80_36 : CD 80 36 = o_putI 8 8 39 := rfl
theorem k80_39 : CD 80 39 = o_ald 0 40 := rfl
theorem k80_40 : CD 80 40 = o_ild 3 41 := rfl
theorem k80_41 : CD 80 41 = o_inv 8 83 1 44 := rfl
theorem k80_44 : CD 80 44 = o_push (vi 10) 46 := rfl
theorem k80_46 : CD 80 46 = o_ild 3 47 := rfl
theorem k80_47 : CD 80 47 = o_iadd 48 := rfl
theorem k80_48 : CD 80 48 = o_iret := rfl
theorem k81_0 : CD 81 0 = o_ald 0 1 := rfl
theorem k81_1 : CD 81 1 = o_dupr 2 := rfl
theorem k81_2 : CD 81 2 = o_getI 8 9 5 := rfl
theorem k81_5 : CD 81 5 = o_push (vi 1) 6 := rfl
theorem k81_6 : CD 81 6 = o_isub 7 := rfl
theorem k81_7 : CD 81 7 = o_putI 8 9 10 := rfl
theorem k81_10 : CD 81 10 = o_ald 0 11 := rfl
theorem k81_11 : CD 81 11 = o_getI 8 9 14 := rfl
theorem k81_14 : CD 81 14 = o_ifle 18 17 := rfl
theorem k81_17 : CD 81 17 = o_vret := rfl
theorem k81_18 : CD 81 18 = o_ald 0 19 := rfl
theorem k81_19 : CD 81 19 = o_getR 8 2 22 := rfl
theorem k81_22 : CD 81 22 = o_ald 0 23 := rfl
theorem k81_23 : CD 81 23 = o_getI 8 8 26 := rfl
theorem k81_26 : CD 81 26 = o_iald 27 := rfl
theorem k81_27 : CD 81 27 = o_push (vi 1) 28 := rfl
theorem k81_28 : CD 81 28 = o_iadd 29 := rfl
theorem k81_29 : CD 81 29 = o_ald 0 30 := rfl
theorem k81_30 : CD 81 30 = o_getR 8 4 33 := rfl
theorem k81_33 : CD 81 33 = o_getR 1 0 36 := rfl
theorem k81_36 : CD 81 36 = o_ald 0 37 := rfl
theorem k81_37 : CD 81 37 = o_getI 8 8 40 := rfl
theorem k81_40 : CD 81 40 = o_aald 23 41 := rfl
theorem k81_41 : CD 81 41 = o_getI 5 4 44 := rfl
theorem k81_44 : CD 81 44 = o_iclt 51 47 := rfl
theorem k81_47 : CD 81 47 = o_push (vi 1) 48 := rfl
theorem k81_48 : CD 81 48 = o_goto 52 := rfl
theorem k81_51 : CD 81 51 = o_push (vi 0) 52 := rfl
theorem k81_52 : CD 81 52 = o_ist 2 53 := rfl
theorem k81_53 : CD 81 53 = o_ald 0 54 := rfl
theorem k81_54 : CD 81 54 = o_getR 8 2 57 := rfl
theorem k81_57 : CD 81 57 = o_ald 0 58 := rfl
theorem k81_58 : CD 81 58 = o_getI 8 8 61 := rfl
theorem k81_61 : CD 81 61 = o_ild 2 62 := rfl
theorem k81_62 : CD 81 62 = o_ifeq 70 65 := rfl
theorem k81_65 : CD 81 65 = o_push (vi 8) 67 := rfl
theorem k81_67 : CD 81 67 = o_goto 81 := rfl
theorem k81_70 : CD 81 70 = o_ald 0 71 := rfl
theorem k81_71 : CD 81 71 = o_getR 8 2 74 := rfl
theorem k81_74 : CD 81 74 = o_ald 0 75 := rfl
theorem k81_75 : CD 81 75 = o_getI 8 8 78 := rfl
theorem k81_78 : CD 81 78 = o_iald 79 := rfl
theorem k81_79 : CD 81 79 = o_push (vi 1) 80 := rfl
theorem k81_80 : CD 81 80 = o_iadd 81 := rfl
theorem k81_81 : CD 81 81 = o_iast 82 := rfl
theorem k81_82 : CD 81 82 = o_ald 0 83 := rfl
theorem k81_83 : CD 81 83 = o_getR 8 5 86 := rfl
theorem k81_86 : CD 81 86 = o_ald 0 87 := rfl
theorem k81_87 : CD 81 87 = o_getI 8 8 90 := rfl
theorem k81_90 : CD 81 90 = o_ild 1 91 := rfl
theorem k81_91 : CD 81 91 = o_push (vi 1) 92 := rfl
theorem k81_92 : CD 81 92 = o_iadd 93 := rfl
theorem k81_93 : CD 81 93 = o_iast 94 := rfl
theorem k81_94 : CD 81 94 = o_ald 0 95 := rfl
theorem k81_95 : CD 81 95 = o_push (vi (-1)) 96 := rfl
theorem k81_96 : CD 81 96 = o_putI 8 8 99 := rfl
theorem k81_99 : CD 81 99 = o_vret := rfl
theorem k82_0 : CD 82 0 = o_push (vi 0) 1 := rfl
theorem k82_1 : CD 82 1 = o_ist 2 2 := rfl
theorem k82_2 : CD 82 2 = o_ild 2 3 := rfl
theorem k82_3 : CD 82 3 = o_ald 0 4 := rfl
theorem k82_4 : CD 82 4 = o_getR 8 4 7 := rfl
theorem k82_7 : CD 82 7 = o_getI 1 1 10 := rfl
theorem k82_10 : CD 82 10 = o_icge 60 13 := rfl
theorem k82_13 : CD 82 13 = o_ald 0 14 := rfl
theorem k82_14 : CD 82 14 = o_ild 2 15 := rfl
theorem k82_15 : CD 82 15 = o_inv 8 84 1 18 := rfl
theorem k82_18 : CD 82 18 = o_ifeq 54 21 := rfl
theorem k82_21 : CD 82 21 = o_ald 0 22 := rfl
theorem k82_22 : CD 82 22 = o_getR 8 2 25 := rfl
theorem k82_25 : CD 82 25 = o_ild 2 26 := rfl
theorem k82_26 : CD 82 26 = o_iald 27 := rfl
theorem k82_27 : CD 82 27 = o_ifle 54 30 := rfl
theorem k82_30 : CD 82 30 = o_ild 1 31 := rfl
theorem k82_31 : CD 82 31 = o_ald 0 32 := rfl
theorem k82_32 : CD 82 32 = o_getR 8 5 35 := rfl
theorem k82_35 : CD 82 35 = o_ild 2 36 := rfl
theorem k82_36 : CD 82 36 = o_iald 37 := rfl
theorem k82_37 : CD 82 37 = o_isub 38 := rfl
theorem k82_38 : CD 82 38 = o_ald 0 39 := rfl
theorem k82_39 : CD 82 39 = o_ild 2 40 := rfl
theorem k82_40 : CD 82 40 = o_inv 8 85 1 43 := rfl
theorem k82_43 : CD 82 43 = o_getI 6 5 46 := rfl
theorem k82_46 : CD 82 46 = o_icle 54 49 := rfl
theorem k82_49 : CD 82 49 = o_ald 0 50 := rfl
theorem k82_50 : CD 82 50 = o_ild 2 51 := rfl
theorem k82_51 : CD 82 51 = o_inv 8 83 1 54 := rfl
theorem k82_54 : CD 82 54 = o_iinc 2 1 57 := rfl
theorem k82_57 : CD 82 57 = o_goto 2 := rfl
theorem k82_60 : CD 82 60 = o_vret := rfl
theorem k83_0 : CD 83 0 = o_ald 0 1 := rfl
theorem k83_1 : CD 83 1 = o_getR 8 2 4 := rfl
theorem k83_4 : CD 83 4 = o_ild 1 5 := rfl
theorem k83_5 : CD 83 5 = o_ald 0 6 := rfl
theorem k83_6 : CD 83 6 = o_getI 8 0 9 := rfl
theorem k83_9 : CD 83 9 = o_push (vi 1) 10 := rfl
theorem k83_10 : CD 83 10 = o_icne 26 13 := rfl
theorem k83_13 : CD 83 13 = o_ald 0 14 := rfl
theorem k83_14 : CD 83 14 = o_getR 8 6 17 := rfl
theorem k83_17 : CD 83 17 = o_ild 1 18 := rfl
theorem k83_18 : CD 83 18 = o_bald 19 := rfl
theorem k83_19 : CD 83 19 = o_ifne 26 22 := rfl
theorem k83_22 : CD 83 22 = o_push (vi 0) 23 := rfl
theorem k83_23 : CD 83 23 = o_goto 28 := rfl
theorem k83_26 : CD 83 26 = o_push (vi 9) 28 := rfl
theorem k83_28 : CD 83 28 = o_iast 29 := rfl
theorem k83_29 : CD 83 29 = o_ald 0 30 := rfl
theorem k83_30 : CD 83 30 = o_getR 8 6 33 := rfl
theorem k83_33 : CD 83 33 = o_ild 1 34 := rfl
theorem k83_34 : CD 83 34 = o_push (vi 1) 35 := rfl
theorem k83_35 : CD 83 35 = o_bast 36 := rfl
theorem k83_36 : CD 83 36 = o_vret := rfl
theorem k84_0 : CD 84 0 = o_ald 0 1 := rfl
theorem k84_1 : CD 84 1 = o_getR 8 2 4 := rfl
theorem k84_4 : CD 84 4 = o_ild 1 5 := rfl
theorem k84_5 : CD 84 5 = o_iald 6 := rfl
theorem k84_6 : CD 84 6 = o_ald 0 7 := rfl
theorem k84_7 : CD 84 7 = o_getR 8 4 10 := rfl
theorem k84_10 : CD 84 10 = o_getR 1 0 13 := rfl
theorem k84_13 : CD 84 13 = o_ild 1 14 := rfl
theorem k84_14 : CD 84 14 = o_aald 23 15 := rfl
theorem k84_15 : CD 84 15 = o_getI 5 4 18 := rfl
theorem k84_18 : CD 84 18 = o_icge 25 21 := rfl
theorem k84_21 : CD 84 21 = o_push (vi 1) 22 := rfl
theorem k84_22 : CD 84 22 = o_goto 26 := rfl
theorem k84_25 : CD 84 25 = o_push (vi 0) 26 := rfl
theorem k84_26 : CD 84 26 = o_zret := rfl
theorem k85_0 : CD 85 0 = o_ald 0 1 := rfl
theorem k85_1 : CD 85 1 = o_getR 8 4 4 := rfl
theorem k85_4 : CD 85 4 = o_getR 1 0 7 := rfl
theorem k85_7 : CD 85 7 = o_ild 1 8 := rfl
theorem k85_8 : CD 85 8 = o_aald 23 9 := rfl
theorem k85_9 : CD 85 9 = o_getR 5 5 12 := rfl
theorem k85_12 : CD 85 12 = o_ald 0 13 := rfl
theorem k85_13 : CD 85 13 = o_getR 8 2 16 := rfl
theorem k85_16 : CD 85 16 = o_ild 1 17 := rfl
theorem k85_17 : CD 85 17 = o_iald 18 := rfl
theorem k85_18 : CD 85 18 = o_aald 24 19 := rfl
theorem k85_19 : CD 85 19 = o_aret := rfl
theorem k86_0 : CD 86 0 = o_ald 0 1 := rfl
theorem k86_1 : CD 86 1 = o_getR 8 3 4 := rfl
theorem k86_4 : CD 86 4 = o_getR 4 2 7 := rfl
theorem k86_7 : CD 86 7 = o_ald 0 8 := rfl
theorem k86_8 : CD 86 8 = o_getR 8 4 11 := rfl
theorem k86_11 : CD 86 11 = o_getR 1 0 14 := rfl
theorem k86_14 : CD 86 14 = o_ild 1 15 := rfl
theorem k86_15 : CD 86 15 = o_aald 23 16 := rfl
theorem k86_16 : CD 86 16 = o_getI 5 2 19 := rfl
theorem k86_19 : CD 86 19 = o_aald 25 20 := rfl
theorem k86_20 : CD 86 20 = o_aret := rfl
theorem k87_0 : CD 87 0 = o_ald 0 1 := rfl
theorem k87_1 : CD 87 1 = o_ild 1 2 := rfl
theorem k87_2 : CD 87 2 = o_inv 8 84 1 5 := rfl
theorem k87_5 : CD 87 5 = o_ifne 10 8 := rfl
theorem k87_8 : CD 87 8 = o_push (vi 0) 9 := rfl
theorem k87_9 : CD 87 9 = o_zret := rfl
theorem k87_10 : CD 87 10 = o_ald 0 11 := rfl
theorem k87_11 : CD 87 11 = o_ild 1 12 := rfl
theorem k87_12 : CD 87 12 = o_inv 8 85 1 15 := rfl
theorem k87_15 : CD 87 15 = o_ast 4 17 := rfl
theorem k87_17 : CD 87 17 = o_ald 0 18 := rfl
theorem k87_18 : CD 87 18 = o_getR 8 2 21 := rfl
theorem k87_21 : CD 87 21 = o_ild 1 22 := rfl
theorem k87_22 : CD 87 22 = o_iald 23 := rfl
theorem k87_23 : CD 87 23 = o_ifeq 42 26 := rfl
theorem k87_26 : CD 87 26 = o_ild 3 27 := rfl
theorem k87_27 : CD 87 27 = o_ald 0 28 := rfl
theorem k87_28 : CD 87 28 = o_getR 8 5 31 := rfl
theorem k87_31 : CD 87 31 = o_ild 1 32 := rfl
theorem k87_32 : CD 87 32 = o_iald 33 := rfl
theorem k87_33 : CD 87 33 = o_isub 34 := rfl
theorem k87_34 : CD 87 34 = o_ald 4 36 := rfl
theorem k87_36 : CD 87 36 = o_getI 6 4 39 := rfl
theorem k87_39 : CD 87 39 = o_iclt 46 42 := rfl
theorem k87_42 : CD 87 42 = o_push (vi 1) 43 := rfl
theorem k87_43 : CD 87 43 = o_goto 47 := rfl
theorem k87_46 : CD 87 46 = o_push (vi 0) 47 := rfl
theorem k87_47 : CD 87 47 = o_ist 5 49 := rfl
theorem k87_49 : CD 87 49 = o_ild 5 51 := rfl
theorem k87_51 : CD 87 51 = o_ifeq 94 54 := rfl
theorem k87_54 : CD 87 54 = o_ild 3 55 := rfl
theorem k87_55 : CD 87 55 = o_ald 4 57 := rfl
theorem k87_57 : CD 87 57 = o_getI 6 0 60 := rfl
theorem k87_60 : CD 87 60 = o_iadd 61 := rfl
theorem k87_61 : CD 87 61 = o_ald 0 62 := rfl
theorem k87_62 : CD 87 62 = o_getR 8 3 65 := rfl
theorem k87_65 : CD 87 65 = o_getI 4 0 68 := rfl
theorem k87_68 : CD 87 68 = o_icgt 94 71 := rfl
theorem k87_71 : CD 87 71 = o_ald 0 72 := rfl
theorem k87_72 : CD 87 72 = o_getR 8 3 75 := rfl
theorem k87_75 : CD 87 75 = o_ild 2 76 := rfl
theorem k87_76 : CD 87 76 = o_ald 0 77 := rfl
theorem k87_77 : CD 87 77 = o_ild 1 78 := rfl
theorem k87_78 : CD 87 78 = o_inv 8 86 1 81 := rfl
theorem k87_81 : CD 87 81 = o_ald 4 83 := rfl
theorem k87_83 : CD 87 83 = o_ild 3 84 := rfl
theorem k87_84 : CD 87 84 = o_inv 4 67 4 87 := rfl
theorem k87_87 : CD 87 87 = o_ifeq 94 90 := rfl
theorem k87_90 : CD 87 90 = o_push (vi 1) 91 := rfl
theorem k87_91 : CD 87 91 = o_goto 95 := rfl
theorem k87_94 : CD 87 94 = o_push (vi 0) 95 := rfl
theorem k87_95 : CD 87 95 = o_zret := rfl
theorem k88_0 : CD 88 0 = o_push (vi (-1)) 1 := rfl
theorem k88_1 : CD 88 1 = o_ist 4 3 := rfl
theorem k88_3 : CD 88 3 = o_push (vi 0) 4 := rfl
theorem k88_4 : CD 88 4 = o_ist 5 6 := rfl
theorem k88_6 : CD 88 6 = o_push (vi 0) 7 := rfl
theorem k88_7 : CD 88 7 = o_ist 6 9 := rfl
theorem k88_9 : CD 88 9 = o_ild 6 11 := rfl
theorem k88_11 : CD 88 11 = o_ald 0 12 := rfl
theorem k88_12 : CD 88 12 = o_getR 8 4 15 := rfl
theorem k88_15 : CD 88 15 = o_getI 1 1 18 := rfl
theorem k88_18 : CD 88 18 = o_icge 69 21 := rfl
theorem k88_21 : CD 88 21 = o_ald 0 22 := rfl
theorem k88_22 : CD 88 22 = o_ild 6 24 := rfl
theorem k88_24 : CD 88 24 = o_ild 2 25 := rfl
theorem k88_25 : CD 88 25 = o_ild 3 26 := rfl
theorem k88_26 : CD 88 26 = o_inv 8 87 3 29 := rfl
theorem k88_29 : CD 88 29 = o_ifeq 63 32 := rfl
theorem k88_32 : CD 88 32 = o_ald 0 33 := rfl
theorem k88_33 : CD 88 33 = o_ild 6 35 := rfl
theorem k88_35 : CD 88 35 = o_ild 1 36 := rfl
theorem k88_36 : CD 88 36 = o_ild 3 37 := rfl
theorem k88_37 : CD 88 37 = o_inv 8 89 3 40 := rfl
theorem k88_40 : CD 88 40 = o_ist 7 42 := rfl
theorem k88_42 : CD 88 42 = o_ild 4 44 := rfl
theorem k88_44 : CD 88 44 = o_push (vi (-1)) 45 := rfl
theorem k88_45 : CD 88 45 = o_iceq 55 48 := rfl
theorem k88_48 : CD 88 48 = o_ild 7 50 := rfl
theorem k88_50 : CD 88 50 = o_ild 5 52 := rfl
theorem k88_52 : CD 88 52 = o_icge 63 55 := rfl
theorem k88_55 : CD 88 55 = o_ild 6 57 := rfl
theorem k88_57 : CD 88 57 = o_ist 4 59 := rfl
theorem k88_59 : CD 88 59 = o_ild 7 61 := rfl
theorem k88_61 : CD 88 61 = o_ist 5 63 := rfl
theorem k88_63 : CD 88 63 = o_iinc 6 1 66 := rfl
theorem k88_66 : CD 88 66 = o_goto 9 := rfl
theorem k88_69 : CD 88 69 = o_ild 4 71 := rfl
theorem k88_71 : CD 88 71 = o_iret := rfl
theorem k89_0 : CD 89 0 = o_ild 2 1 := rfl
theorem k89_1 : CD 89 1 = o_lsw [(0, 28), (1, 42)] 56 := rfl
theorem k89_28 : CD 89 28 = o_ald 0 29 := rfl
theorem k89_29 : CD 89 29 = o_getR 8 4 32 := rfl
theorem k89_32 : CD 89 32 = o_getR 1 0 35 := rfl
theorem k89_35 : CD 89 35 = o_ild 1 36 := rfl
theorem k89_36 : CD 89 36 = o_aald 23 37 := rfl
theorem k89_37 : CD 89 37 = o_getI 5 3 40 := rfl
theorem k89_40 : CD 89 40 = o_ineg 41 := rfl
theorem k89_41 : CD 89 41 = o_iret := rfl
theorem k89_42 : CD 89 42 = o_ald 0 43 := rfl
theorem k89_43 : CD 89 43 = o_getR 8 3 46 := rfl
theorem k89_46 : CD 89 46 = o_ald 0 47 := rfl
theorem k89_47 : CD 89 47 = o_ild 1 48 := rfl
theorem k89_48 : CD 89 48 = o_inv 8 86 1 51 := rfl
theorem k89_51 : CD 89 51 = o_ild 3 52 := rfl
theorem k89_52 : CD 89 52 = o_inv 4 63 2 55 := rfl
theorem k89_55 : CD 89 55 = o_iret := rfl
theorem k89_56 : CD 89 56 = o_ald 0 57 := rfl
theorem k89_57 : CD 89 57 = o_getR 8 3 60 := rfl
theorem k89_60 : CD 89 60 = o_ald 0 61 := rfl
theorem k89_61 : CD 89 61 = o_ild 1 62 := rfl
theorem k89_62 : CD 89 62 = o_inv 8 86 1 65 := rfl
theorem k89_65 : CD 89 65 = o_inv 4 65 1 68 := rfl
theorem k89_68 : CD 89 68 = o_iret := rfl
theorem k90_0 : CD 90 0 = o_ald 0 1 := rfl
theorem k90_1 : CD 90 1 = o_objinit 4 := rfl
theorem k90_4 : CD 90 4 = o_ald 0 5 := rfl
theorem k90_5 : CD 90 5 = o_new 4 8 := rfl
theorem k90_8 : CD 90 8 = o_dupr 9 := rfl
theorem k90_9 : CD 90 9 = o_inv 4 55 0 12 := rfl
theorem k90_12 : CD 90 12 = o_putR 9 0 15 := rfl
theorem k90_15 : CD 90 15 = o_ald 0 16 := rfl
theorem k90_16 : CD 90 16 = o_new 2 19 := rfl
theorem k90_19 : CD 90 19 = o_dupr 20 := rfl
theorem k90_20 : CD 90 20 = o_inv 2 32 0 23 := rfl
theorem k90_23 : CD 90 23 = o_putR 9 1 26 := rfl
theorem k90_26 : CD 90 26 = o_ald 0 27 := rfl
theorem k90_27 : CD 90 27 = o_new 1 30 := rfl
theorem k90_30 : CD 90 30 = o_dupr 31 := rfl
theorem k90_31 : CD 90 31 = o_inv 1 28 0 34 := rfl
theorem k90_34 : CD 90 34 = o_putR 9 2 37 := rfl
theorem k90_37 : CD 90 37 = o_ald 0 38 := rfl
theorem k90_38 : CD 90 38 = o_new 0 41 := rfl
theorem k90_41 : CD 90 41 = o_dupr 42 := rfl
theorem k90_42 : CD 90 42 = o_ald 0 43 := rfl
theorem k90_43 : CD 90 43 = o_getR 9 0 46 := rfl
theorem k90_46 : CD 90 46 = o_ald 0 47 := rfl
theorem k90_47 : CD 90 47 = o_getR 9 2 50 := rfl
theorem k90_50 : CD 90 50 = o_inv 0 0 2 53 := rfl
theorem k90_53 : CD 90 53 = o_putR 9 3 56 := rfl
theorem k90_56 : CD 90 56 = o_ald 0 57 := rfl
theorem k90_57 : CD 90 57 = o_new 8 60 := rfl
theorem k90_60 : CD 90 60 = o_dupr 61 := rfl
theorem k90_61 : CD 90 61 = o_ald 0 62 := rfl
theorem k90_62 : CD 90 62 = o_getR 9 0 65 := rfl
theorem k90_65 : CD 90 65 = o_ald 0 66 := rfl
theorem k90_66 : CD 90 66 = o_getR 9 2 69 := rfl
theorem k90_69 : CD 90 69 = o_inv 8 75 2 72 := rfl
theorem k90_72 : CD 90 72 = o_putR 9 4 75 := rfl
theorem k90_75 : CD 90 75 = o_ald 0 76 := rfl
theorem k90_76 : CD 90 76 = o_new 3 79 := rfl
theorem k90_79 : CD 90 79 = o_dupr 80 := rfl
theorem k90_80 : CD 90 80 = o_inv 3 51 0 83 := rfl
theorem k90_83 : CD 90 83 = o_putR 9 5 86 := rfl
theorem k90_86 : CD 90 86 = o_ald 0 87 := rfl
theorem k90_87 : CD 90 87 = o_new 6 90 := rfl
theorem k90_90 : CD 90 90 = o_dupr 91 := rfl
theorem k90_91 : CD 90 91 = o_inv 6 72 0 94 := rfl
theorem k90_94 : CD 90 94 = o_putR 9 6 97 := rfl
theorem k90_97 : CD 90 97 = o_vret := rfl
theorem k91_0 : CD 91 0 = o_ild 1 1 := rfl
theorem k91_1 : CD 91 1 = o_push (vi 4) 2 := rfl
theorem k91_2 : CD 91 2 = o_iclt 11 5 := rfl
theorem k91_5 : CD 91 5 = o_ild 1 6 := rfl
theorem k91_6 : CD 91 6 = o_push (vi 12) 8 := rfl
theorem k91_8 : CD 91 8 = o_icle 14 11 := rfl
theorem k91_11 : CD 91 11 = o_push (vi (-3)) 13 := rfl
theorem k91_13 : CD 91 13 = o_iret := rfl
theorem k91_14 : CD 91 14 = o_ald 0 15 := rfl
theorem k91_15 : CD 91 15 = o_getR 9 0 18 := rfl
theorem k91_18 : CD 91 18 = o_getI 4 0 21 := rfl
theorem k91_21 : CD 91 21 = o_ist 2 22 := rfl
theorem k91_22 : CD 91 22 = o_ald 0 23 := rfl
theorem k91_23 : CD 91 23 = o_getR 9 0 26 := rfl
theorem k91_26 : CD 91 26 = o_ild 1 27 := rfl
theorem k91_27 : CD 91 27 = o_putI 4 0 30 := rfl
theorem k91_30 : CD 91 30 = o_ald 0 31 := rfl
theorem k91_31 : CD 91 31 = o_getR 9 0 34 := rfl
theorem k91_34 : CD 91 34 = o_inv 4 56 0 37 := rfl
theorem k91_37 : CD 91 37 = o_ald 0 38 := rfl
theorem k91_38 : CD 91 38 = o_getR 9 0 41 := rfl
theorem k91_41 : CD 91 41 = o_push (vi 0) 42 := rfl
theorem k91_42 : CD 91 42 = o_putI 4 9 45 := rfl
theorem k91_45 : CD 91 45 = o_ald 0 46 := rfl
theorem k91_46 : CD 91 46 = o_getR 9 3 49 := rfl
theorem k91_49 : CD 91 49 = o_inv 0 1 0 52 := rfl
theorem k91_52 : CD 91 52 = o_ild 2 53 := rfl
theorem k91_53 : CD 91 53 = o_iret := rfl
theorem k92_0 : CD 92 0 = o_ild 1 1 := rfl
theorem k92_1 : CD 92 1 = o_push (vi 0) 2 := rfl
theorem k92_2 : CD 92 2 = o_push (vi 40) 4 := rfl
theorem k92_4 : CD 92 4 = o_sta 126 3 7 := rfl
theorem k92_7 : CD 92 7 = o_ifeq 29 10 := rfl
theorem k92_10 : CD 92 10 = o_ild 2 11 := rfl
theorem k92_11 : CD 92 11 = o_push (vi 0) 12 := rfl
theorem k92_12 : CD 92 12 = o_push (vi 8) 14 := rfl
theorem k92_14 : CD 92 14 = o_sta 126 3 17 := rfl
theorem k92_17 : CD 92 17 = o_ifeq 29 20 := rfl
theorem k92_20 : CD 92 20 = o_ild 3 21 := rfl
theorem k92_21 : CD 92 21 = o_push (vi 0) 22 := rfl
theorem k92_22 : CD 92 22 = o_push (vi 3) 23 := rfl
theorem k92_23 : CD 92 23 = o_sta 126 3 26 := rfl
theorem k92_26 : CD 92 26 = o_ifne 32 29 := rfl
theorem k92_29 : CD 92 29 = o_push (vi (-3)) 31 := rfl
theorem k92_31 : CD 92 31 = o_iret := rfl
theorem k92_32 : CD 92 32 = o_ald 0 33 := rfl
theorem k92_33 : CD 92 33 = o_getR 9 0 36 := rfl
theorem k92_36 : CD 92 36 = o_getI 4 3 39 := rfl
theorem k92_39 : CD 92 39 = o_push (vi 8) 41 := rfl
theorem k92_41 : CD 92 41 = o_iclt 47 44 := rfl
theorem k92_44 : CD 92 44 = o_push (vi (-5)) 46 := rfl
theorem k92_46 : CD 92 46 = o_iret := rfl
theorem k92_47 : CD 92 47 = o_ald 0 48 := rfl
theorem k92_48 : CD 92 48 = o_getR 9 0 51 := rfl
theorem k92_51 : CD 92 51 = o_ild 1 52 := rfl
theorem k92_52 : CD 92 52 = o_ild 2 53 := rfl
theorem k92_53 : CD 92 53 = o_ild 3 54 := rfl
theorem k92_54 : CD 92 54 = o_inv 4 60 3 57 := rfl
theorem k92_57 : CD 92 57 = o_iret := rfl
theorem k93_0 : CD 93 0 = o_ald 0 1 := rfl
theorem k93_1 : CD 93 1 = o_getR 9 0 4 := rfl
theorem k93_4 : CD 93 4 = o_ild 1 5 := rfl
theorem k93_5 : CD 93 5 = o_inv 4 58 1 8 := rfl
theorem k93_8 : CD 93 8 = o_ifeq 22 11 := rfl
theorem k93_11 : CD 93 11 = o_ald 0 12 := rfl
theorem k93_12 : CD 93 12 = o_getR 9 0 15 := rfl
theorem k93_15 : CD 93 15 = o_ild 2 16 := rfl
theorem k93_16 : CD 93 16 = o_inv 4 57 1 19 := rfl
theorem k93_19 : CD 93 19 = o_ifne 25 22 := rfl
theorem k93_22 : CD 93 22 = o_push (vi (-2)) 24 := rfl
theorem k93_24 : CD 93 24 = o_iret := rfl
theorem k93_25 : CD 93 25 = o_ald 0 26 := rfl
theorem k93_26 : CD 93 26 = o_getR 9 0 29 := rfl
theorem k93_29 : CD 93 29 = o_getR 4 2 32 := rfl
theorem k93_32 : CD 93 32 = o_ild 1 33 := rfl
theorem k93_33 : CD 93 33 = o_aald 25 34 := rfl
theorem k93_34 : CD 93 34 = o_ast 3 35 := rfl
theorem k93_35 : CD 93 35 = o_ald 0 36 := rfl
theorem k93_36 : CD 93 36 = o_getR 9 0 39 := rfl
theorem k93_39 : CD 93 39 = o_ald 3 40 := rfl
theorem k93_40 : CD 93 40 = o_ild 2 41 := rfl
theorem k93_41 : CD 93 41 = o_inv 4 64 2 44 := rfl
theorem k93_44 : CD 93 44 = o_ifeq 59 47 := rfl
theorem k93_47 : CD 93 47 = o_ald 0 48 := rfl
theorem k93_48 : CD 93 48 = o_getR 9 0 51 := rfl
theorem k93_51 : CD 93 51 = o_ald 3 52 := rfl
theorem k93_52 : CD 93 52 = o_ild 2 53 := rfl
theorem k93_53 : CD 93 53 = o_inv 4 63 2 56 := rfl
theorem k93_56 : CD 93 56 = o_goto 60 := rfl
theorem k93_59 : CD 93 59 = o_push (vi (-1)) 60 := rfl
theorem k93_60 : CD 93 60 = o_iret := rfl
theorem k94_0 : CD 94 0 = o_ild 1 1 := rfl
theorem k94_1 : CD 94 1 = o_push (vi 0) 2 := rfl
theorem k94_2 : CD 94 2 = o_push (vi 3) 3 := rfl
theorem k94_3 : CD 94 3 = o_sta 126 3 6 := rfl
theorem k94_6 : CD 94 6 = o_ifeq 36 9 := rfl
theorem k94_9 : CD 94 9 = o_ald 0 10 := rfl
theorem k94_10 : CD 94 10 = o_getR 9 0 13 := rfl
theorem k94_13 : CD 94 13 = o_ild 2 14 := rfl
theorem k94_14 : CD 94 14 = o_inv 4 57 1 17 := rfl
theorem k94_17 : CD 94 17 = o_ifeq 36 20 := rfl
theorem k94_20 : CD 94 20 = o_ald 0 21 := rfl
theorem k94_21 : CD 94 21 = o_getR 9 0 24 := rfl
theorem k94_24 : CD 94 24 = o_ild 3 25 := rfl
theorem k94_25 : CD 94 25 = o_inv 4 57 1 28 := rfl
theorem k94_28 : CD 94 28 = o_ifeq 36 31 := rfl
theorem k94_31 : CD 94 31 = o_ild 2 32 := rfl
theorem k94_32 : CD 94 32 = o_ild 3 33 := rfl
theorem k94_33 : CD 94 33 = o_icle 39 36 := rfl
theorem k94_36 : CD 94 36 = o_push (vi (-3)) 38 := rfl
theorem k94_38 : CD 94 38 = o_iret := rfl
theorem k94_39 : CD 94 39 = o_ald 0 40 := rfl
theorem k94_40 : CD 94 40 = o_getR 9 0 43 := rfl
theorem k94_43 : CD 94 43 = o_ild 1 44 := rfl
theorem k94_44 : CD 94 44 = o_putI 4 4 47 := rfl
theorem k94_47 : CD 94 47 = o_ald 0 48 := rfl
theorem k94_48 : CD 94 48 = o_getR 9 0 51 := rfl
theorem k94_51 : CD 94 51 = o_ild 2 52 := rfl
theorem k94_52 : CD 94 52 = o_putI 4 5 55 := rfl
theorem k94_55 : CD 94 55 = o_ald 0 56 := rfl
theorem k94_56 : CD 94 56 = o_getR 9 0 59 := rfl
theorem k94_59 : CD 94 59 = o_ild 3 60 := rfl
theorem k94_60 : CD 94 60 = o_putI 4 6 63 := rfl
theorem k94_63 : CD 94 63 = o_ald 0 64 := rfl
theorem k94_64 : CD 94 64 = o_getR 9 3 67 := rfl
theorem k94_67 : CD 94 67 = o_inv 0 1 0 70 := rfl
theorem k94_70 : CD 94 70 = o_push (vi 1) 71 := rfl
theorem k94_71 : CD 94 71 = o_iret := rfl
theorem k95_0 : CD 95 0 = o_ald 0 1 := rfl
theorem k95_1 : CD 95 1 = o_getR 9 0 4 := rfl
theorem k95_4 : CD 95 4 = o_ild 1 5 := rfl
theorem k95_5 : CD 95 5 = o_inv 4 59 1 8 := rfl
theorem k95_8 : CD 95 8 = o_ifeq 22 11 := rfl
theorem k95_11 : CD 95 11 = o_ald 0 12 := rfl
theorem k95_12 : CD 95 12 = o_getR 9 0 15 := rfl
theorem k95_15 : CD 95 15 = o_ild 2 16 := rfl
theorem k95_16 : CD 95 16 = o_inv 4 57 1 19 := rfl
theorem k95_19 : CD 95 19 = o_ifne 25 22 := rfl
theorem k95_22 : CD 95 22 = o_push (vi (-2)) 24 := rfl
theorem k95_24 : CD 95 24 = o_iret := rfl
theorem k95_25 : CD 95 25 = o_ild 3 26 := rfl
theorem k95_26 : CD 95 26 = o_push (vi 0) 27 := rfl
theorem k95_27 : CD 95 27 = o_push (vi 4) 28 := rfl
theorem k95_28 : CD 95 28 = o_sta 126 3 31 := rfl
theorem k95_31 : CD 95 31 = o_ifne 37 34 := rfl
theorem k95_34 : CD 95 34 = o_push (vi (-3)) 36 := rfl
theorem k95_36 : CD 95 36 = o_iret := rfl
theorem k95_37 : CD 95 37 = o_ald 0 38 := rfl
theorem k95_38 : CD 95 38 = o_getR 9 0 41 := rfl
theorem k95_41 : CD 95 41 = o_getR 4 7 44 := rfl
theorem k95_44 : CD 95 44 = o_ild 1 45 := rfl
theorem k95_45 : CD 95 45 = o_aald 26 46 := rfl
theorem k95_46 : CD 95 46 = o_ild 2 47 := rfl
theorem k95_47 : CD 95 47 = o_iald 48 := rfl
theorem k95_48 : CD 95 48 = o_ist 4 50 := rfl
theorem k95_50 : CD 95 50 = o_ald 0 51 := rfl
theorem k95_51 : CD 95 51 = o_getR 9 0 54 := rfl
theorem k95_54 : CD 95 54 = o_getR 4 7 57 := rfl
theorem k95_57 : CD 95 57 = o_ild 1 58 := rfl
theorem k95_58 : CD 95 58 = o_aald 26 59 := rfl
theorem k95_59 : CD 95 59 = o_ild 2 60 := rfl
theorem k95_60 : CD 95 60 = o_ild 3 61 := rfl
theorem k95_61 : CD 95 61 = o_iast 62 := rfl
theorem k95_62 : CD 95 62 = o_ald 0 63 := rfl
theorem k95_63 : CD 95 63 = o_getR 9 3 66 := rfl
theorem k95_66 : CD 95 66 = o_inv 0 1 0 69 := rfl
theorem k95_69 : CD 95 69 = o_ild 4 71 := rfl
theorem k95_71 : CD 95 71 = o_iret := rfl
theorem k96_0 : CD 96 0 = o_ild 1 1 := rfl
theorem k96_1 : CD 96 1 = o_push (vi 1) 2 := rfl
theorem k96_2 : CD 96 2 = o_push (vi 9) 4 := rfl
theorem k96_4 : CD 96 4 = o_sta 126 3 7 := rfl
theorem k96_7 : CD 96 7 = o_ifne 13 10 := rfl
theorem k96_10 : CD 96 10 = o_push (vi (-3)) 12 := rfl
theorem k96_12 : CD 96 12 = o_iret := rfl
theorem k96_13 : CD 96 13 = o_ald 0 14 := rfl
theorem k96_14 : CD 96 14 = o_getR 9 0 17 := rfl
theorem k96_17 : CD 96 17 = o_getI 4 9 20 := rfl
theorem k96_20 : CD 96 20 = o_push (vi 4) 21 := rfl
theorem k96_21 : CD 96 21 = o_iclt 27 24 := rfl
theorem k96_24 : CD 96 24 = o_push (vi (-5)) 26 := rfl
theorem k96_26 : CD 96 26 = o_iret := rfl
theorem k96_27 : CD 96 27 = o_ald 0 28 := rfl
theorem k96_28 : CD 96 28 = o_getR 9 0 31 := rfl
theorem k96_31 : CD 96 31 = o_ild 1 32 := rfl
theorem k96_32 : CD 96 32 = o_inv 4 61 1 35 := rfl
theorem k96_35 : CD 96 35 = o_iret := rfl
theorem k97_0 : CD 97 0 = o_ald 0 1 := rfl
theorem k97_1 : CD 97 1 = o_getR 9 0 4 := rfl
theorem k97_4 : CD 97 4 = o_getI 4 9 7 := rfl
theorem k97_7 : CD 97 7 = o_ist 1 8 := rfl
theorem k97_8 : CD 97 8 = o_ald 0 9 := rfl
theorem k97_9 : CD 97 9 = o_getR 9 0 12 := rfl
theorem k97_12 : CD 97 12 = o_push (vi 0) 13 := rfl
theorem k97_13 : CD 97 13 = o_putI 4 9 16 := rfl
theorem k97_16 : CD 97 16 = o_ild 1 17 := rfl
theorem k97_17 : CD 97 17 = o_iret := rfl
theorem k98_0 : CD 98 0 = o_ild 3 1 := rfl
theorem k98_1 : CD 98 1 = o_push (vi 1) 2 := rfl
theorem k98_2 : CD 98 2 = o_push (vi 8) 4 := rfl
theorem k98_4 : CD 98 4 = o_sta 126 3 7 := rfl
theorem k98_7 : CD 98 7 = o_ifne 13 10 := rfl
theorem k98_10 : CD 98 10 = o_push (vi (-3)) 12 := rfl
theorem k98_12 : CD 98 12 = o_iret := rfl
theorem k98_13 : CD 98 13 = o_ald 0 14 := rfl
theorem k98_14 : CD 98 14 = o_getR 9 1 17 := rfl
theorem k98_17 : CD 98 17 = o_getI 2 1 20 := rfl
theorem k98_20 : CD 98 20 = o_ild 3 21 := rfl
theorem k98_21 : CD 98 21 = o_iadd 22 := rfl
theorem k98_22 : CD 98 22 = o_push (vi 160) 25 := rfl
theorem k98_25 : CD 98 25 = o_icle 31 28 := rfl
theorem k98_28 : CD 98 28 = o_push (vi (-5)) 30 := rfl
theorem k98_30 : CD 98 30 = o_iret := rfl
theorem k98_31 : CD 98 31 = o_ald 0 32 := rfl
theorem k98_32 : CD 98 32 = o_getR 9 1 35 := rfl
theorem k98_35 : CD 98 35 = o_lld 1 36 := rfl
theorem k98_36 : CD 98 36 = o_ild 3 37 := rfl
theorem k98_37 : CD 98 37 = o_inv 2 33 2 40 := rfl
theorem k98_40 : CD 98 40 = o_ald 0 41 := rfl
theorem k98_41 : CD 98 41 = o_getR 9 1 44 := rfl
theorem k98_44 : CD 98 44 = o_getI 2 1 47 := rfl
theorem k98_47 : CD 98 47 = o_iret := rfl
theorem k99_0 : CD 99 0 = o_ald 0 1 := rfl
theorem k99_1 : CD 99 1 = o_getR 9 1 4 := rfl
theorem k99_4 : CD 99 4 = o_getI 2 1 7 := rfl
theorem k99_7 : CD 99 7 = o_ist 1 8 := rfl
theorem k99_8 : CD 99 8 = o_ald 0 9 := rfl
theorem k99_9 : CD 99 9 = o_getR 9 1 12 := rfl
theorem k99_12 : CD 99 12 = o_push (vi 0) 13 := rfl
theorem k99_13 : CD 99 13 = o_putI 2 1 16 := rfl
theorem k99_16 : CD 99 16 = o_ild 1 17 := rfl
theorem k99_17 : CD 99 17 = o_iret := rfl
theorem k100_0 : CD 100 0 = o_ald 0 1 := rfl
theorem k100_1 : CD 100 1 = o_getR 9 1 4 := rfl
theorem k100_4 : CD 100 4 = o_ald 0 5 := rfl
theorem k100_5 : CD 100 5 = o_getR 9 0 8 := rfl
theorem k100_8 : CD 100 8 = o_getI 4 3 11 := rfl
theorem k100_11 : CD 100 11 = o_inv 2 34 1 14 := rfl
theorem k100_14 : CD 100 14 = o_ald 0 15 := rfl
theorem k100_15 : CD 100 15 = o_getR 9 1 18 := rfl
theorem k100_18 : CD 100 18 = o_getI 2 3 21 := rfl
theorem k100_21 : CD 100 21 = o_iret := rfl
theorem k101_0 : CD 101 0 = o_ald 0 1 := rfl
theorem k101_1 : CD 101 1 = o_getR 9 1 4 := rfl
theorem k101_4 : CD 101 4 = o_ald 0 5 := rfl
theorem k101_5 : CD 101 5 = o_getR 9 0 8 := rfl
theorem k101_8 : CD 101 8 = o_getI 4 3 11 := rfl
theorem k101_11 : CD 101 11 = o_inv 2 34 1 14 := rfl
theorem k101_14 : CD 101 14 = o_ald 0 15 := rfl
theorem k101_15 : CD 101 15 = o_getR 9 1 18 := rfl
theorem k101_18 : CD 101 18 = o_getI 2 4 21 := rfl
theorem k101_21 : CD 101 21 = o_iret := rfl
theorem k102_0 : CD 102 0 = o_ald 0 1 := rfl
theorem k102_1 : CD 102 1 = o_getR 9 1 4 := rfl
theorem k102_4 : CD 102 4 = o_ald 0 5 := rfl
theorem k102_5 : CD 102 5 = o_getR 9 0 8 := rfl
theorem k102_8 : CD 102 8 = o_getI 4 3 11 := rfl
theorem k102_11 : CD 102 11 = o_inv 2 34 1 14 := rfl
theorem k102_14 : CD 102 14 = o_ald 0 15 := rfl
theorem k102_15 : CD 102 15 = o_getR 9 1 18 := rfl
theorem k102_18 : CD 102 18 = o_getI 2 3 21 := rfl
theorem k102_21 : CD 102 21 = o_push (vi (-1)) 22 := rfl
theorem k102_22 : CD 102 22 = o_iceq 28 25 := rfl
theorem k102_25 : CD 102 25 = o_push (vi (-4)) 27 := rfl
theorem k102_27 : CD 102 27 = o_iret := rfl
theorem k102_28 : CD 102 28 = o_ald 0 29 := rfl
theorem k102_29 : CD 102 29 = o_getR 9 2 32 := rfl
theorem k102_32 : CD 102 32 = o_getI 1 1 35 := rfl
theorem k102_35 : CD 102 35 = o_push (vi 5) 36 := rfl
theorem k102_36 : CD 102 36 = o_iclt 42 39 := rfl
theorem k102_39 : CD 102 39 = o_push (vi (-5)) 41 := rfl
theorem k102_41 : CD 102 41 = o_iret := rfl
theorem k102_42 : CD 102 42 = o_ald 0 43 := rfl
theorem k102_43 : CD 102 43 = o_getR 9 1 46 := rfl
theorem k102_46 : CD 102 46 = o_ald 0 47 := rfl
theorem k102_47 : CD 102 47 = o_getR 9 2 50 := rfl
theorem k102_50 : CD 102 50 = o_ald 0 51 := rfl
theorem k102_51 : CD 102 51 = o_getR 9 1 54 := rfl
theorem k102_54 : CD 102 54 = o_getR 2 2 57 := rfl
theorem k102_57 : CD 102 57 = o_inv 1 30 1 60 := rfl
theorem k102_60 : CD 102 60 = o_putR 2 2 63 := rfl
theorem k102_63 : CD 102 63 = o_ald 0 64 := rfl
theorem k102_64 : CD 102 64 = o_getR 9 1 67 := rfl
theorem k102_67 : CD 102 67 = o_push (vi 0) 68 := rfl
theorem k102_68 : CD 102 68 = o_putI 2 1 71 := rfl
theorem k102_71 : CD 102 71 = o_ald 0 72 := rfl
theorem k102_72 : CD 102 72 = o_getR 9 3 75 := rfl
theorem k102_75 : CD 102 75 = o_inv 0 1 0 78 := rfl
theorem k102_78 : CD 102 78 = o_ald 0 79 := rfl
theorem k102_79 : CD 102 79 = o_getR 9 2 82 := rfl
theorem k102_82 : CD 102 82 = o_getI 1 1 85 := rfl
theorem k102_85 : CD 102 85 = o_push (vi 1) 86 := rfl
theorem k102_86 : CD 102 86 = o_isub 87 := rfl
theorem k102_87 : CD 102 87 = o_iret := rfl
theorem k103_0 : CD 103 0 = o_ald 0 1 := rfl
theorem k103_1 : CD 103 1 = o_getR 9 2 4 := rfl
theorem k103_4 : CD 103 4 = o_ild 1 5 := rfl
theorem k103_5 : CD 103 5 = o_inv 1 29 1 8 := rfl
theorem k103_8 : CD 103 8 = o_ifne 14 11 := rfl
theorem k103_11 : CD 103 11 = o_push (vi (-2)) 13 := rfl
theorem k103_13 : CD 103 13 = o_iret := rfl
theorem k103_14 : CD 103 14 = o_ald 0 15 := rfl
theorem k103_15 : CD 103 15 = o_getR 9 2 18 := rfl
theorem k103_18 : CD 103 18 = o_ild 1 19 := rfl
theorem k103_19 : CD 103 19 = o_inv 1 31 1 22 := rfl
theorem k103_22 : CD 103 22 = o_ald 0 23 := rfl
theorem k103_23 : CD 103 23 = o_getR 9 3 26 := rfl
theorem k103_26 : CD 103 26 = o_inv 0 1 0 29 := rfl
theorem k103_29 : CD 103 29 = o_push (vi 1) 30 := rfl
theorem k103_30 : CD 103 30 = o_iret := rfl
