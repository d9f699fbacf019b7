theorem k208_0 : CD 208 0 = o_ild 1 1 := rfl
theorem k208_1 : CD 208 1 = o_tsw 0 [44, 49, 54, 59, 64, 69, 74] 79 := rfl
theorem k208_44 : CD 208 44 = o_ald 0 45 := rfl
theorem k208_45 : CD 208 45 = o_getI 10 0 48 := rfl
theorem k208_48 : CD 208 48 = o_iret := rfl
theorem k208_49 : CD 208 49 = o_ald 0 50 := rfl
theorem k208_50 : CD 208 50 = o_getI 10 1 53 := rfl
theorem k208_53 : CD 208 53 = o_iret := rfl
theorem k208_54 : CD 208 54 = o_ald 0 55 := rfl
theorem k208_55 : CD 208 55 = o_getI 10 2 58 := rfl
theorem k208_58 : CD 208 58 = o_iret := rfl
theorem k208_59 : CD 208 59 = o_ald 0 60 := rfl
theorem k208_60 : CD 208 60 = o_getI 10 21 63 := rfl
theorem k208_63 : CD 208 63 = o_iret := rfl
theorem k208_64 : CD 208 64 = o_ald 0 65 := rfl
theorem k208_65 : CD 208 65 = o_getI 10 10 68 := rfl
theorem k208_68 : CD 208 68 = o_iret := rfl
theorem k208_69 : CD 208 69 = o_ald 0 70 := rfl
theorem k208_70 : CD 208 70 = o_getI 10 12 73 := rfl
theorem k208_73 : CD 208 73 = o_iret := rfl
theorem k208_74 : CD 208 74 = o_ald 0 75 := rfl
theorem k208_75 : CD 208 75 = o_getI 10 39 78 := rfl
theorem k208_78 : CD 208 78 = o_iret := rfl
theorem k208_79 : CD 208 79 = o_push (vi (-3)) 81 := rfl
theorem k208_81 : CD 208 81 = o_iret := rfl
theorem k209_0 : CD 209 0 = o_lld 0 1 := rfl
theorem k209_1 : CD 209 1 = o_lld 0 2 := rfl
theorem k209_2 : CD 209 2 = o_push (vi 1) 3 := rfl
theorem k209_3 : CD 209 3 = o_lushr 4 := rfl
theorem k209_4 : CD 209 4 = o_push (vl 6148914691236517205) 7 := rfl
theorem k209_7 : CD 209 7 = o_land 8 := rfl
theorem k209_8 : CD 209 8 = o_lsub 9 := rfl
theorem k209_9 : CD 209 9 = o_lst 0 10 := rfl
theorem k209_10 : CD 209 10 = o_lld 0 11 := rfl
theorem k209_11 : CD 209 11 = o_push (vl 3689348814741910323) 14 := rfl
theorem k209_14 : CD 209 14 = o_land 15 := rfl
theorem k209_15 : CD 209 15 = o_lld 0 16 := rfl
theorem k209_16 : CD 209 16 = o_push (vi 2) 17 := rfl
theorem k209_17 : CD 209 17 = o_lushr 18 := rfl
theorem k209_18 : CD 209 18 = o_push (vl 3689348814741910323) 21 := rfl
theorem k209_21 : CD 209 21 = o_land 22 := rfl
theorem k209_22 : CD 209 22 = o_ladd 23 := rfl
theorem k209_23 : CD 209 23 = o_lst 0 24 := rfl
theorem k209_24 : CD 209 24 = o_lld 0 25 := rfl
theorem k209_25 : CD 209 25 = o_lld 0 26 := rfl
theorem k209_26 : CD 209 26 = o_push (vi 4) 27 := rfl
theorem k209_27 : CD 209 27 = o_lushr 28 := rfl
theorem k209_28 : CD 209 28 = o_ladd 29 := rfl
theorem k209_29 : CD 209 29 = o_push (vl 1085102592571150095) 32 := rfl
theorem k209_32 : CD 209 32 = o_land 33 := rfl
theorem k209_33 : CD 209 33 = o_lst 0 34 := rfl
theorem k209_34 : CD 209 34 = o_lld 0 35 := rfl
theorem k209_35 : CD 209 35 = o_lld 0 36 := rfl
theorem k209_36 : CD 209 36 = o_push (vi 8) 38 := rfl
theorem k209_38 : CD 209 38 = o_lushr 39 := rfl
theorem k209_39 : CD 209 39 = o_ladd 40 := rfl
theorem k209_40 : CD 209 40 = o_lst 0 41 := rfl
theorem k209_41 : CD 209 41 = o_lld 0 42 := rfl
theorem k209_42 : CD 209 42 = o_lld 0 43 := rfl
theorem k209_43 : CD 209 43 = o_push (vi 16) 45 := rfl
theorem k209_45 : CD 209 45 = o_lushr 46 := rfl
theorem k209_46 : CD 209 46 = o_ladd 47 := rfl
theorem k209_47 : CD 209 47 = o_lst 0 48 := rfl
theorem k209_48 : CD 209 48 = o_lld 0 49 := rfl
theorem k209_49 : CD 209 49 = o_lld 0 50 := rfl
theorem k209_50 : CD 209 50 = o_push (vi 32) 52 := rfl
theorem k209_52 : CD 209 52 = o_lushr 53 := rfl
theorem k209_53 : CD 209 53 = o_ladd 54 := rfl
theorem k209_54 : CD 209 54 = o_lst 0 55 := rfl
theorem k209_55 : CD 209 55 = o_lld 0 56 := rfl
theorem k209_56 : CD 209 56 = o_l2i 57 := rfl
theorem k209_57 : CD 209 57 = o_push (vi 127) 59 := rfl
theorem k209_59 : CD 209 59 = o_iand 60 := rfl
theorem k209_60 : CD 209 60 = o_iret := rfl
