theorem k104_0 : CD 104 0 = o_ald 0 1 := rfl
theorem k104_1 : CD 104 1 = o_getR 9 2 4 := rfl
theorem k104_4 : CD 104 4 = o_ild 1 5 := rfl
theorem k104_5 : CD 104 5 = o_inv 1 29 1 8 := rfl
theorem k104_8 : CD 104 8 = o_ifne 14 11 := rfl
theorem k104_11 : CD 104 11 = o_push (vi (-2)) 13 := rfl
theorem k104_13 : CD 104 13 = o_iret := rfl
theorem k104_14 : CD 104 14 = o_ald 0 15 := rfl
theorem k104_15 : CD 104 15 = o_getR 9 2 18 := rfl
theorem k104_18 : CD 104 18 = o_getR 1 0 21 := rfl
theorem k104_21 : CD 104 21 = o_ild 1 22 := rfl
theorem k104_22 : CD 104 22 = o_aald 23 23 := rfl
theorem k104_23 : CD 104 23 = o_ast 3 24 := rfl
theorem k104_24 : CD 104 24 = o_ild 2 25 := rfl
theorem k104_25 : CD 104 25 = o_push (vi 0) 26 := rfl
theorem k104_26 : CD 104 26 = o_push (vi 4) 27 := rfl
theorem k104_27 : CD 104 27 = o_sta 126 3 30 := rfl
theorem k104_30 : CD 104 30 = o_ifeq 39 33 := rfl
theorem k104_33 : CD 104 33 = o_ald 3 34 := rfl
theorem k104_34 : CD 104 34 = o_ild 2 35 := rfl
theorem k104_35 : CD 104 35 = o_inv 5 70 1 38 := rfl
theorem k104_38 : CD 104 38 = o_iret := rfl
theorem k104_39 : CD 104 39 = o_ild 2 40 := rfl
theorem k104_40 : CD 104 40 = o_push (vi 10) 42 := rfl
theorem k104_42 : CD 104 42 = o_idiv 43 := rfl
theorem k104_43 : CD 104 43 = o_push (vi 1) 44 := rfl
theorem k104_44 : CD 104 44 = o_isub 45 := rfl
theorem k104_45 : CD 104 45 = o_ist 4 47 := rfl
theorem k104_47 : CD 104 47 = o_ild 2 48 := rfl
theorem k104_48 : CD 104 48 = o_push (vi 10) 50 := rfl
theorem k104_50 : CD 104 50 = o_irem 51 := rfl
theorem k104_51 : CD 104 51 = o_ist 5 53 := rfl
theorem k104_53 : CD 104 53 = o_ild 2 54 := rfl
theorem k104_54 : CD 104 54 = o_push (vi 10) 56 := rfl
theorem k104_56 : CD 104 56 = o_push (vi 39) 58 := rfl
theorem k104_58 : CD 104 58 = o_sta 126 3 61 := rfl
theorem k104_61 : CD 104 61 = o_ifeq 79 64 := rfl
theorem k104_64 : CD 104 64 = o_ild 5 66 := rfl
theorem k104_66 : CD 104 66 = o_ild 4 68 := rfl
theorem k104_68 : CD 104 68 = o_ifne 75 71 := rfl
theorem k104_71 : CD 104 71 = o_push (vi 3) 72 := rfl
theorem k104_72 : CD 104 72 = o_goto 76 := rfl
theorem k104_75 : CD 104 75 = o_push (vi 5) 76 := rfl
theorem k104_76 : CD 104 76 = o_icle 82 79 := rfl
theorem k104_79 : CD 104 79 = o_push (vi (-3)) 81 := rfl
theorem k104_81 : CD 104 81 = o_iret := rfl
theorem k104_82 : CD 104 82 = o_ild 4 84 := rfl
theorem k104_84 : CD 104 84 = o_ald 3 85 := rfl
theorem k104_85 : CD 104 85 = o_getI 5 4 88 := rfl
theorem k104_88 : CD 104 88 = o_icge 106 91 := rfl
theorem k104_91 : CD 104 91 = o_ald 3 92 := rfl
theorem k104_92 : CD 104 92 = o_getR 5 5 95 := rfl
theorem k104_95 : CD 104 95 = o_ild 4 97 := rfl
theorem k104_97 : CD 104 97 = o_aald 24 98 := rfl
theorem k104_98 : CD 104 98 = o_ild 5 100 := rfl
theorem k104_100 : CD 104 100 = o_inv 6 73 1 103 := rfl
theorem k104_103 : CD 104 103 = o_goto 107 := rfl
theorem k104_106 : CD 104 106 = o_push (vi (-1)) 107 := rfl
theorem k104_107 : CD 104 107 = o_iret := rfl
theorem k105_0 : CD 105 0 = o_ald 0 1 := rfl
theorem k105_1 : CD 105 1 = o_getR 9 2 4 := rfl
theorem k105_4 : CD 105 4 = o_ild 1 5 := rfl
theorem k105_5 : CD 105 5 = o_inv 1 29 1 8 := rfl
theorem k105_8 : CD 105 8 = o_ifne 14 11 := rfl
theorem k105_11 : CD 105 11 = o_push (vi (-2)) 13 := rfl
theorem k105_13 : CD 105 13 = o_iret := rfl
theorem k105_14 : CD 105 14 = o_ild 2 15 := rfl
theorem k105_15 : CD 105 15 = o_push (vi 1) 16 := rfl
theorem k105_16 : CD 105 16 = o_push (vi 99) 18 := rfl
theorem k105_18 : CD 105 18 = o_sta 126 3 21 := rfl
theorem k105_21 : CD 105 21 = o_ifne 27 24 := rfl
theorem k105_24 : CD 105 24 = o_push (vi (-3)) 26 := rfl
theorem k105_26 : CD 105 26 = o_iret := rfl
theorem k105_27 : CD 105 27 = o_ald 0 28 := rfl
theorem k105_28 : CD 105 28 = o_getR 9 2 31 := rfl
theorem k105_31 : CD 105 31 = o_getR 1 0 34 := rfl
theorem k105_34 : CD 105 34 = o_ild 1 35 := rfl
theorem k105_35 : CD 105 35 = o_aald 23 36 := rfl
theorem k105_36 : CD 105 36 = o_getI 5 3 39 := rfl
theorem k105_39 : CD 105 39 = o_ist 3 40 := rfl
theorem k105_40 : CD 105 40 = o_ald 0 41 := rfl
theorem k105_41 : CD 105 41 = o_getR 9 2 44 := rfl
theorem k105_44 : CD 105 44 = o_getR 1 0 47 := rfl
theorem k105_47 : CD 105 47 = o_ild 1 48 := rfl
theorem k105_48 : CD 105 48 = o_aald 23 49 := rfl
theorem k105_49 : CD 105 49 = o_ild 2 50 := rfl
theorem k105_50 : CD 105 50 = o_putI 5 3 53 := rfl
theorem k105_53 : CD 105 53 = o_ald 0 54 := rfl
theorem k105_54 : CD 105 54 = o_getR 9 3 57 := rfl
theorem k105_57 : CD 105 57 = o_inv 0 1 0 60 := rfl
theorem k105_60 : CD 105 60 = o_ild 3 61 := rfl
theorem k105_61 : CD 105 61 = o_iret := rfl
theorem k106_0 : CD 106 0 = o_ald 0 1 := rfl
theorem k106_1 : CD 106 1 = o_getR 9 2 4 := rfl
theorem k106_4 : CD 106 4 = o_ild 1 5 := rfl
theorem k106_5 : CD 106 5 = o_inv 1 29 1 8 := rfl
theorem k106_8 : CD 106 8 = o_ifne 14 11 := rfl
theorem k106_11 : CD 106 11 = o_push (vi (-2)) 13 := rfl
theorem k106_13 : CD 106 13 = o_iret := rfl
theorem k106_14 : CD 106 14 = o_ald 0 15 := rfl
theorem k106_15 : CD 106 15 = o_getR 9 3 18 := rfl
theorem k106_18 : CD 106 18 = o_inv 0 2 0 21 := rfl
theorem k106_21 : CD 106 21 = o_ald 0 22 := rfl
theorem k106_22 : CD 106 22 = o_getR 9 3 25 := rfl
theorem k106_25 : CD 106 25 = o_getR 0 1 28 := rfl
theorem k106_28 : CD 106 28 = o_ild 1 29 := rfl
theorem k106_29 : CD 106 29 = o_iald 30 := rfl
theorem k106_30 : CD 106 30 = o_iret := rfl
theorem k107_0 : CD 107 0 = o_ald 0 1 := rfl
theorem k107_1 : CD 107 1 = o_getR 9 2 4 := rfl
theorem k107_4 : CD 107 4 = o_ild 1 5 := rfl
theorem k107_5 : CD 107 5 = o_inv 1 29 1 8 := rfl
theorem k107_8 : CD 107 8 = o_ifne 14 11 := rfl
theorem k107_11 : CD 107 11 = o_push (vi (-2)) 13 := rfl
theorem k107_13 : CD 107 13 = o_iret := rfl
theorem k107_14 : CD 107 14 = o_ald 0 15 := rfl
theorem k107_15 : CD 107 15 = o_getR 9 3 18 := rfl
theorem k107_18 : CD 107 18 = o_inv 0 2 0 21 := rfl
theorem k107_21 : CD 107 21 = o_ild 2 22 := rfl
theorem k107_22 : CD 107 22 = o_push (vi 0) 23 := rfl
theorem k107_23 : CD 107 23 = o_ald 0 24 := rfl
theorem k107_24 : CD 107 24 = o_getR 9 3 27 := rfl
theorem k107_27 : CD 107 27 = o_getR 0 1 30 := rfl
theorem k107_30 : CD 107 30 = o_ild 1 31 := rfl
theorem k107_31 : CD 107 31 = o_iald 32 := rfl
theorem k107_32 : CD 107 32 = o_push (vi 1) 33 := rfl
theorem k107_33 : CD 107 33 = o_isub 34 := rfl
theorem k107_34 : CD 107 34 = o_sta 126 3 37 := rfl
theorem k107_37 : CD 107 37 = o_ifeq 54 40 := rfl
theorem k107_40 : CD 107 40 = o_ald 0 41 := rfl
theorem k107_41 : CD 107 41 = o_getR 9 3 44 := rfl
theorem k107_44 : CD 107 44 = o_getR 0 0 47 := rfl
theorem k107_47 : CD 107 47 = o_ild 1 48 := rfl
theorem k107_48 : CD 107 48 = o_aald 26 49 := rfl
theorem k107_49 : CD 107 49 = o_ild 2 50 := rfl
theorem k107_50 : CD 107 50 = o_iald 51 := rfl
theorem k107_51 : CD 107 51 = o_goto 56 := rfl
theorem k107_54 : CD 107 54 = o_push (vi (-3)) 56 := rfl
theorem k107_56 : CD 107 56 = o_iret := rfl
theorem k108_0 : CD 108 0 = o_ild 1 1 := rfl
theorem k108_1 : CD 108 1 = o_push (vi 0) 2 := rfl
theorem k108_2 : CD 108 2 = o_push (vi 1) 3 := rfl
theorem k108_3 : CD 108 3 = o_sta 126 3 6 := rfl
theorem k108_6 : CD 108 6 = o_ifne 12 9 := rfl
theorem k108_9 : CD 108 9 = o_push (vi (-3)) 11 := rfl
theorem k108_11 : CD 108 11 = o_iret := rfl
theorem k108_12 : CD 108 12 = o_ald 0 13 := rfl
theorem k108_13 : CD 108 13 = o_getR 9 3 16 := rfl
theorem k108_16 : CD 108 16 = o_inv 0 2 0 19 := rfl
theorem k108_19 : CD 108 19 = o_ild 1 20 := rfl
theorem k108_20 : CD 108 20 = o_ifne 33 23 := rfl
theorem k108_23 : CD 108 23 = o_ald 0 24 := rfl
theorem k108_24 : CD 108 24 = o_getR 9 3 27 := rfl
theorem k108_27 : CD 108 27 = o_inv 0 3 0 30 := rfl
theorem k108_30 : CD 108 30 = o_goto 40 := rfl
theorem k108_33 : CD 108 33 = o_ald 0 34 := rfl
theorem k108_34 : CD 108 34 = o_getR 9 3 37 := rfl
theorem k108_37 : CD 108 37 = o_inv 0 4 0 40 := rfl
theorem k108_40 : CD 108 40 = o_iret := rfl
theorem k109_0 : CD 109 0 = o_ald 0 1 := rfl
theorem k109_1 : CD 109 1 = o_getR 9 2 4 := rfl
theorem k109_4 : CD 109 4 = o_ild 1 5 := rfl
theorem k109_5 : CD 109 5 = o_inv 1 29 1 8 := rfl
theorem k109_8 : CD 109 8 = o_ifne 14 11 := rfl
theorem k109_11 : CD 109 11 = o_push (vi (-2)) 13 := rfl
theorem k109_13 : CD 109 13 = o_iret := rfl
theorem k109_14 : CD 109 14 = o_ald 0 15 := rfl
theorem k109_15 : CD 109 15 = o_getR 9 3 18 := rfl
theorem k109_18 : CD 109 18 = o_inv 0 2 0 21 := rfl
theorem k109_21 : CD 109 21 = o_ald 0 22 := rfl
theorem k109_22 : CD 109 22 = o_getR 9 3 25 := rfl
theorem k109_25 : CD 109 25 = o_ild 1 26 := rfl
theorem k109_26 : CD 109 26 = o_inv 0 5 1 29 := rfl
theorem k109_29 : CD 109 29 = o_iret := rfl
theorem k110_0 : CD 110 0 = o_ald 0 1 := rfl
theorem k110_1 : CD 110 1 = o_getR 9 2 4 := rfl
theorem k110_4 : CD 110 4 = o_ild 1 5 := rfl
theorem k110_5 : CD 110 5 = o_inv 1 29 1 8 := rfl
theorem k110_8 : CD 110 8 = o_ifne 14 11 := rfl
theorem k110_11 : CD 110 11 = o_push (vi (-2)) 13 := rfl
theorem k110_13 : CD 110 13 = o_iret := rfl
theorem k110_14 : CD 110 14 = o_ald 0 15 := rfl
theorem k110_15 : CD 110 15 = o_getR 9 3 18 := rfl
theorem k110_18 : CD 110 18 = o_inv 0 2 0 21 := rfl
theorem k110_21 : CD 110 21 = o_ald 0 22 := rfl
theorem k110_22 : CD 110 22 = o_getR 9 3 25 := rfl
theorem k110_25 : CD 110 25 = o_ild 1 26 := rfl
theorem k110_26 : CD 110 26 = o_inv 0 6 1 29 := rfl
theorem k110_29 : CD 110 29 = o_iret := rfl
theorem k111_0 : CD 111 0 = o_ald 0 1 := rfl
theorem k111_1 : CD 111 1 = o_getR 9 0 4 := rfl
theorem k111_4 : CD 111 4 = o_ild 1 5 := rfl
theorem k111_5 : CD 111 5 = o_inv 4 57 1 8 := rfl
theorem k111_8 : CD 111 8 = o_ifne 14 11 := rfl
theorem k111_11 : CD 111 11 = o_push (vi (-2)) 13 := rfl
theorem k111_13 : CD 111 13 = o_iret := rfl
theorem k111_14 : CD 111 14 = o_ald 0 15 := rfl
theorem k111_15 : CD 111 15 = o_getR 9 3 18 := rfl
theorem k111_18 : CD 111 18 = o_inv 0 2 0 21 := rfl
theorem k111_21 : CD 111 21 = o_ald 0 22 := rfl
theorem k111_22 : CD 111 22 = o_getR 9 3 25 := rfl
theorem k111_25 : CD 111 25 = o_ild 1 26 := rfl
theorem k111_26 : CD 111 26 = o_inv 0 7 1 29 := rfl
theorem k111_29 : CD 111 29 = o_iret := rfl
theorem k112_0 : CD 112 0 = o_ild 1 1 := rfl
theorem k112_1 : CD 112 1 = o_push (vi 0) 2 := rfl
theorem k112_2 : CD 112 2 = o_push (vi 1) 3 := rfl
theorem k112_3 : CD 112 3 = o_sta 126 3 6 := rfl
theorem k112_6 : CD 112 6 = o_ifne 12 9 := rfl
theorem k112_9 : CD 112 9 = o_push (vi (-3)) 11 := rfl
theorem k112_11 : CD 112 11 = o_iret := rfl
theorem k112_12 : CD 112 12 = o_ald 0 13 := rfl
theorem k112_13 : CD 112 13 = o_getR 9 4 16 := rfl
theorem k112_16 : CD 112 16 = o_getI 8 0 19 := rfl
theorem k112_19 : CD 112 19 = o_ist 2 20 := rfl
theorem k112_20 : CD 112 20 = o_ald 0 21 := rfl
theorem k112_21 : CD 112 21 = o_getR 9 4 24 := rfl
theorem k112_24 : CD 112 24 = o_ild 1 25 := rfl
theorem k112_25 : CD 112 25 = o_putI 8 0 28 := rfl
theorem k112_28 : CD 112 28 = o_ild 2 29 := rfl
theorem k112_29 : CD 112 29 = o_iret := rfl
theorem k113_0 : CD 113 0 = o_ald 0 1 := rfl
theorem k113_1 : CD 113 1 = o_getR 9 0 4 := rfl
theorem k113_4 : CD 113 4 = o_ild 2 5 := rfl
theorem k113_5 : CD 113 5 = o_inv 4 59 1 8 := rfl
theorem k113_8 : CD 113 8 = o_ifne 14 11 := rfl
theorem k113_11 : CD 113 11 = o_push (vi (-2)) 13 := rfl
theorem k113_13 : CD 113 13 = o_iret := rfl
theorem k113_14 : CD 113 14 = o_ild 1 15 := rfl
theorem k113_15 : CD 113 15 = o_sta 127 1 18 := rfl
theorem k113_18 : CD 113 18 = o_ifne 24 21 := rfl
theorem k113_21 : CD 113 21 = o_push (vi (-3)) 23 := rfl
theorem k113_23 : CD 113 23 = o_iret := rfl
theorem k113_24 : CD 113 24 = o_ald 0 25 := rfl
theorem k113_25 : CD 113 25 = o_getR 9 4 28 := rfl
theorem k113_28 : CD 113 28 = o_ild 1 29 := rfl
theorem k113_29 : CD 113 29 = o_ild 2 30 := rfl
theorem k113_30 : CD 113 30 = o_ald 0 31 := rfl
theorem k113_31 : CD 113 31 = o_getR 9 0 34 := rfl
theorem k113_34 : CD 113 34 = o_getI 4 0 37 := rfl
theorem k113_37 : CD 113 37 = o_inv 8 76 3 40 := rfl
theorem k113_40 : CD 113 40 = o_ald 0 41 := rfl
theorem k113_41 : CD 113 41 = o_getR 9 4 44 := rfl
theorem k113_44 : CD 113 44 = o_inv 8 77 0 47 := rfl
theorem k113_47 : CD 113 47 = o_iret := rfl
theorem k114_0 : CD 114 0 = o_ald 0 1 := rfl
theorem k114_1 : CD 114 1 = o_getR 9 0 4 := rfl
theorem k114_4 : CD 114 4 = o_ild 2 5 := rfl
theorem k114_5 : CD 114 5 = o_inv 4 59 1 8 := rfl
theorem k114_8 : CD 114 8 = o_ifeq 22 11 := rfl
theorem k114_11 : CD 114 11 = o_ald 0 12 := rfl
theorem k114_12 : CD 114 12 = o_getR 9 0 15 := rfl
theorem k114_15 : CD 114 15 = o_ild 3 16 := rfl
theorem k114_16 : CD 114 16 = o_inv 4 57 1 19 := rfl
theorem k114_19 : CD 114 19 = o_ifne 25 22 := rfl
theorem k114_22 : CD 114 22 = o_push (vi (-2)) 24 := rfl
theorem k114_24 : CD 114 24 = o_iret := rfl
theorem k114_25 : CD 114 25 = o_ild 1 26 := rfl
theorem k114_26 : CD 114 26 = o_sta 127 1 29 := rfl
theorem k114_29 : CD 114 29 = o_ifne 35 32 := rfl
theorem k114_32 : CD 114 32 = o_push (vi (-3)) 34 := rfl
theorem k114_34 : CD 114 34 = o_iret := rfl
theorem k114_35 : CD 114 35 = o_ald 0 36 := rfl
theorem k114_36 : CD 114 36 = o_getR 9 4 39 := rfl
theorem k114_39 : CD 114 39 = o_ild 1 40 := rfl
theorem k114_40 : CD 114 40 = o_ild 2 41 := rfl
theorem k114_41 : CD 114 41 = o_ild 3 42 := rfl
theorem k114_42 : CD 114 42 = o_push (vi 1) 43 := rfl
theorem k114_43 : CD 114 43 = o_iadd 44 := rfl
theorem k114_44 : CD 114 44 = o_inv 8 76 3 47 := rfl
theorem k114_47 : CD 114 47 = o_ald 0 48 := rfl
theorem k114_48 : CD 114 48 = o_getR 9 4 51 := rfl
theorem k114_51 : CD 114 51 = o_getR 8 1 54 := rfl
theorem k114_54 : CD 114 54 = o_ild 3 55 := rfl
theorem k114_55 : CD 114 55 = o_iald 56 := rfl
theorem k114_56 : CD 114 56 = o_iret := rfl
theorem k115_0 : CD 115 0 = o_ald 0 1 := rfl
theorem k115_1 : CD 115 1 = o_getR 9 0 4 := rfl
theorem k115_4 : CD 115 4 = o_ild 2 5 := rfl
theorem k115_5 : CD 115 5 = o_inv 4 59 1 8 := rfl
theorem k115_8 : CD 115 8 = o_ifeq 22 11 := rfl
theorem k115_11 : CD 115 11 = o_ald 0 12 := rfl
theorem k115_12 : CD 115 12 = o_getR 9 2 15 := rfl
theorem k115_15 : CD 115 15 = o_ild 3 16 := rfl
theorem k115_16 : CD 115 16 = o_inv 1 29 1 19 := rfl
theorem k115_19 : CD 115 19 = o_ifne 25 22 := rfl
theorem k115_22 : CD 115 22 = o_push (vi (-2)) 24 := rfl
theorem k115_24 : CD 115 24 = o_iret := rfl
theorem k115_25 : CD 115 25 = o_ild 1 26 := rfl
theorem k115_26 : CD 115 26 = o_sta 127 1 29 := rfl
theorem k115_29 : CD 115 29 = o_ifeq 48 32 := rfl
theorem k115_32 : CD 115 32 = o_ild 4 34 := rfl
theorem k115_34 : CD 115 34 = o_push (vi 0) 35 := rfl
theorem k115_35 : CD 115 35 = o_ald 0 36 := rfl
theorem k115_36 : CD 115 36 = o_getR 9 0 39 := rfl
theorem k115_39 : CD 115 39 = o_getI 4 0 42 := rfl
theorem k115_42 : CD 115 42 = o_sta 126 3 45 := rfl
theorem k115_45 : CD 115 45 = o_ifne 51 48 := rfl
theorem k115_48 : CD 115 48 = o_push (vi (-3)) 50 := rfl
theorem k115_50 : CD 115 50 = o_iret := rfl
theorem k115_51 : CD 115 51 = o_ald 0 52 := rfl
theorem k115_52 : CD 115 52 = o_getR 9 4 55 := rfl
theorem k115_55 : CD 115 55 = o_ild 1 56 := rfl
theorem k115_56 : CD 115 56 = o_ild 2 57 := rfl
theorem k115_57 : CD 115 57 = o_ild 4 59 := rfl
theorem k115_59 : CD 115 59 = o_inv 8 76 3 62 := rfl
theorem k115_62 : CD 115 62 = o_ald 0 63 := rfl
theorem k115_63 : CD 115 63 = o_getR 9 4 66 := rfl
theorem k115_66 : CD 115 66 = o_getR 8 2 69 := rfl
theorem k115_69 : CD 115 69 = o_ild 3 70 := rfl
theorem k115_70 : CD 115 70 = o_iald 71 := rfl
theorem k115_71 : CD 115 71 = o_iret := rfl
theorem k116_0 : CD 116 0 = o_ild 1 1 := rfl
theorem k116_1 : CD 116 1 = o_sta 127 1 4 := rfl
theorem k116_4 : CD 116 4 = o_ifeq 16 7 := rfl
theorem k116_7 : CD 116 7 = o_ild 2 8 := rfl
theorem k116_8 : CD 116 8 = o_push (vi 0) 9 := rfl
theorem k116_9 : CD 116 9 = o_push (vi 1) 10 := rfl
theorem k116_10 : CD 116 10 = o_sta 126 3 13 := rfl
theorem k116_13 : CD 116 13 = o_ifne 19 16 := rfl
theorem k116_16 : CD 116 16 = o_push (vi (-3)) 18 := rfl
theorem k116_18 : CD 116 18 = o_iret := rfl
theorem k116_19 : CD 116 19 = o_ald 0 20 := rfl
theorem k116_20 : CD 116 20 = o_getR 9 0 23 := rfl
theorem k116_23 : CD 116 23 = o_getI 4 9 26 := rfl
theorem k116_26 : CD 116 26 = o_ifne 31 29 := rfl
theorem k116_29 : CD 116 29 = o_push (vi (-1)) 30 := rfl
theorem k116_30 : CD 116 30 = o_iret := rfl
theorem k116_31 : CD 116 31 = o_ald 0 32 := rfl
theorem k116_32 : CD 116 32 = o_ild 1 33 := rfl
theorem k116_33 : CD 116 33 = o_inv 9 131 1 36 := rfl
theorem k116_36 : CD 116 36 = o_ist 3 37 := rfl
theorem k116_37 : CD 116 37 = o_ald 0 38 := rfl
theorem k116_38 : CD 116 38 = o_getR 9 0 41 := rfl
theorem k116_41 : CD 116 41 = o_inv 4 62 0 44 := rfl
theorem k116_44 : CD 116 44 = o_ist 4 46 := rfl
theorem k116_46 : CD 116 46 = o_ild 3 47 := rfl
theorem k116_47 : CD 116 47 = o_ild 4 49 := rfl
theorem k116_49 : CD 116 49 = o_sta 130 2 52 := rfl
theorem k116_52 : CD 116 52 = o_ist 5 54 := rfl
theorem k116_54 : CD 116 54 = o_ild 5 56 := rfl
theorem k116_56 : CD 116 56 = o_ifne 61 59 := rfl
theorem k116_59 : CD 116 59 = o_push (vi (-1)) 60 := rfl
theorem k116_60 : CD 116 60 = o_iret := rfl
theorem k116_61 : CD 116 61 = o_ild 2 62 := rfl
theorem k116_62 : CD 116 62 = o_ifne 69 65 := rfl
theorem k116_65 : CD 116 65 = o_ild 3 66 := rfl
theorem k116_66 : CD 116 66 = o_goto 71 := rfl
theorem k116_69 : CD 116 69 = o_ild 4 71 := rfl
theorem k116_71 : CD 116 71 = o_ild 5 73 := rfl
theorem k116_73 : CD 116 73 = o_idiv 74 := rfl
theorem k116_74 : CD 116 74 = o_iret := rfl
theorem k117_0 : CD 117 0 = o_ild 1 1 := rfl
theorem k117_1 : CD 117 1 = o_sta 127 1 4 := rfl
theorem k117_4 : CD 117 4 = o_ifne 10 7 := rfl
theorem k117_7 : CD 117 7 = o_push (vi (-3)) 9 := rfl
theorem k117_9 : CD 117 9 = o_iret := rfl
theorem k117_10 : CD 117 10 = o_push (vi (-1)) 11 := rfl
theorem k117_11 : CD 117 11 = o_ist 2 12 := rfl
theorem k117_12 : CD 117 12 = o_push (vi 0) 13 := rfl
theorem k117_13 : CD 117 13 = o_ist 3 14 := rfl
theorem k117_14 : CD 117 14 = o_ild 3 15 := rfl
theorem k117_15 : CD 117 15 = o_ald 0 16 := rfl
theorem k117_16 : CD 117 16 = o_getR 9 0 19 := rfl
theorem k117_19 : CD 117 19 = o_getI 4 9 22 := rfl
theorem k117_22 : CD 117 22 = o_icge 72 25 := rfl
theorem k117_25 : CD 117 25 = o_ald 0 26 := rfl
theorem k117_26 : CD 117 26 = o_getR 9 4 29 := rfl
theorem k117_29 : CD 117 29 = o_ild 1 30 := rfl
theorem k117_30 : CD 117 30 = o_push (vi 2) 31 := rfl
theorem k117_31 : CD 117 31 = o_ild 3 32 := rfl
theorem k117_32 : CD 117 32 = o_iadd 33 := rfl
theorem k117_33 : CD 117 33 = o_ald 0 34 := rfl
theorem k117_34 : CD 117 34 = o_getR 9 0 37 := rfl
theorem k117_37 : CD 117 37 = o_getI 4 0 40 := rfl
theorem k117_40 : CD 117 40 = o_inv 8 76 3 43 := rfl
theorem k117_43 : CD 117 43 = o_ald 0 44 := rfl
theorem k117_44 : CD 117 44 = o_getR 9 4 47 := rfl
theorem k117_47 : CD 117 47 = o_inv 8 77 0 50 := rfl
theorem k117_50 : CD 117 50 = o_ist 4 52 := rfl
theorem k117_52 : CD 117 52 = o_ild 2 53 := rfl
theorem k117_53 : CD 117 53 = o_push (vi (-1)) 54 := rfl
theorem k117_54 : CD 117 54 = o_iceq 63 57 := rfl
theorem k117_57 : CD 117 57 = o_ild 4 59 := rfl
theorem k117_59 : CD 117 59 = o_ild 2 60 := rfl
theorem k117_60 : CD 117 60 = o_icge 66 63 := rfl
theorem k117_63 : CD 117 63 = o_ild 4 65 := rfl
theorem k117_65 : CD 117 65 = o_ist 2 66 := rfl
theorem k117_66 : CD 117 66 = o_iinc 3 1 69 := rfl
theorem k117_69 : CD 117 69 = o_goto 14 := rfl
theorem k117_72 : CD 117 72 = o_ild 2 73 := rfl
theorem k117_73 : CD 117 73 = o_iret := rfl
theorem k118_0 : CD 118 0 = o_ald 0 1 := rfl
theorem k118_1 : CD 118 1 = o_getR 9 0 4 := rfl
theorem k118_4 : CD 118 4 = o_getI 4 9 7 := rfl
theorem k118_7 : CD 118 7 = o_ifne 12 10 := rfl
theorem k118_10 : CD 118 10 = o_push (vi (-1)) 11 := rfl
theorem k118_11 : CD 118 11 = o_iret := rfl
theorem k118_12 : CD 118 12 = o_push (vi 0) 13 := rfl
theorem k118_13 : CD 118 13 = o_ist 1 14 := rfl
theorem k118_14 : CD 118 14 = o_ald 0 15 := rfl
theorem k118_15 : CD 118 15 = o_push (vi 0) 16 := rfl
theorem k118_16 : CD 118 16 = o_inv 9 131 1 19 := rfl
theorem k118_19 : CD 118 19 = o_ist 2 20 := rfl
theorem k118_20 : CD 118 20 = o_push (vi 1) 21 := rfl
theorem k118_21 : CD 118 21 = o_ist 3 22 := rfl
theorem k118_22 : CD 118 22 = o_ild 3 23 := rfl
theorem k118_23 : CD 118 23 = o_push (vi 3) 24 := rfl
theorem k118_24 : CD 118 24 = o_icge 51 27 := rfl
theorem k118_27 : CD 118 27 = o_ald 0 28 := rfl
theorem k118_28 : CD 118 28 = o_ild 3 29 := rfl
theorem k118_29 : CD 118 29 = o_inv 9 131 1 32 := rfl
theorem k118_32 : CD 118 32 = o_ist 4 34 := rfl
theorem k118_34 : CD 118 34 = o_ild 4 36 := rfl
theorem k118_36 : CD 118 36 = o_ild 2 37 := rfl
theorem k118_37 : CD 118 37 = o_icle 45 40 := rfl
theorem k118_40 : CD 118 40 = o_ild 3 41 := rfl
theorem k118_41 : CD 118 41 = o_ist 1 42 := rfl
theorem k118_42 : CD 118 42 = o_ild 4 44 := rfl
theorem k118_44 : CD 118 44 = o_ist 2 45 := rfl
theorem k118_45 : CD 118 45 = o_iinc 3 1 48 := rfl
theorem k118_48 : CD 118 48 = o_goto 22 := rfl
theorem k118_51 : CD 118 51 = o_ild 1 52 := rfl
theorem k118_52 : CD 118 52 = o_iret := rfl
theorem k119_0 : CD 119 0 = o_ald 0 1 := rfl
theorem k119_1 : CD 119 1 = o_getR 9 0 4 := rfl
theorem k119_4 : CD 119 4 = o_ild 1 5 := rfl
theorem k119_5 : CD 119 5 = o_inv 4 58 1 8 := rfl
theorem k119_8 : CD 119 8 = o_ifne 14 11 := rfl
theorem k119_11 : CD 119 11 = o_push (vi (-2)) 13 := rfl
theorem k119_13 : CD 119 13 = o_iret := rfl
theorem k119_14 : CD 119 14 = o_ild 2 15 := rfl
theorem k119_15 : CD 119 15 = o_push (vi 0) 16 := rfl
theorem k119_16 : CD 119 16 = o_push (vi 2) 17 := rfl
theorem k119_17 : CD 119 17 = o_sta 126 3 20 := rfl
theorem k119_20 : CD 119 20 = o_ifeq 72 23 := rfl
theorem k119_23 : CD 119 23 = o_ald 0 24 := rfl
theorem k119_24 : CD 119 24 = o_ild 3 25 := rfl
theorem k119_25 : CD 119 25 = o_inv 9 132 1 28 := rfl
theorem k119_28 : CD 119 28 = o_ifeq 72 31 := rfl
theorem k119_31 : CD 119 31 = o_ald 0 32 := rfl
theorem k119_32 : CD 119 32 = o_getR 9 0 35 := rfl
theorem k119_35 : CD 119 35 = o_ild 4 37 := rfl
theorem k119_37 : CD 119 37 = o_inv 4 57 1 40 := rfl
theorem k119_40 : CD 119 40 = o_ifeq 72 43 := rfl
theorem k119_43 : CD 119 43 = o_ald 0 44 := rfl
theorem k119_44 : CD 119 44 = o_getR 9 0 47 := rfl
theorem k119_47 : CD 119 47 = o_ild 5 49 := rfl
theorem k119_49 : CD 119 49 = o_inv 4 57 1 52 := rfl
theorem k119_52 : CD 119 52 = o_ifeq 72 55 := rfl
theorem k119_55 : CD 119 55 = o_ild 4 57 := rfl
theorem k119_57 : CD 119 57 = o_ild 5 59 := rfl
theorem k119_59 : CD 119 59 = o_icgt 72 62 := rfl
theorem k119_62 : CD 119 62 = o_ild 6 64 := rfl
theorem k119_64 : CD 119 64 = o_push (vi 0) 65 := rfl
theorem k119_65 : CD 119 65 = o_push (vi 1) 66 := rfl
theorem k119_66 : CD 119 66 = o_sta 126 3 69 := rfl
theorem k119_69 : CD 119 69 = o_ifne 75 72 := rfl
theorem k119_72 : CD 119 72 = o_push (vi (-3)) 74 := rfl
theorem k119_74 : CD 119 74 = o_iret := rfl
theorem k119_75 : CD 119 75 = o_ald 0 76 := rfl
theorem k119_76 : CD 119 76 = o_getR 9 3 79 := rfl
theorem k119_79 : CD 119 79 = o_inv 0 2 0 82 := rfl
theorem k119_82 : CD 119 82 = o_ald 0 83 := rfl
theorem k119_83 : CD 119 83 = o_getR 9 3 86 := rfl
theorem k119_86 : CD 119 86 = o_ild 1 87 := rfl
theorem k119_87 : CD 119 87 = o_ild 2 88 := rfl
theorem k119_88 : CD 119 88 = o_ald 0 89 := rfl
theorem k119_89 : CD 119 89 = o_getR 9 6 92 := rfl
theorem k119_92 : CD 119 92 = o_ild 4 94 := rfl
theorem k119_94 : CD 119 94 = o_ild 5 96 := rfl
theorem k119_96 : CD 119 96 = o_inv 0 8 5 99 := rfl
theorem k119_99 : CD 119 99 = o_ild 6 101 := rfl
theorem k119_101 : CD 119 101 = o_ifne 114 104 := rfl
theorem k119_104 : CD 119 104 = o_ald 0 105 := rfl
theorem k119_105 : CD 119 105 = o_getR 9 3 108 := rfl
theorem k119_108 : CD 119 108 = o_getI 0 2 111 := rfl
theorem k119_111 : CD 119 111 = o_goto 121 := rfl
theorem k119_114 : CD 119 114 = o_ald 0 115 := rfl
theorem k119_115 : CD 119 115 = o_getR 9 3 118 := rfl
theorem k119_118 : CD 119 118 = o_getI 0 3 121 := rfl
theorem k119_121 : CD 119 121 = o_iret := rfl
theorem k120_0 : CD 120 0 = o_ild 1 1 := rfl
theorem k120_1 : CD 120 1 = o_push (vi 0) 2 := rfl
theorem k120_2 : CD 120 2 = o_push (vi 3) 3 := rfl
theorem k120_3 : CD 120 3 = o_sta 126 3 6 := rfl
theorem k120_6 : CD 120 6 = o_ifne 12 9 := rfl
theorem k120_9 : CD 120 9 = o_push (vi (-2)) 11 := rfl
theorem k120_11 : CD 120 11 = o_iret := rfl
theorem k120_12 : CD 120 12 = o_ild 2 13 := rfl
theorem k120_13 : CD 120 13 = o_push (vi 1) 14 := rfl
theorem k120_14 : CD 120 14 = o_push (vi 20) 16 := rfl
theorem k120_16 : CD 120 16 = o_sta 126 3 19 := rfl
theorem k120_19 : CD 120 19 = o_ifne 25 22 := rfl
theorem k120_22 : CD 120 22 = o_push (vi (-3)) 24 := rfl
theorem k120_24 : CD 120 24 = o_iret := rfl
theorem k120_25 : CD 120 25 = o_ald 0 26 := rfl
theorem k120_26 : CD 120 26 = o_getR 9 5 29 := rfl
theorem k120_29 : CD 120 29 = o_getR 3 1 32 := rfl
theorem k120_32 : CD 120 32 = o_ild 1 33 := rfl
theorem k120_33 : CD 120 33 = o_iald 34 := rfl
theorem k120_34 : CD 120 34 = o_ist 3 35 := rfl
theorem k120_35 : CD 120 35 = o_ald 0 36 := rfl
theorem k120_36 : CD 120 36 = o_getR 9 5 39 := rfl
theorem k120_39 : CD 120 39 = o_getR 3 1 42 := rfl
theorem k120_42 : CD 120 42 = o_ild 1 43 := rfl
theorem k120_43 : CD 120 43 = o_ild 2 44 := rfl
theorem k120_44 : CD 120 44 = o_iast 45 := rfl
theorem k120_45 : CD 120 45 = o_ild 3 46 := rfl
theorem k120_46 : CD 120 46 = o_iret := rfl
theorem k121_0 : CD 121 0 = o_ild 1 1 := rfl
theorem k121_1 : CD 121 1 = o_sta 127 1 4 := rfl
theorem k121_4 : CD 121 4 = o_ifne 10 7 := rfl
theorem k121_7 : CD 121 7 = o_push (vi (-3)) 9 := rfl
theorem k121_9 : CD 121 9 = o_iret := rfl
theorem k121_10 : CD 121 10 = o_ald 0 11 := rfl
theorem k121_11 : CD 121 11 = o_getR 9 0 14 := rfl
theorem k121_14 : CD 121 14 = o_getI 4 1 17 := rfl
theorem k121_17 : CD 121 17 = o_push (vi 300) 20 := rfl
theorem k121_20 : CD 121 20 = o_iclt 26 23 := rfl
theorem k121_23 : CD 121 23 = o_push (vi (-4)) 25 := rfl
theorem k121_25 : CD 121 25 = o_iret := rfl
theorem k121_26 : CD 121 26 = o_ald 0 27 := rfl
theorem k121_27 : CD 121 27 = o_getR 9 4 30 := rfl
theorem k121_30 : CD 121 30 = o_ild 1 31 := rfl
theorem k121_31 : CD 121 31 = o_push (vi 1) 32 := rfl
theorem k121_32 : CD 121 32 = o_ald 0 33 := rfl
theorem k121_33 : CD 121 33 = o_getR 9 0 36 := rfl
theorem k121_36 : CD 121 36 = o_getI 4 0 39 := rfl
theorem k121_39 : CD 121 39 = o_inv 8 76 3 42 := rfl
theorem k121_42 : CD 121 42 = o_ald 0 43 := rfl
theorem k121_43 : CD 121 43 = o_getR 9 4 46 := rfl
theorem k121_46 : CD 121 46 = o_inv 8 77 0 49 := rfl
theorem k121_49 : CD 121 49 = o_ist 2 50 := rfl
theorem k121_50 : CD 121 50 = o_ald 0 51 := rfl
theorem k121_51 : CD 121 51 = o_getR 9 5 54 := rfl
theorem k121_54 : CD 121 54 = o_dupr 55 := rfl
theorem k121_55 : CD 121 55 = o_getI 3 2 58 := rfl
theorem k121_58 : CD 121 58 = o_ild 2 59 := rfl
theorem k121_59 : CD 121 59 = o_iadd 60 := rfl
theorem k121_60 : CD 121 60 = o_putI 3 2 63 := rfl
theorem k121_63 : CD 121 63 = o_ald 0 64 := rfl
theorem k121_64 : CD 121 64 = o_inv 9 133 0 67 := rfl
theorem k121_67 : CD 121 67 = o_ald 0 68 := rfl
theorem k121_68 : CD 121 68 = o_inv 9 134 0 71 := rfl
theorem k121_71 : CD 121 71 = o_ald 0 72 := rfl
theorem k121_72 : CD 121 72 = o_getR 9 0 75 := rfl
theorem k121_75 : CD 121 75 = o_dupr 76 := rfl
theorem k121_76 : CD 121 76 = o_getI 4 1 79 := rfl
theorem k121_79 : CD 121 79 = o_push (vi 1) 80 := rfl
theorem k121_80 : CD 121 80 = o_iadd 81 := rfl
theorem k121_81 : CD 121 81 = o_putI 4 1 84 := rfl
theorem k121_84 : CD 121 84 = o_ald 0 85 := rfl
theorem k121_85 : CD 121 85 = o_getR 9 0 88 := rfl
theorem k121_88 : CD 121 88 = o_inv 4 56 0 91 := rfl
theorem k121_91 : CD 121 91 = o_ald 0 92 := rfl
theorem k121_92 : CD 121 92 = o_getR 9 3 95 := rfl
theorem k121_95 : CD 121 95 = o_inv 0 1 0 98 := rfl
theorem k121_98 : CD 121 98 = o_ild 2 99 := rfl
theorem k121_99 : CD 121 99 = o_iret := rfl
theorem k122_0 : CD 122 0 = o_ild 1 1 := rfl
theorem k122_1 : CD 122 1 = o_push (vi 0) 2 := rfl
theorem k122_2 : CD 122 2 = o_push (vi 7) 4 := rfl
theorem k122_4 : CD 122 4 = o_sta 126 3 7 := rfl
theorem k122_7 : CD 122 7 = o_ifeq 22 10 := rfl
theorem k122_10 : CD 122 10 = o_ald 0 11 := rfl
theorem k122_11 : CD 122 11 = o_getR 9 5 14 := rfl
theorem k122_14 : CD 122 14 = o_getR 3 0 17 := rfl
theorem k122_17 : CD 122 17 = o_ild 1 18 := rfl
theorem k122_18 : CD 122 18 = o_iald 19 := rfl
theorem k122_19 : CD 122 19 = o_goto 24 := rfl
theorem k122_22 : CD 122 22 = o_push (vi (-3)) 24 := rfl
theorem k122_24 : CD 122 24 = o_iret := rfl
theorem k123_0 : CD 123 0 = o_ild 1 1 := rfl
theorem k123_1 : CD 123 1 = o_push (vi 0) 2 := rfl
theorem k123_2 : CD 123 2 = o_push (vi 3) 3 := rfl
theorem k123_3 : CD 123 3 = o_sta 126 3 6 := rfl
theorem k123_6 : CD 123 6 = o_ifeq 20 9 := rfl
theorem k123_9 : CD 123 9 = o_ald 0 10 := rfl
theorem k123_10 : CD 123 10 = o_getR 9 5 13 := rfl
theorem k123_13 : CD 123 13 = o_ild 1 14 := rfl
theorem k123_14 : CD 123 14 = o_inv 3 53 1 17 := rfl
theorem k123_17 : CD 123 17 = o_goto 23 := rfl
theorem k123_20 : CD 123 20 = o_push (vi (-2147483648)) 23 := rfl
theorem k123_23 : CD 123 23 = o_iret := rfl
theorem k124_0 : CD 124 0 = o_ald 0 1 := rfl
theorem k124_1 : CD 124 1 = o_getR 9 5 4 := rfl
theorem k124_4 : CD 124 4 = o_inv 3 54 0 7 := rfl
theorem k124_7 : CD 124 7 = o_iret := rfl
theorem k125_0 : CD 125 0 = o_ild 1 1 := rfl
theorem k125_1 : CD 125 1 = o_tsw 0 [44, 52, 60, 68, 76, 84, 92] 100 := rfl
theorem k125_44 : CD 125 44 = o_ald 0 45 := rfl
theorem k125_45 : CD 125 45 = o_getR 9 0 48 := rfl
theorem k125_48 : CD 125 48 = o_getI 4 0 51 := rfl
theorem k125_51 : CD 125 51 = o_iret := rfl
theorem k125_52 : CD 125 52 = o_ald 0 53 := rfl
theorem k125_53 : CD 125 53 = o_getR 9 0 56 := rfl
theorem k125_56 : CD 125 56 = o_getI 4 1 59 := rfl
theorem k125_59 : CD 125 59 = o_iret := rfl
theorem k125_60 : CD 125 60 = o_ald 0 61 := rfl
theorem k125_61 : CD 125 61 = o_getR 9 0 64 := rfl
theorem k125_64 : CD 125 64 = o_getI 4 3 67 := rfl
theorem k125_67 : CD 125 67 = o_iret := rfl
theorem k125_68 : CD 125 68 = o_ald 0 69 := rfl
theorem k125_69 : CD 125 69 = o_getR 9 2 72 := rfl
theorem k125_72 : CD 125 72 = o_getI 1 1 75 := rfl
theorem k125_75 : CD 125 75 = o_iret := rfl
theorem k125_76 : CD 125 76 = o_ald 0 77 := rfl
theorem k125_77 : CD 125 77 = o_getR 9 0 80 := rfl
theorem k125_80 : CD 125 80 = o_getI 4 9 83 := rfl
theorem k125_83 : CD 125 83 = o_iret := rfl
theorem k125_84 : CD 125 84 = o_ald 0 85 := rfl
theorem k125_85 : CD 125 85 = o_getR 9 1 88 := rfl
theorem k125_88 : CD 125 88 = o_getI 2 1 91 := rfl
theorem k125_91 : CD 125 91 = o_iret := rfl
theorem k125_92 : CD 125 92 = o_ald 0 93 := rfl
theorem k125_93 : CD 125 93 = o_getR 9 5 96 := rfl
theorem k125_96 : CD 125 96 = o_getI 3 2 99 := rfl
theorem k125_99 : CD 125 99 = o_iret := rfl
theorem k125_100 : CD 125 100 = o_push (vi (-3)) 102 := rfl
theorem k125_102 : CD 125 102 = o_iret := rfl
theorem k126_0 : CD 126 0 = o_ild 0 1 := rfl
theorem k126_1 : CD 126 1 = o_ild 1 2 := rfl
theorem k126_2 : CD 126 2 = o_iclt 14 5 := rfl
theorem k126_5 : CD 126 5 = o_ild 0 6 := rfl
theorem k126_6 : CD 126 6 = o_ild 2 7 := rfl
theorem k126_7 : CD 126 7 = o_icgt 14 10 := rfl
theorem k126_10 : CD 126 10 = o_push (vi 1) 11 := rfl
theorem k126_11 : CD 126 11 = o_goto 15 := rfl
theorem k126_14 : CD 126 14 = o_push (vi 0) 15 := rfl
theorem k126_15 : CD 126 15 = o_zret := rfl
theorem k127_0 : CD 127 0 = o_ild 0 1 := rfl
theorem k127_1 : CD 127 1 = o_push (vi 0) 2 := rfl
theorem k127_2 : CD 127 2 = o_push (vi 2) 3 := rfl
theorem k127_3 : CD 127 3 = o_sta 126 3 6 := rfl
theorem k127_6 : CD 127 6 = o_zret := rfl
theorem k128_0 : CD 128 0 = o_ild 0 1 := rfl
theorem k128_1 : CD 128 1 = o_ild 1 2 := rfl
theorem k128_2 : CD 128 2 = o_ishr 3 := rfl
theorem k128_3 : CD 128 3 = o_push (vi 1) 4 := rfl
theorem k128_4 : CD 128 4 = o_iand 5 := rfl
theorem k128_5 : CD 128 5 = o_push (vi 1) 6 := rfl
theorem k128_6 : CD 128 6 = o_icne 13 9 := rfl
theorem k128_9 : CD 128 9 = o_push (vi 1) 10 := rfl
theorem k128_10 : CD 128 10 = o_goto 14 := rfl
theorem k128_13 : CD 128 13 = o_push (vi 0) 14 := rfl
theorem k128_14 : CD 128 14 = o_zret := rfl
theorem k129_0 : CD 129 0 = o_push (vi 1) 1 := rfl
theorem k129_1 : CD 129 1 = o_ild 1 2 := rfl
theorem k129_2 : CD 129 2 = o_ishl 3 := rfl
theorem k129_3 : CD 129 3 = o_push (vi 1) 4 := rfl
theorem k129_4 : CD 129 4 = o_isub 5 := rfl
theorem k129_5 : CD 129 5 = o_ild 0 6 := rfl
theorem k129_6 : CD 129 6 = o_ishl 7 := rfl
theorem k129_7 : CD 129 7 = o_iret := rfl
theorem k130_0 : CD 130 0 = o_push (vi 0) 1 := rfl
theorem k130_1 : CD 130 1 = o_ist 2 2 := rfl
theorem k130_2 : CD 130 2 = o_ild 2 3 := rfl
theorem k130_3 : CD 130 3 = o_push (vi 64) 5 := rfl
theorem k130_5 : CD 130 5 = o_icge 26 8 := rfl
theorem k130_8 : CD 130 8 = o_ild 1 9 := rfl
theorem k130_9 : CD 130 9 = o_ifeq 26 12 := rfl
theorem k130_12 : CD 130 12 = o_ild 0 13 := rfl
theorem k130_13 : CD 130 13 = o_ild 1 14 := rfl
theorem k130_14 : CD 130 14 = o_irem 15 := rfl
theorem k130_15 : CD 130 15 = o_ist 3 16 := rfl
theorem k130_16 : CD 130 16 = o_ild 1 17 := rfl
theorem k130_17 : CD 130 17 = o_ist 0 18 := rfl
theorem k130_18 : CD 130 18 = o_ild 3 19 := rfl
theorem k130_19 : CD 130 19 = o_ist 1 20 := rfl
theorem k130_20 : CD 130 20 = o_iinc 2 1 23 := rfl
theorem k130_23 : CD 130 23 = o_goto 2 := rfl
theorem k130_26 : CD 130 26 = o_ild 0 27 := rfl
theorem k130_27 : CD 130 27 = o_iret := rfl
theorem k131_0 : CD 131 0 = o_push (vi 0) 1 := rfl
theorem k131_1 : CD 131 1 = o_ist 2 2 := rfl
theorem k131_2 : CD 131 2 = o_push (vi 0) 3 := rfl
theorem k131_3 : CD 131 3 = o_ist 3 4 := rfl
theorem k131_4 : CD 131 4 = o_ild 3 5 := rfl
theorem k131_5 : CD 131 5 = o_ald 0 6 := rfl
theorem k131_6 : CD 131 6 = o_getR 9 0 9 := rfl
theorem k131_9 : CD 131 9 = o_getI 4 9 12 := rfl
theorem k131_12 : CD 131 12 = o_icge 59 15 := rfl
theorem k131_15 : CD 131 15 = o_ald 0 16 := rfl
theorem k131_16 : CD 131 16 = o_getR 9 4 19 := rfl
theorem k131_19 : CD 131 19 = o_ild 1 20 := rfl
theorem k131_20 : CD 131 20 = o_push (vi 2) 21 := rfl
theorem k131_21 : CD 131 21 = o_ild 3 22 := rfl
theorem k131_22 : CD 131 22 = o_iadd 23 := rfl
theorem k131_23 : CD 131 23 = o_ald 0 24 := rfl
theorem k131_24 : CD 131 24 = o_getR 9 0 27 := rfl
theorem k131_27 : CD 131 27 = o_getI 4 0 30 := rfl
theorem k131_30 : CD 131 30 = o_inv 8 76 3 33 := rfl
theorem k131_33 : CD 131 33 = o_ild 2 34 := rfl
theorem k131_34 : CD 131 34 = o_ald 0 35 := rfl
theorem k131_35 : CD 131 35 = o_getR 9 0 38 := rfl
theorem k131_38 : CD 131 38 = o_getR 4 8 41 := rfl
theorem k131_41 : CD 131 41 = o_ild 3 42 := rfl
theorem k131_42 : CD 131 42 = o_iald 43 := rfl
theorem k131_43 : CD 131 43 = o_ald 0 44 := rfl
theorem k131_44 : CD 131 44 = o_getR 9 4 47 := rfl
theorem k131_47 : CD 131 47 = o_inv 8 77 0 50 := rfl
theorem k131_50 : CD 131 50 = o_imul 51 := rfl
theorem k131_51 : CD 131 51 = o_iadd 52 := rfl
theorem k131_52 : CD 131 52 = o_ist 2 53 := rfl
theorem k131_53 : CD 131 53 = o_iinc 3 1 56 := rfl
theorem k131_56 : CD 131 56 = o_goto 4 := rfl
theorem k131_59 : CD 131 59 = o_ild 2 60 := rfl
theorem k131_60 : CD 131 60 = o_iret := rfl
theorem k132_0 : CD 132 0 = o_ild 1 1 := rfl
theorem k132_1 : CD 132 1 = o_push (vi 10) 3 := rfl
theorem k132_3 : CD 132 3 = o_irem 4 := rfl
theorem k132_4 : CD 132 4 = o_ist 2 5 := rfl
theorem k132_5 : CD 132 5 = o_ald 0 6 := rfl
theorem k132_6 : CD 132 6 = o_getR 9 6 9 := rfl
theorem k132_9 : CD 132 9 = o_ild 1 10 := rfl
theorem k132_10 : CD 132 10 = o_push (vi 1000) 13 := rfl
theorem k132_13 : CD 132 13 = o_idiv 14 := rfl
theorem k132_14 : CD 132 14 = o_putI 6 0 17 := rfl
theorem k132_17 : CD 132 17 = o_ald 0 18 := rfl
theorem k132_18 : CD 132 18 = o_getR 9 6 21 := rfl
theorem k132_21 : CD 132 21 = o_ild 1 22 := rfl
theorem k132_22 : CD 132 22 = o_push (vi 100) 24 := rfl
theorem k132_24 : CD 132 24 = o_idiv 25 := rfl
theorem k132_25 : CD 132 25 = o_push (vi 10) 27 := rfl
theorem k132_27 : CD 132 27 = o_irem 28 := rfl
theorem k132_28 : CD 132 28 = o_putI 6 1 31 := rfl
theorem k132_31 : CD 132 31 = o_ald 0 32 := rfl
theorem k132_32 : CD 132 32 = o_getR 9 6 35 := rfl
theorem k132_35 : CD 132 35 = o_ild 1 36 := rfl
theorem k132_36 : CD 132 36 = o_push (vi 10) 38 := rfl
theorem k132_38 : CD 132 38 = o_idiv 39 := rfl
theorem k132_39 : CD 132 39 = o_push (vi 10) 41 := rfl
theorem k132_41 : CD 132 41 = o_irem 42 := rfl
theorem k132_42 : CD 132 42 = o_putI 6 2 45 := rfl
theorem k132_45 : CD 132 45 = o_ald 0 46 := rfl
theorem k132_46 : CD 132 46 = o_getR 9 6 49 := rfl
theorem k132_49 : CD 132 49 = o_ild 2 50 := rfl
theorem k132_50 : CD 132 50 = o_push (vi 1) 51 := rfl
theorem k132_51 : CD 132 51 = o_icne 58 54 := rfl
theorem k132_54 : CD 132 54 = o_push (vi 1) 55 := rfl
theorem k132_55 : CD 132 55 = o_goto 59 := rfl
theorem k132_58 : CD 132 58 = o_push (vi 0) 59 := rfl
theorem k132_59 : CD 132 59 = o_putZ 6 3 62 := rfl
theorem k132_62 : CD 132 62 = o_ild 1 63 := rfl
theorem k132_63 : CD 132 63 = o_iflt 125 66 := rfl
theorem k132_66 : CD 132 66 = o_ald 0 67 := rfl
theorem k132_67 : CD 132 67 = o_getR 9 6 70 := rfl
theorem k132_70 : CD 132 70 = o_getI 6 0 73 := rfl
theorem k132_73 : CD 132 73 = o_push (vi 1) 74 := rfl
theorem k132_74 : CD 132 74 = o_push (vi 4) 75 := rfl
theorem k132_75 : CD 132 75 = o_sta 126 3 78 := rfl
theorem k132_78 : CD 132 78 = o_ifeq 125 81 := rfl
theorem k132_81 : CD 132 81 = o_ald 0 82 := rfl
theorem k132_82 : CD 132 82 = o_getR 9 6 85 := rfl
theorem k132_85 : CD 132 85 = o_getI 6 1 88 := rfl
theorem k132_88 : CD 132 88 = o_push (vi 0) 89 := rfl
theorem k132_89 : CD 132 89 = o_push (vi 3) 90 := rfl
theorem k132_90 : CD 132 90 = o_sta 126 3 93 := rfl
theorem k132_93 : CD 132 93 = o_ifeq 125 96 := rfl
theorem k132_96 : CD 132 96 = o_ald 0 97 := rfl
theorem k132_97 : CD 132 97 = o_getR 9 6 100 := rfl
theorem k132_100 : CD 132 100 = o_getI 6 2 103 := rfl
theorem k132_103 : CD 132 103 = o_push (vi 0) 104 := rfl
theorem k132_104 : CD 132 104 = o_push (vi 8) 106 := rfl
theorem k132_106 : CD 132 106 = o_sta 126 3 109 := rfl
theorem k132_109 : CD 132 109 = o_ifeq 125 112 := rfl
theorem k132_112 : CD 132 112 = o_ild 2 113 := rfl
theorem k132_113 : CD 132 113 = o_push (vi 0) 114 := rfl
theorem k132_114 : CD 132 114 = o_push (vi 1) 115 := rfl
theorem k132_115 : CD 132 115 = o_sta 126 3 118 := rfl
theorem k132_118 : CD 132 118 = o_ifeq 125 121 := rfl
theorem k132_121 : CD 132 121 = o_push (vi 1) 122 := rfl
theorem k132_122 : CD 132 122 = o_goto 126 := rfl
theorem k132_125 : CD 132 125 = o_push (vi 0) 126 := rfl
theorem k132_126 : CD 132 126 = o_zret := rfl
theorem k133_0 : CD 133 0 = o_push (vi 0) 1 := rfl
theorem k133_1 : CD 133 1 = o_ist 1 2 := rfl
theorem k133_2 : CD 133 2 = o_ild 1 3 := rfl
theorem k133_3 : CD 133 3 = o_ald 0 4 := rfl
theorem k133_4 : CD 133 4 = o_getR 9 0 7 := rfl
theorem k133_7 : CD 133 7 = o_getI 4 0 10 := rfl
theorem k133_10 : CD 133 10 = o_icge 101 13 := rfl
theorem k133_13 : CD 133 13 = o_ald 0 14 := rfl
theorem k133_14 : CD 133 14 = o_getR 9 4 17 := rfl
theorem k133_17 : CD 133 17 = o_ild 1 18 := rfl
theorem k133_18 : CD 133 18 = o_inv 8 78 1 21 := rfl
theorem k133_21 : CD 133 21 = o_ist 2 22 := rfl
theorem k133_22 : CD 133 22 = o_ald 0 23 := rfl
theorem k133_23 : CD 133 23 = o_getR 9 4 26 := rfl
theorem k133_26 : CD 133 26 = o_getR 8 1 29 := rfl
theorem k133_29 : CD 133 29 = o_ild 1 30 := rfl
theorem k133_30 : CD 133 30 = o_iald 31 := rfl
theorem k133_31 : CD 133 31 = o_ist 3 32 := rfl
theorem k133_32 : CD 133 32 = o_ild 2 33 := rfl
theorem k133_33 : CD 133 33 = o_push (vi (-1)) 34 := rfl
theorem k133_34 : CD 133 34 = o_iceq 59 37 := rfl
theorem k133_37 : CD 133 37 = o_ald 0 38 := rfl
theorem k133_38 : CD 133 38 = o_getR 9 5 41 := rfl
theorem k133_41 : CD 133 41 = o_ald 0 42 := rfl
theorem k133_42 : CD 133 42 = o_getR 9 2 45 := rfl
theorem k133_45 : CD 133 45 = o_getR 1 0 48 := rfl
theorem k133_48 : CD 133 48 = o_ild 2 49 := rfl
theorem k133_49 : CD 133 49 = o_aald 23 50 := rfl
theorem k133_50 : CD 133 50 = o_getI 5 0 53 := rfl
theorem k133_53 : CD 133 53 = o_inv 3 52 1 56 := rfl
theorem k133_56 : CD 133 56 = o_goto 95 := rfl
theorem k133_59 : CD 133 59 = o_ild 3 60 := rfl
theorem k133_60 : CD 133 60 = o_push (vi 20) 62 := rfl
theorem k133_62 : CD 133 62 = o_icne 76 65 := rfl
theorem k133_65 : CD 133 65 = o_ald 0 66 := rfl
theorem k133_66 : CD 133 66 = o_getR 9 5 69 := rfl
theorem k133_69 : CD 133 69 = o_push (vi 4) 70 := rfl
theorem k133_70 : CD 133 70 = o_inv 3 52 1 73 := rfl
theorem k133_73 : CD 133 73 = o_goto 95 := rfl
theorem k133_76 : CD 133 76 = o_ald 0 77 := rfl
theorem k133_77 : CD 133 77 = o_getR 9 5 80 := rfl
theorem k133_80 : CD 133 80 = o_ild 3 81 := rfl
theorem k133_81 : CD 133 81 = o_push (vi 21) 83 := rfl
theorem k133_83 : CD 133 83 = o_icne 90 86 := rfl
theorem k133_86 : CD 133 86 = o_push (vi 5) 87 := rfl
theorem k133_87 : CD 133 87 = o_goto 92 := rfl
theorem k133_90 : CD 133 90 = o_push (vi 6) 92 := rfl
theorem k133_92 : CD 133 92 = o_inv 3 52 1 95 := rfl
theorem k133_95 : CD 133 95 = o_iinc 1 1 98 := rfl
theorem k133_98 : CD 133 98 = o_goto 2 := rfl
theorem k133_101 : CD 133 101 = o_vret := rfl
theorem k134_0 : CD 134 0 = o_ald 0 1 := rfl
theorem k134_1 : CD 134 1 = o_getR 9 2 4 := rfl
theorem k134_4 : CD 134 4 = o_getI 1 1 7 := rfl
theorem k134_7 : CD 134 7 = o_push (vi 1) 8 := rfl
theorem k134_8 : CD 134 8 = o_isub 9 := rfl
theorem k134_9 : CD 134 9 = o_ist 1 10 := rfl
theorem k134_10 : CD 134 10 = o_ild 1 11 := rfl
theorem k134_11 : CD 134 11 = o_iflt 42 14 := rfl
theorem k134_14 : CD 134 14 = o_ald 0 15 := rfl
theorem k134_15 : CD 134 15 = o_getR 9 4 18 := rfl
theorem k134_18 : CD 134 18 = o_getR 8 2 21 := rfl
theorem k134_21 : CD 134 21 = o_ild 1 22 := rfl
theorem k134_22 : CD 134 22 = o_iald 23 := rfl
theorem k134_23 : CD 134 23 = o_push (vi 8) 25 := rfl
theorem k134_25 : CD 134 25 = o_icne 36 28 := rfl
theorem k134_28 : CD 134 28 = o_ald 0 29 := rfl
theorem k134_29 : CD 134 29 = o_getR 9 2 32 := rfl
theorem k134_32 : CD 134 32 = o_ild 1 33 := rfl
theorem k134_33 : CD 134 33 = o_inv 1 31 1 36 := rfl
theorem k134_36 : CD 134 36 = o_iinc 1 (-1) 39 := rfl
theorem k134_39 : CD 134 39 = o_goto 10 := rfl
theorem k134_42 : CD 134 42 = o_vret := rfl
theorem k135_0 : CD 135 0 = o_ald 0 1 := rfl
theorem k135_1 : CD 135 1 = o_objinit 4 := rfl
theorem k135_4 : CD 135 4 = o_ald 0 5 := rfl
theorem k135_5 : CD 135 5 = o_push (vi 10) 7 := rfl
theorem k135_7 : CD 135 7 = o_putI 10 0 10 := rfl
theorem k135_10 : CD 135 10 = o_ald 0 11 := rfl
theorem k135_11 : CD 135 11 = o_push (vi 8) 13 := rfl
theorem k135_13 : CD 135 13 = o_newa 20 15 := rfl
theorem k135_15 : CD 135 15 = o_putR 10 3 18 := rfl
theorem k135_18 : CD 135 18 = o_ald 0 19 := rfl
theorem k135_19 : CD 135 19 = o_push (vi 8) 21 := rfl
theorem k135_21 : CD 135 21 = o_newa 20 23 := rfl
theorem k135_23 : CD 135 23 = o_putR 10 4 26 := rfl
theorem k135_26 : CD 135 26 = o_ald 0 27 := rfl
theorem k135_27 : CD 135 27 = o_push (vi 8) 29 := rfl
theorem k135_29 : CD 135 29 = o_newa 20 31 := rfl
theorem k135_31 : CD 135 31 = o_putR 10 5 34 := rfl
theorem k135_34 : CD 135 34 = o_ald 0 35 := rfl
theorem k135_35 : CD 135 35 = o_push (vi (-1)) 36 := rfl
theorem k135_36 : CD 135 36 = o_putI 10 6 39 := rfl
theorem k135_39 : CD 135 39 = o_ald 0 40 := rfl
theorem k135_40 : CD 135 40 = o_push (vi 72) 42 := rfl
theorem k135_42 : CD 135 42 = o_newa 20 44 := rfl
theorem k135_44 : CD 135 44 = o_putR 10 9 47 := rfl
theorem k135_47 : CD 135 47 = o_ald 0 48 := rfl
theorem k135_48 : CD 135 48 = o_push (vi 4) 49 := rfl
theorem k135_49 : CD 135 49 = o_newa 20 51 := rfl
theorem k135_51 : CD 135 51 = o_putR 10 11 54 := rfl
theorem k135_54 : CD 135 54 = o_ald 0 55 := rfl
theorem k135_55 : CD 135 55 = o_push (vi 160) 58 := rfl
theorem k135_58 : CD 135 58 = o_newa 20 60 := rfl
theorem k135_60 : CD 135 60 = o_putR 10 13 63 := rfl
theorem k135_63 : CD 135 63 = o_ald 0 64 := rfl
theorem k135_64 : CD 135 64 = o_push (vi 161) 67 := rfl
theorem k135_67 : CD 135 67 = o_newa 20 69 := rfl
theorem k135_69 : CD 135 69 = o_putR 10 15 72 := rfl
theorem k135_72 : CD 135 72 = o_ald 0 73 := rfl
theorem k135_73 : CD 135 73 = o_push (vi 161) 76 := rfl
theorem k135_76 : CD 135 76 = o_newa 20 78 := rfl
theorem k135_78 : CD 135 78 = o_putR 10 16 81 := rfl
theorem k135_81 : CD 135 81 = o_ald 0 82 := rfl
theorem k135_82 : CD 135 82 = o_push (vi 161) 85 := rfl
theorem k135_85 : CD 135 85 = o_newa 20 87 := rfl
theorem k135_87 : CD 135 87 = o_putR 10 17 90 := rfl
theorem k135_90 : CD 135 90 = o_ald 0 91 := rfl
theorem k135_91 : CD 135 91 = o_push (vi 23) 93 := rfl
theorem k135_93 : CD 135 93 = o_newa 20 95 := rfl
theorem k135_95 : CD 135 95 = o_putR 10 20 98 := rfl
theorem k135_98 : CD 135 98 = o_ald 0 99 := rfl
theorem k135_99 : CD 135 99 = o_push (vi 138) 102 := rfl
theorem k135_102 : CD 135 102 = o_newa 20 104 := rfl
theorem k135_104 : CD 135 104 = o_putR 10 22 107 := rfl
theorem k135_107 : CD 135 107 = o_ald 0 108 := rfl
theorem k135_108 : CD 135 108 = o_push (vi 5) 109 := rfl
theorem k135_109 : CD 135 109 = o_newa 20 111 := rfl
theorem k135_111 : CD 135 111 = o_putR 10 23 114 := rfl
theorem k135_114 : CD 135 114 = o_ald 0 115 := rfl
theorem k135_115 : CD 135 115 = o_push (vi 1000) 118 := rfl
theorem k135_118 : CD 135 118 = o_newa 20 120 := rfl
theorem k135_120 : CD 135 120 = o_putR 10 24 123 := rfl
theorem k135_123 : CD 135 123 = o_ald 0 124 := rfl
theorem k135_124 : CD 135 124 = o_push (vi 1000) 127 := rfl
theorem k135_127 : CD 135 127 = o_newa 20 129 := rfl
theorem k135_129 : CD 135 129 = o_putR 10 25 132 := rfl
theorem k135_132 : CD 135 132 = o_ald 0 133 := rfl
theorem k135_133 : CD 135 133 = o_push (vi 1000) 136 := rfl
theorem k135_136 : CD 135 136 = o_newa 21 138 := rfl
theorem k135_138 : CD 135 138 = o_putR 10 26 141 := rfl
theorem k135_141 : CD 135 141 = o_ald 0 142 := rfl
theorem k135_142 : CD 135 142 = o_push (vi 6) 144 := rfl
theorem k135_144 : CD 135 144 = o_newa 20 146 := rfl
theorem k135_146 : CD 135 146 = o_putR 10 29 149 := rfl
theorem k135_149 : CD 135 149 = o_ald 0 150 := rfl
theorem k135_150 : CD 135 150 = o_push (vi 5) 151 := rfl
theorem k135_151 : CD 135 151 = o_newa 20 153 := rfl
theorem k135_153 : CD 135 153 = o_putR 10 30 156 := rfl
theorem k135_156 : CD 135 156 = o_ald 0 157 := rfl
theorem k135_157 : CD 135 157 = o_push (vi 5) 158 := rfl
theorem k135_158 : CD 135 158 = o_newa 20 160 := rfl
theorem k135_160 : CD 135 160 = o_putR 10 32 163 := rfl
theorem k135_163 : CD 135 163 = o_ald 0 164 := rfl
theorem k135_164 : CD 135 164 = o_push (vi 5) 165 := rfl
theorem k135_165 : CD 135 165 = o_newa 20 167 := rfl
theorem k135_167 : CD 135 167 = o_putR 10 33 170 := rfl
theorem k135_170 : CD 135 170 = o_ald 0 171 := rfl
theorem k135_171 : CD 135 171 = o_push (vi 5) 172 := rfl
theorem k135_172 : CD 135 172 = o_newa 21 174 := rfl
theorem k135_174 : CD 135 174 = o_putR 10 34 177 := rfl
theorem k135_177 : CD 135 177 = o_ald 0 178 := rfl
theorem k135_178 : CD 135 178 = o_push (vi 12) 180 := rfl
theorem k135_180 : CD 135 180 = o_newa 20 182 := rfl
theorem k135_182 : CD 135 182 = o_putR 10 35 185 := rfl
theorem k135_185 : CD 135 185 = o_ald 0 186 := rfl
theorem k135_186 : CD 135 186 = o_push (vi 4) 187 := rfl
theorem k135_187 : CD 135 187 = o_newa 20 189 := rfl
theorem k135_189 : CD 135 189 = o_putR 10 37 192 := rfl
theorem k135_192 : CD 135 192 = o_ald 0 193 := rfl
theorem k135_193 : CD 135 193 = o_push (vi 8) 195 := rfl
theorem k135_195 : CD 135 195 = o_newa 20 197 := rfl
theorem k135_197 : CD 135 197 = o_putR 10 38 200 := rfl
theorem k135_200 : CD 135 200 = o_push (vi 0) 201 := rfl
theorem k135_201 : CD 135 201 = o_ist 1 202 := rfl
theorem k135_202 : CD 135 202 = o_ild 1 203 := rfl
theorem k135_203 : CD 135 203 = o_push (vi 72) 205 := rfl
theorem k135_205 : CD 135 205 = o_icge 221 208 := rfl
theorem k135_208 : CD 135 208 = o_ald 0 209 := rfl
theorem k135_209 : CD 135 209 = o_getR 10 9 212 := rfl
theorem k135_212 : CD 135 212 = o_ild 1 213 := rfl
theorem k135_213 : CD 135 213 = o_push (vi 1) 214 := rfl
theorem k135_214 : CD 135 214 = o_iast 215 := rfl
theorem k135_215 : CD 135 215 = o_iinc 1 1 218 := rfl
theorem k135_218 : CD 135 218 = o_goto 202 := rfl
theorem k135_221 : CD 135 221 = o_push (vi 0) 222 := rfl
theorem k135_222 : CD 135 222 = o_ist 1 223 := rfl
theorem k135_223 : CD 135 223 = o_ild 1 224 := rfl
theorem k135_224 : CD 135 224 = o_push (vi 4) 225 := rfl
theorem k135_225 : CD 135 225 = o_icge 241 228 := rfl
theorem k135_228 : CD 135 228 = o_ald 0 229 := rfl
theorem k135_229 : CD 135 229 = o_getR 10 37 232 := rfl
theorem k135_232 : CD 135 232 = o_ild 1 233 := rfl
theorem k135_233 : CD 135 233 = o_push (vi 1) 234 := rfl
theorem k135_234 : CD 135 234 = o_iast 235 := rfl
theorem k135_235 : CD 135 235 = o_iinc 1 1 238 := rfl
theorem k135_238 : CD 135 238 = o_goto 223 := rfl
theorem k135_241 : CD 135 241 = o_vret := rfl
theorem k136_0 : CD 136 0 = o_ild 0 1 := rfl
theorem k136_1 : CD 136 1 = o_ild 1 2 := rfl
theorem k136_2 : CD 136 2 = o_iclt 14 5 := rfl
theorem k136_5 : CD 136 5 = o_ild 0 6 := rfl
theorem k136_6 : CD 136 6 = o_ild 2 7 := rfl
theorem k136_7 : CD 136 7 = o_icgt 14 10 := rfl
theorem k136_10 : CD 136 10 = o_push (vi 1) 11 := rfl
theorem k136_11 : CD 136 11 = o_goto 15 := rfl
theorem k136_14 : CD 136 14 = o_push (vi 0) 15 := rfl
theorem k136_15 : CD 136 15 = o_zret := rfl
theorem k137_0 : CD 137 0 = o_ild 1 1 := rfl
theorem k137_1 : CD 137 1 = o_push (vi 0) 2 := rfl
theorem k137_2 : CD 137 2 = o_ald 0 3 := rfl
theorem k137_3 : CD 137 3 = o_getI 10 0 6 := rfl
theorem k137_6 : CD 137 6 = o_push (vi 1) 7 := rfl
theorem k137_7 : CD 137 7 = o_isub 8 := rfl
theorem k137_8 : CD 137 8 = o_sta 136 3 11 := rfl
theorem k137_11 : CD 137 11 = o_zret := rfl
theorem k138_0 : CD 138 0 = o_ild 1 1 := rfl
theorem k138_1 : CD 138 1 = o_push (vi 0) 2 := rfl
theorem k138_2 : CD 138 2 = o_ald 0 3 := rfl
theorem k138_3 : CD 138 3 = o_getI 10 2 6 := rfl
theorem k138_6 : CD 138 6 = o_push (vi 1) 7 := rfl
theorem k138_7 : CD 138 7 = o_isub 8 := rfl
theorem k138_8 : CD 138 8 = o_sta 136 3 11 := rfl
theorem k138_11 : CD 138 11 = o_zret := rfl
theorem k139_0 : CD 139 0 = o_ild 1 1 := rfl
theorem k139_1 : CD 139 1 = o_push (vi 0) 2 := rfl
theorem k139_2 : CD 139 2 = o_ald 0 3 := rfl
theorem k139_3 : CD 139 3 = o_getI 10 21 6 := rfl
theorem k139_6 : CD 139 6 = o_push (vi 1) 7 := rfl
theorem k139_7 : CD 139 7 = o_isub 8 := rfl
theorem k139_8 : CD 139 8 = o_sta 136 3 11 := rfl
theorem k139_11 : CD 139 11 = o_zret := rfl
theorem k140_0 : CD 140 0 = o_ild 1 1 := rfl
theorem k140_1 : CD 140 1 = o_push (vi 0) 2 := rfl
theorem k140_2 : CD 140 2 = o_push (vi 1) 3 := rfl
theorem k140_3 : CD 140 3 = o_ald 0 4 := rfl
theorem k140_4 : CD 140 4 = o_getI 10 10 7 := rfl
theorem k140_7 : CD 140 7 = o_iadd 8 := rfl
theorem k140_8 : CD 140 8 = o_sta 136 3 11 := rfl
theorem k140_11 : CD 140 11 = o_zret := rfl
theorem k141_0 : CD 141 0 = o_ild 1 1 := rfl
theorem k141_1 : CD 141 1 = o_push (vi 4) 2 := rfl
theorem k141_2 : CD 141 2 = o_push (vi 12) 4 := rfl
theorem k141_4 : CD 141 4 = o_sta 136 3 7 := rfl
theorem k141_7 : CD 141 7 = o_ifne 13 10 := rfl
theorem k141_10 : CD 141 10 = o_push (vi (-3)) 12 := rfl
theorem k141_12 : CD 141 12 = o_iret := rfl
theorem k141_13 : CD 141 13 = o_ald 0 14 := rfl
theorem k141_14 : CD 141 14 = o_getI 10 0 17 := rfl
theorem k141_17 : CD 141 17 = o_ist 2 18 := rfl
theorem k141_18 : CD 141 18 = o_ald 0 19 := rfl
theorem k141_19 : CD 141 19 = o_ild 1 20 := rfl
theorem k141_20 : CD 141 20 = o_putI 10 0 23 := rfl
theorem k141_23 : CD 141 23 = o_push (vi 0) 24 := rfl
theorem k141_24 : CD 141 24 = o_ist 3 25 := rfl
theorem k141_25 : CD 141 25 = o_ild 3 26 := rfl
theorem k141_26 : CD 141 26 = o_push (vi 24) 28 := rfl
theorem k141_28 : CD 141 28 = o_icge 44 31 := rfl
theorem k141_31 : CD 141 31 = o_ald 0 32 := rfl
theorem k141_32 : CD 141 32 = o_getR 10 9 35 := rfl
theorem k141_35 : CD 141 35 = o_ild 3 36 := rfl
theorem k141_36 : CD 141 36 = o_push (vi 1) 37 := rfl
theorem k141_37 : CD 141 37 = o_iast 38 := rfl
theorem k141_38 : CD 141 38 = o_iinc 3 1 41 := rfl
theorem k141_41 : CD 141 41 = o_goto 25 := rfl
theorem k141_44 : CD 141 44 = o_ald 0 45 := rfl
theorem k141_45 : CD 141 45 = o_push (vi (-1)) 46 := rfl
theorem k141_46 : CD 141 46 = o_putI 10 6 49 := rfl
theorem k141_49 : CD 141 49 = o_ald 0 50 := rfl
theorem k141_50 : CD 141 50 = o_push (vi 0) 51 := rfl
theorem k141_51 : CD 141 51 = o_putI 10 10 54 := rfl
theorem k141_54 : CD 141 54 = o_ild 2 55 := rfl
theorem k141_55 : CD 141 55 = o_iret := rfl
theorem k142_0 : CD 142 0 = o_ild 1 1 := rfl
theorem k142_1 : CD 142 1 = o_push (vi 0) 2 := rfl
theorem k142_2 : CD 142 2 = o_push (vi 40) 4 := rfl
theorem k142_4 : CD 142 4 = o_sta 136 3 7 := rfl
theorem k142_7 : CD 142 7 = o_ifeq 29 10 := rfl
theorem k142_10 : CD 142 10 = o_ild 2 11 := rfl
theorem k142_11 : CD 142 11 = o_push (vi 0) 12 := rfl
theorem k142_12 : CD 142 12 = o_push (vi 8) 14 := rfl
theorem k142_14 : CD 142 14 = o_sta 136 3 17 := rfl
theorem k142_17 : CD 142 17 = o_ifeq 29 20 := rfl
theorem k142_20 : CD 142 20 = o_ild 3 21 := rfl
theorem k142_21 : CD 142 21 = o_push (vi 0) 22 := rfl
theorem k142_22 : CD 142 22 = o_push (vi 3) 23 := rfl
theorem k142_23 : CD 142 23 = o_sta 136 3 26 := rfl
theorem k142_26 : CD 142 26 = o_ifne 32 29 := rfl
theorem k142_29 : CD 142 29 = o_push (vi (-3)) 31 := rfl
theorem k142_31 : CD 142 31 = o_iret := rfl
theorem k142_32 : CD 142 32 = o_ald 0 33 := rfl
theorem k142_33 : CD 142 33 = o_getI 10 2 36 := rfl
theorem k142_36 : CD 142 36 = o_push (vi 8) 38 := rfl
theorem k142_38 : CD 142 38 = o_icne 44 41 := rfl
theorem k142_41 : CD 142 41 = o_push (vi (-5)) 43 := rfl
theorem k142_43 : CD 142 43 = o_iret := rfl
theorem k142_44 : CD 142 44 = o_ald 0 45 := rfl
theorem k142_45 : CD 142 45 = o_getR 10 3 48 := rfl
theorem k142_48 : CD 142 48 = o_ald 0 49 := rfl
theorem k142_49 : CD 142 49 = o_getI 10 2 52 := rfl
theorem k142_52 : CD 142 52 = o_ild 1 53 := rfl
theorem k142_53 : CD 142 53 = o_iast 54 := rfl
theorem k142_54 : CD 142 54 = o_ald 0 55 := rfl
theorem k142_55 : CD 142 55 = o_getR 10 4 58 := rfl
theorem k142_58 : CD 142 58 = o_ald 0 59 := rfl
theorem k142_59 : CD 142 59 = o_getI 10 2 62 := rfl
theorem k142_62 : CD 142 62 = o_ild 2 63 := rfl
theorem k142_63 : CD 142 63 = o_iast 64 := rfl
theorem k142_64 : CD 142 64 = o_ald 0 65 := rfl
theorem k142_65 : CD 142 65 = o_getR 10 5 68 := rfl
theorem k142_68 : CD 142 68 = o_ald 0 69 := rfl
theorem k142_69 : CD 142 69 = o_getI 10 2 72 := rfl
theorem k142_72 : CD 142 72 = o_ild 3 73 := rfl
theorem k142_73 : CD 142 73 = o_iast 74 := rfl
theorem k142_74 : CD 142 74 = o_ald 0 75 := rfl
theorem k142_75 : CD 142 75 = o_dupr 76 := rfl
theorem k142_76 : CD 142 76 = o_getI 10 2 79 := rfl
theorem k142_79 : CD 142 79 = o_push (vi 1) 80 := rfl
theorem k142_80 : CD 142 80 = o_iadd 81 := rfl
theorem k142_81 : CD 142 81 = o_putI 10 2 84 := rfl
theorem k142_84 : CD 142 84 = o_ald 0 85 := rfl
theorem k142_85 : CD 142 85 = o_getI 10 2 88 := rfl
theorem k142_88 : CD 142 88 = o_push (vi 1) 89 := rfl
theorem k142_89 : CD 142 89 = o_isub 90 := rfl
theorem k142_90 : CD 142 90 = o_iret := rfl
theorem k143_0 : CD 143 0 = o_ild 2 1 := rfl
theorem k143_1 : CD 143 1 = o_ald 0 2 := rfl
theorem k143_2 : CD 143 2 = o_getR 10 3 5 := rfl
theorem k143_5 : CD 143 5 = o_ild 1 6 := rfl
theorem k143_6 : CD 143 6 = o_iald 7 := rfl
theorem k143_7 : CD 143 7 = o_isub 8 := rfl
theorem k143_8 : CD 143 8 = o_ald 0 9 := rfl
theorem k143_9 : CD 143 9 = o_getI 10 1 12 := rfl
theorem k143_12 : CD 143 12 = o_iadd 13 := rfl
theorem k143_13 : CD 143 13 = o_ist 3 14 := rfl
theorem k143_14 : CD 143 14 = o_ild 3 15 := rfl
theorem k143_15 : CD 143 15 = o_ifge 23 18 := rfl
theorem k143_18 : CD 143 18 = o_ild 3 19 := rfl
theorem k143_19 : CD 143 19 = o_ineg 20 := rfl
theorem k143_20 : CD 143 20 = o_goto 24 := rfl
theorem k143_23 : CD 143 23 = o_ild 3 24 := rfl
theorem k143_24 : CD 143 24 = o_iret := rfl
theorem k144_0 : CD 144 0 = o_ald 0 1 := rfl
theorem k144_1 : CD 144 1 = o_ild 1 2 := rfl
theorem k144_2 : CD 144 2 = o_ild 2 3 := rfl
theorem k144_3 : CD 144 3 = o_inv 10 143 2 6 := rfl
theorem k144_6 : CD 144 6 = o_ald 0 7 := rfl
theorem k144_7 : CD 144 7 = o_getR 10 4 10 := rfl
theorem k144_10 : CD 144 10 = o_ild 1 11 := rfl
theorem k144_11 : CD 144 11 = o_iald 12 := rfl
theorem k144_12 : CD 144 12 = o_icgt 19 15 := rfl
theorem k144_15 : CD 144 15 = o_push (vi 1) 16 := rfl
theorem k144_16 : CD 144 16 = o_goto 20 := rfl
theorem k144_19 : CD 144 19 = o_push (vi 0) 20 := rfl
theorem k144_20 : CD 144 20 = o_zret := rfl
theorem k145_0 : CD 145 0 = o_ald 0 1 := rfl
theorem k145_1 : CD 145 1 = o_ild 1 2 := rfl
theorem k145_2 : CD 145 2 = o_inv 10 138 1 5 := rfl
theorem k145_5 : CD 145 5 = o_ifeq 16 8 := rfl
theorem k145_8 : CD 145 8 = o_ald 0 9 := rfl
theorem k145_9 : CD 145 9 = o_ild 2 10 := rfl
theorem k145_10 : CD 145 10 = o_inv 10 137 1 13 := rfl
theorem k145_13 : CD 145 13 = o_ifne 19 16 := rfl
theorem k145_16 : CD 145 16 = o_push (vi (-2)) 18 := rfl
theorem k145_18 : CD 145 18 = o_iret := rfl
theorem k145_19 : CD 145 19 = o_ald 0 20 := rfl
theorem k145_20 : CD 145 20 = o_ild 1 21 := rfl
theorem k145_21 : CD 145 21 = o_ild 2 22 := rfl
theorem k145_22 : CD 145 22 = o_inv 10 144 2 25 := rfl
theorem k145_25 : CD 145 25 = o_ifeq 37 28 := rfl
theorem k145_28 : CD 145 28 = o_ald 0 29 := rfl
theorem k145_29 : CD 145 29 = o_ild 1 30 := rfl
theorem k145_30 : CD 145 30 = o_ild 2 31 := rfl
theorem k145_31 : CD 145 31 = o_inv 10 143 2 34 := rfl
theorem k145_34 : CD 145 34 = o_goto 38 := rfl
theorem k145_37 : CD 145 37 = o_push (vi (-1)) 38 := rfl
theorem k145_38 : CD 145 38 = o_iret := rfl
theorem k146_0 : CD 146 0 = o_ild 1 1 := rfl
theorem k146_1 : CD 146 1 = o_push (vi 0) 2 := rfl
theorem k146_2 : CD 146 2 = o_push (vi 3) 3 := rfl
theorem k146_3 : CD 146 3 = o_sta 136 3 6 := rfl
theorem k146_6 : CD 146 6 = o_ifeq 30 9 := rfl
theorem k146_9 : CD 146 9 = o_ald 0 10 := rfl
theorem k146_10 : CD 146 10 = o_ild 2 11 := rfl
theorem k146_11 : CD 146 11 = o_inv 10 137 1 14 := rfl
theorem k146_14 : CD 146 14 = o_ifeq 30 17 := rfl
theorem k146_17 : CD 146 17 = o_ald 0 18 := rfl
theorem k146_18 : CD 146 18 = o_ild 3 19 := rfl
theorem k146_19 : CD 146 19 = o_inv 10 137 1 22 := rfl
theorem k146_22 : CD 146 22 = o_ifeq 30 25 := rfl
theorem k146_25 : CD 146 25 = o_ild 2 26 := rfl
theorem k146_26 : CD 146 26 = o_ild 3 27 := rfl
theorem k146_27 : CD 146 27 = o_icle 33 30 := rfl
theorem k146_30 : CD 146 30 = o_push (vi (-3)) 32 := rfl
theorem k146_32 : CD 146 32 = o_iret := rfl
theorem k146_33 : CD 146 33 = o_ald 0 34 := rfl
theorem k146_34 : CD 146 34 = o_ild 1 35 := rfl
theorem k146_35 : CD 146 35 = o_putI 10 6 38 := rfl
theorem k146_38 : CD 146 38 = o_ald 0 39 := rfl
theorem k146_39 : CD 146 39 = o_ild 2 40 := rfl
theorem k146_40 : CD 146 40 = o_putI 10 7 43 := rfl
theorem k146_43 : CD 146 43 = o_ald 0 44 := rfl
theorem k146_44 : CD 146 44 = o_ild 3 45 := rfl
theorem k146_45 : CD 146 45 = o_putI 10 8 48 := rfl
theorem k146_48 : CD 146 48 = o_push (vi 1) 49 := rfl
theorem k146_49 : CD 146 49 = o_iret := rfl
theorem k147_0 : CD 147 0 = o_ald 0 1 := rfl
theorem k147_1 : CD 147 1 = o_ild 1 2 := rfl
theorem k147_2 : CD 147 2 = o_inv 10 140 1 5 := rfl
theorem k147_5 : CD 147 5 = o_ifeq 16 8 := rfl
theorem k147_8 : CD 147 8 = o_ald 0 9 := rfl
theorem k147_9 : CD 147 9 = o_ild 2 10 := rfl
theorem k147_10 : CD 147 10 = o_inv 10 137 1 13 := rfl
theorem k147_13 : CD 147 13 = o_ifne 19 16 := rfl
theorem k147_16 : CD 147 16 = o_push (vi (-2)) 18 := rfl
theorem k147_18 : CD 147 18 = o_iret := rfl
theorem k147_19 : CD 147 19 = o_ild 3 20 := rfl
theorem k147_20 : CD 147 20 = o_push (vi 0) 21 := rfl
theorem k147_21 : CD 147 21 = o_push (vi 4) 22 := rfl
theorem k147_22 : CD 147 22 = o_sta 136 3 25 := rfl
theorem k147_25 : CD 147 25 = o_ifne 31 28 := rfl
theorem k147_28 : CD 147 28 = o_push (vi (-3)) 30 := rfl
theorem k147_30 : CD 147 30 = o_iret := rfl
theorem k147_31 : CD 147 31 = o_ald 0 32 := rfl
theorem k147_32 : CD 147 32 = o_getR 10 9 35 := rfl
theorem k147_35 : CD 147 35 = o_push (vi 12) 37 := rfl
theorem k147_37 : CD 147 37 = o_ild 1 38 := rfl
theorem k147_38 : CD 147 38 = o_imul 39 := rfl
theorem k147_39 : CD 147 39 = o_ild 2 40 := rfl
theorem k147_40 : CD 147 40 = o_iadd 41 := rfl
theorem k147_41 : CD 147 41 = o_iald 42 := rfl
theorem k147_42 : CD 147 42 = o_ist 4 44 := rfl
theorem k147_44 : CD 147 44 = o_ald 0 45 := rfl
theorem k147_45 : CD 147 45 = o_getR 10 9 48 := rfl
theorem k147_48 : CD 147 48 = o_push (vi 12) 50 := rfl
theorem k147_50 : CD 147 50 = o_ild 1 51 := rfl
theorem k147_51 : CD 147 51 = o_imul 52 := rfl
theorem k147_52 : CD 147 52 = o_ild 2 53 := rfl
theorem k147_53 : CD 147 53 = o_iadd 54 := rfl
theorem k147_54 : CD 147 54 = o_ild 3 55 := rfl
theorem k147_55 : CD 147 55 = o_iast 56 := rfl
theorem k147_56 : CD 147 56 = o_ild 4 58 := rfl
theorem k147_58 : CD 147 58 = o_iret := rfl
theorem k148_0 : CD 148 0 = o_ild 1 1 := rfl
theorem k148_1 : CD 148 1 = o_push (vi 1) 2 := rfl
theorem k148_2 : CD 148 2 = o_push (vi 9) 4 := rfl
theorem k148_4 : CD 148 4 = o_sta 136 3 7 := rfl
theorem k148_7 : CD 148 7 = o_ifne 13 10 := rfl
theorem k148_10 : CD 148 10 = o_push (vi (-3)) 12 := rfl
theorem k148_12 : CD 148 12 = o_iret := rfl
theorem k148_13 : CD 148 13 = o_ald 0 14 := rfl
theorem k148_14 : CD 148 14 = o_getI 10 10 17 := rfl
theorem k148_17 : CD 148 17 = o_push (vi 4) 18 := rfl
theorem k148_18 : CD 148 18 = o_icne 24 21 := rfl
theorem k148_21 : CD 148 21 = o_push (vi (-5)) 23 := rfl
theorem k148_23 : CD 148 23 = o_iret := rfl
theorem k148_24 : CD 148 24 = o_push (vi 0) 25 := rfl
theorem k148_25 : CD 148 25 = o_ist 2 26 := rfl
theorem k148_26 : CD 148 26 = o_ild 2 27 := rfl
theorem k148_27 : CD 148 27 = o_push (vi 12) 29 := rfl
theorem k148_29 : CD 148 29 = o_icge 61 32 := rfl
theorem k148_32 : CD 148 32 = o_ald 0 33 := rfl
theorem k148_33 : CD 148 33 = o_getR 10 9 36 := rfl
theorem k148_36 : CD 148 36 = o_push (vi 24) 38 := rfl
theorem k148_38 : CD 148 38 = o_push (vi 12) 40 := rfl
theorem k148_40 : CD 148 40 = o_ald 0 41 := rfl
theorem k148_41 : CD 148 41 = o_getI 10 10 44 := rfl
theorem k148_44 : CD 148 44 = o_imul 45 := rfl
theorem k148_45 : CD 148 45 = o_iadd 46 := rfl
theorem k148_46 : CD 148 46 = o_ild 2 47 := rfl
theorem k148_47 : CD 148 47 = o_iadd 48 := rfl
theorem k148_48 : CD 148 48 = o_ald 0 49 := rfl
theorem k148_49 : CD 148 49 = o_getR 10 9 52 := rfl
theorem k148_52 : CD 148 52 = o_ild 2 53 := rfl
theorem k148_53 : CD 148 53 = o_iald 54 := rfl
theorem k148_54 : CD 148 54 = o_iast 55 := rfl
theorem k148_55 : CD 148 55 = o_iinc 2 1 58 := rfl
theorem k148_58 : CD 148 58 = o_goto 26 := rfl
theorem k148_61 : CD 148 61 = o_ald 0 62 := rfl
theorem k148_62 : CD 148 62 = o_getR 10 11 65 := rfl
theorem k148_65 : CD 148 65 = o_ald 0 66 := rfl
theorem k148_66 : CD 148 66 = o_getI 10 10 69 := rfl
theorem k148_69 : CD 148 69 = o_ild 1 70 := rfl
theorem k148_70 : CD 148 70 = o_iast 71 := rfl
theorem k148_71 : CD 148 71 = o_ald 0 72 := rfl
theorem k148_72 : CD 148 72 = o_dupr 73 := rfl
theorem k148_73 : CD 148 73 = o_getI 10 10 76 := rfl
theorem k148_76 : CD 148 76 = o_push (vi 1) 77 := rfl
theorem k148_77 : CD 148 77 = o_iadd 78 := rfl
theorem k148_78 : CD 148 78 = o_putI 10 10 81 := rfl
theorem k148_81 : CD 148 81 = o_ald 0 82 := rfl
theorem k148_82 : CD 148 82 = o_getI 10 10 85 := rfl
theorem k148_85 : CD 148 85 = o_push (vi 1) 86 := rfl
theorem k148_86 : CD 148 86 = o_isub 87 := rfl
theorem k148_87 : CD 148 87 = o_iret := rfl
theorem k149_0 : CD 149 0 = o_ald 0 1 := rfl
theorem k149_1 : CD 149 1 = o_getI 10 10 4 := rfl
theorem k149_4 : CD 149 4 = o_ist 1 5 := rfl
theorem k149_5 : CD 149 5 = o_ald 0 6 := rfl
theorem k149_6 : CD 149 6 = o_push (vi 0) 7 := rfl
theorem k149_7 : CD 149 7 = o_putI 10 10 10 := rfl
theorem k149_10 : CD 149 10 = o_ild 1 11 := rfl
theorem k149_11 : CD 149 11 = o_iret := rfl
theorem k150_0 : CD 150 0 = o_ild 3 1 := rfl
theorem k150_1 : CD 150 1 = o_push (vi 1) 2 := rfl
theorem k150_2 : CD 150 2 = o_push (vi 8) 4 := rfl
theorem k150_4 : CD 150 4 = o_sta 136 3 7 := rfl
theorem k150_7 : CD 150 7 = o_ifne 13 10 := rfl
theorem k150_10 : CD 150 10 = o_push (vi (-3)) 12 := rfl
theorem k150_12 : CD 150 12 = o_iret := rfl
theorem k150_13 : CD 150 13 = o_ald 0 14 := rfl
theorem k150_14 : CD 150 14 = o_getI 10 12 17 := rfl
theorem k150_17 : CD 150 17 = o_ild 3 18 := rfl
theorem k150_18 : CD 150 18 = o_iadd 19 := rfl
theorem k150_19 : CD 150 19 = o_push (vi 160) 22 := rfl
theorem k150_22 : CD 150 22 = o_icle 28 25 := rfl
theorem k150_25 : CD 150 25 = o_push (vi (-5)) 27 := rfl
theorem k150_27 : CD 150 27 = o_iret := rfl
theorem k150_28 : CD 150 28 = o_push (vi 0) 29 := rfl
theorem k150_29 : CD 150 29 = o_ist 4 31 := rfl
theorem k150_31 : CD 150 31 = o_ild 4 33 := rfl
theorem k150_33 : CD 150 33 = o_ild 3 34 := rfl
theorem k150_34 : CD 150 34 = o_icge 67 37 := rfl
theorem k150_37 : CD 150 37 = o_ald 0 38 := rfl
theorem k150_38 : CD 150 38 = o_getR 10 13 41 := rfl
theorem k150_41 : CD 150 41 = o_ald 0 42 := rfl
theorem k150_42 : CD 150 42 = o_getI 10 12 45 := rfl
theorem k150_45 : CD 150 45 = o_ild 4 47 := rfl
theorem k150_47 : CD 150 47 = o_iadd 48 := rfl
theorem k150_48 : CD 150 48 = o_lld 1 49 := rfl
theorem k150_49 : CD 150 49 = o_push (vi 8) 51 := rfl
theorem k150_51 : CD 150 51 = o_ild 4 53 := rfl
theorem k150_53 : CD 150 53 = o_imul 54 := rfl
theorem k150_54 : CD 150 54 = o_lshr 55 := rfl
theorem k150_55 : CD 150 55 = o_push (vl 255) 58 := rfl
theorem k150_58 : CD 150 58 = o_land 59 := rfl
theorem k150_59 : CD 150 59 = o_l2i 60 := rfl
theorem k150_60 : CD 150 60 = o_iast 61 := rfl
theorem k150_61 : CD 150 61 = o_iinc 4 1 64 := rfl
theorem k150_64 : CD 150 64 = o_goto 31 := rfl
theorem k150_67 : CD 150 67 = o_ald 0 68 := rfl
theorem k150_68 : CD 150 68 = o_dupr 69 := rfl
theorem k150_69 : CD 150 69 = o_getI 10 12 72 := rfl
theorem k150_72 : CD 150 72 = o_ild 3 73 := rfl
theorem k150_73 : CD 150 73 = o_iadd 74 := rfl
theorem k150_74 : CD 150 74 = o_putI 10 12 77 := rfl
theorem k150_77 : CD 150 77 = o_ald 0 78 := rfl
theorem k150_78 : CD 150 78 = o_getI 10 12 81 := rfl
theorem k150_81 : CD 150 81 = o_iret := rfl
theorem k151_0 : CD 151 0 = o_ald 0 1 := rfl
theorem k151_1 : CD 151 1 = o_getI 10 12 4 := rfl
theorem k151_4 : CD 151 4 = o_ist 1 5 := rfl
theorem k151_5 : CD 151 5 = o_ald 0 6 := rfl
theorem k151_6 : CD 151 6 = o_push (vi 0) 7 := rfl
theorem k151_7 : CD 151 7 = o_putI 10 12 10 := rfl
theorem k151_10 : CD 151 10 = o_ild 1 11 := rfl
theorem k151_11 : CD 151 11 = o_iret := rfl
theorem k152_0 : CD 152 0 = o_lld 0 1 := rfl
theorem k152_1 : CD 152 1 = o_push (vl 237307) 4 := rfl
theorem k152_4 : CD 152 4 = o_lcmp 5 := rfl
theorem k152_5 : CD 152 5 = o_ifne 10 8 := rfl
theorem k152_8 : CD 152 8 = o_push (vi 0) 9 := rfl
theorem k152_9 : CD 152 9 = o_iret := rfl
theorem k152_10 : CD 152 10 = o_lld 0 11 := rfl
theorem k152_11 : CD 152 11 = o_push (vl 459818) 14 := rfl
theorem k152_14 : CD 152 14 = o_lcmp 15 := rfl
theorem k152_15 : CD 152 15 = o_ifne 20 18 := rfl
theorem k152_18 : CD 152 18 = o_push (vi 1) 19 := rfl
theorem k152_19 : CD 152 19 = o_iret := rfl
theorem k152_20 : CD 152 20 = o_lld 0 21 := rfl
theorem k152_21 : CD 152 21 = o_push (vl 47) 24 := rfl
theorem k152_24 : CD 152 24 = o_lcmp 25 := rfl
theorem k152_25 : CD 152 25 = o_ifne 30 28 := rfl
theorem k152_28 : CD 152 28 = o_push (vi 2) 29 := rfl
theorem k152_29 : CD 152 29 = o_iret := rfl
theorem k152_30 : CD 152 30 = o_lld 0 31 := rfl
theorem k152_31 : CD 152 31 = o_push (vl 12532058) 34 := rfl
theorem k152_34 : CD 152 34 = o_lcmp 35 := rfl
theorem k152_35 : CD 152 35 = o_ifne 40 38 := rfl
theorem k152_38 : CD 152 38 = o_push (vi 3) 39 := rfl
theorem k152_39 : CD 152 39 = o_iret := rfl
theorem k152_40 : CD 152 40 = o_lld 0 41 := rfl
theorem k152_41 : CD 152 41 = o_push (vl 84825500) 44 := rfl
theorem k152_44 : CD 152 44 = o_lcmp 45 := rfl
theorem k152_45 : CD 152 45 = o_ifne 50 48 := rfl
theorem k152_48 : CD 152 48 = o_push (vi 4) 49 := rfl
theorem k152_49 : CD 152 49 = o_iret := rfl
theorem k152_50 : CD 152 50 = o_lld 0 51 := rfl
theorem k152_51 : CD 152 51 = o_push (vl 275391799) 54 := rfl
theorem k152_54 : CD 152 54 = o_lcmp 55 := rfl
theorem k152_55 : CD 152 55 = o_ifne 60 58 := rfl
theorem k152_58 : CD 152 58 = o_push (vi 5) 59 := rfl
theorem k152_59 : CD 152 59 = o_iret := rfl
theorem k152_60 : CD 152 60 = o_lld 0 61 := rfl
theorem k152_61 : CD 152 61 = o_push (vl 990) 64 := rfl
theorem k152_64 : CD 152 64 = o_lcmp 65 := rfl
theorem k152_65 : CD 152 65 = o_ifne 71 68 := rfl
theorem k152_68 : CD 152 68 = o_push (vi 6) 70 := rfl
theorem k152_70 : CD 152 70 = o_iret := rfl
theorem k152_71 : CD 152 71 = o_lld 0 72 := rfl
theorem k152_72 : CD 152 72 = o_push (vl 453701) 75 := rfl
theorem k152_75 : CD 152 75 = o_lcmp 76 := rfl
theorem k152_76 : CD 152 76 = o_ifne 82 79 := rfl
theorem k152_79 : CD 152 79 = o_push (vi 7) 81 := rfl
theorem k152_81 : CD 152 81 = o_iret := rfl
theorem k152_82 : CD 152 82 = o_lld 0 83 := rfl
theorem k152_83 : CD 152 83 = o_push (vl 555) 86 := rfl
theorem k152_86 : CD 152 86 = o_lcmp 87 := rfl
theorem k152_87 : CD 152 87 = o_ifne 93 90 := rfl
theorem k152_90 : CD 152 90 = o_push (vi 8) 92 := rfl
theorem k152_92 : CD 152 92 = o_iret := rfl
theorem k152_93 : CD 152 93 = o_lld 0 94 := rfl
theorem k152_94 : CD 152 94 = o_push (vl 79958) 97 := rfl
theorem k152_97 : CD 152 97 = o_lcmp 98 := rfl
theorem k152_98 : CD 152 98 = o_ifne 106 101 := rfl
theorem k152_101 : CD 152 101 = o_push (vi 20) 103 := rfl
theorem k152_103 : CD 152 103 = o_goto 108 := rfl
theorem k152_106 : CD 152 106 = o_push (vi 99) 108 := rfl
theorem k152_108 : CD 152 108 = o_iret := rfl
theorem k153_0 : CD 153 0 = o_ald 0 1 := rfl
theorem k153_1 : CD 153 1 = o_push (vi 0) 2 := rfl
theorem k153_2 : CD 153 2 = o_putI 10 14 5 := rfl
theorem k153_5 : CD 153 5 = o_push (vi 0) 6 := rfl
theorem k153_6 : CD 153 6 = o_ist 1 7 := rfl
theorem k153_7 : CD 153 7 = o_ild 1 8 := rfl
theorem k153_8 : CD 153 8 = o_ald 0 9 := rfl
theorem k153_9 : CD 153 9 = o_getI 10 12 12 := rfl
theorem k153_12 : CD 153 12 = o_icge 321 15 := rfl
theorem k153_15 : CD 153 15 = o_ild 1 16 := rfl
theorem k153_16 : CD 153 16 = o_ist 2 17 := rfl
theorem k153_17 : CD 153 17 = o_push (vi (-1)) 18 := rfl
theorem k153_18 : CD 153 18 = o_ist 3 19 := rfl
theorem k153_19 : CD 153 19 = o_push (vi 0) 20 := rfl
theorem k153_20 : CD 153 20 = o_ist 4 22 := rfl
theorem k153_22 : CD 153 22 = o_ald 0 23 := rfl
theorem k153_23 : CD 153 23 = o_getR 10 13 26 := rfl
theorem k153_26 : CD 153 26 = o_ild 1 27 := rfl
theorem k153_27 : CD 153 27 = o_iald 28 := rfl
theorem k153_28 : CD 153 28 = o_push (vi 97) 30 := rfl
theorem k153_30 : CD 153 30 = o_push (vi 122) 32 := rfl
theorem k153_32 : CD 153 32 = o_sta 136 3 35 := rfl
theorem k153_35 : CD 153 35 = o_ifeq 126 38 := rfl
theorem k153_38 : CD 153 38 = o_push (vl (0 : Nat)) 39 := rfl
theorem k153_39 : CD 153 39 = o_lst 5 41 := rfl
theorem k153_41 : CD 153 41 = o_ild 1 42 := rfl
theorem k153_42 : CD 153 42 = o_ald 0 43 := rfl
theorem k153_43 : CD 153 43 = o_getI 10 12 46 := rfl
theorem k153_46 : CD 153 46 = o_icge 104 49 := rfl
theorem k153_49 : CD 153 49 = o_ald 0 50 := rfl
theorem k153_50 : CD 153 50 = o_getR 10 13 53 := rfl
theorem k153_53 : CD 153 53 = o_ild 1 54 := rfl
theorem k153_54 : CD 153 54 = o_iald 55 := rfl
theorem k153_55 : CD 153 55 = o_push (vi 97) 57 := rfl
theorem k153_57 : CD 153 57 = o_push (vi 122) 59 := rfl
theorem k153_59 : CD 153 59 = o_sta 136 3 62 := rfl
theorem k153_62 : CD 153 62 = o_ifeq 104 65 := rfl
theorem k153_65 : CD 153 65 = o_ild 1 66 := rfl
theorem k153_66 : CD 153 66 = o_ild 2 67 := rfl
theorem k153_67 : CD 153 67 = o_isub 68 := rfl
theorem k153_68 : CD 153 68 = o_push (vi 9) 70 := rfl
theorem k153_70 : CD 153 70 = o_icge 94 73 := rfl
theorem k153_73 : CD 153 73 = o_push (vl 27) 76 := rfl
theorem k153_76 : CD 153 76 = o_lld 5 78 := rfl
theorem k153_78 : CD 153 78 = o_lmul 79 := rfl
theorem k153_79 : CD 153 79 = o_ald 0 80 := rfl
theorem k153_80 : CD 153 80 = o_getR 10 13 83 := rfl
theorem k153_83 : CD 153 83 = o_ild 1 84 := rfl
theorem k153_84 : CD 153 84 = o_iald 85 := rfl
theorem k153_85 : CD 153 85 = o_i2l 86 := rfl
theorem k153_86 : CD 153 86 = o_ladd 87 := rfl
theorem k153_87 : CD 153 87 = o_push (vl 96) 90 := rfl
theorem k153_90 : CD 153 90 = o_lsub 91 := rfl
theorem k153_91 : CD 153 91 = o_goto 96 := rfl
theorem k153_94 : CD 153 94 = o_lld 5 96 := rfl
theorem k153_96 : CD 153 96 = o_lst 5 98 := rfl
theorem k153_98 : CD 153 98 = o_iinc 1 1 101 := rfl
theorem k153_101 : CD 153 101 = o_goto 41 := rfl
theorem k153_104 : CD 153 104 = o_ild 1 105 := rfl
theorem k153_105 : CD 153 105 = o_ild 2 106 := rfl
theorem k153_106 : CD 153 106 = o_isub 107 := rfl
theorem k153_107 : CD 153 107 = o_push (vi 8) 109 := rfl
theorem k153_109 : CD 153 109 = o_icle 117 112 := rfl
theorem k153_112 : CD 153 112 = o_push (vi 99) 114 := rfl
theorem k153_114 : CD 153 114 = o_goto 122 := rfl
theorem k153_117 : CD 153 117 = o_lld 5 119 := rfl
theorem k153_119 : CD 153 119 = o_sta 152 1 122 := rfl
theorem k153_122 : CD 153 122 = o_ist 3 123 := rfl
theorem k153_123 : CD 153 123 = o_goto 272 := rfl
theorem k153_126 : CD 153 126 = o_ald 0 127 := rfl
theorem k153_127 : CD 153 127 = o_getR 10 13 130 := rfl
theorem k153_130 : CD 153 130 = o_ild 1 131 := rfl
theorem k153_131 : CD 153 131 = o_iald 132 := rfl
theorem k153_132 : CD 153 132 = o_push (vi 48) 134 := rfl
theorem k153_134 : CD 153 134 = o_push (vi 57) 136 := rfl
theorem k153_136 : CD 153 136 = o_sta 136 3 139 := rfl
theorem k153_139 : CD 153 139 = o_ifeq 219 142 := rfl
theorem k153_142 : CD 153 142 = o_ild 1 143 := rfl
theorem k153_143 : CD 153 143 = o_ald 0 144 := rfl
theorem k153_144 : CD 153 144 = o_getI 10 12 147 := rfl
theorem k153_147 : CD 153 147 = o_icge 201 150 := rfl
theorem k153_150 : CD 153 150 = o_ald 0 151 := rfl
theorem k153_151 : CD 153 151 = o_getR 10 13 154 := rfl
theorem k153_154 : CD 153 154 = o_ild 1 155 := rfl
theorem k153_155 : CD 153 155 = o_iald 156 := rfl
theorem k153_156 : CD 153 156 = o_push (vi 48) 158 := rfl
theorem k153_158 : CD 153 158 = o_push (vi 57) 160 := rfl
theorem k153_160 : CD 153 160 = o_sta 136 3 163 := rfl
theorem k153_163 : CD 153 163 = o_ifeq 201 166 := rfl
theorem k153_166 : CD 153 166 = o_ild 1 167 := rfl
theorem k153_167 : CD 153 167 = o_ild 2 168 := rfl
theorem k153_168 : CD 153 168 = o_isub 169 := rfl
theorem k153_169 : CD 153 169 = o_push (vi 2) 170 := rfl
theorem k153_170 : CD 153 170 = o_icge 191 173 := rfl
theorem k153_173 : CD 153 173 = o_push (vi 10) 175 := rfl
theorem k153_175 : CD 153 175 = o_ild 4 177 := rfl
theorem k153_177 : CD 153 177 = o_imul 178 := rfl
theorem k153_178 : CD 153 178 = o_ald 0 179 := rfl
theorem k153_179 : CD 153 179 = o_getR 10 13 182 := rfl
theorem k153_182 : CD 153 182 = o_ild 1 183 := rfl
theorem k153_183 : CD 153 183 = o_iald 184 := rfl
theorem k153_184 : CD 153 184 = o_iadd 185 := rfl
theorem k153_185 : CD 153 185 = o_push (vi 48) 187 := rfl
theorem k153_187 : CD 153 187 = o_isub 188 := rfl
theorem k153_188 : CD 153 188 = o_goto 193 := rfl
theorem k153_191 : CD 153 191 = o_ild 4 193 := rfl
theorem k153_193 : CD 153 193 = o_ist 4 195 := rfl
theorem k153_195 : CD 153 195 = o_iinc 1 1 198 := rfl
theorem k153_198 : CD 153 198 = o_goto 142 := rfl
theorem k153_201 : CD 153 201 = o_ild 1 202 := rfl
theorem k153_202 : CD 153 202 = o_ild 2 203 := rfl
theorem k153_203 : CD 153 203 = o_isub 204 := rfl
theorem k153_204 : CD 153 204 = o_push (vi 2) 205 := rfl
theorem k153_205 : CD 153 205 = o_icle 213 208 := rfl
theorem k153_208 : CD 153 208 = o_push (vi 99) 210 := rfl
theorem k153_210 : CD 153 210 = o_goto 215 := rfl
theorem k153_213 : CD 153 213 = o_push (vi 40) 215 := rfl
theorem k153_215 : CD 153 215 = o_ist 3 216 := rfl
theorem k153_216 : CD 153 216 = o_goto 272 := rfl
theorem k153_219 : CD 153 219 = o_ald 0 220 := rfl
theorem k153_220 : CD 153 220 = o_getR 10 13 223 := rfl
theorem k153_223 : CD 153 223 = o_ild 1 224 := rfl
theorem k153_224 : CD 153 224 = o_iald 225 := rfl
theorem k153_225 : CD 153 225 = o_push (vi 58) 227 := rfl
theorem k153_227 : CD 153 227 = o_icne 235 230 := rfl
theorem k153_230 : CD 153 230 = o_push (vi 30) 232 := rfl
theorem k153_232 : CD 153 232 = o_goto 268 := rfl
theorem k153_235 : CD 153 235 = o_ald 0 236 := rfl
theorem k153_236 : CD 153 236 = o_getR 10 13 239 := rfl
theorem k153_239 : CD 153 239 = o_ild 1 240 := rfl
theorem k153_240 : CD 153 240 = o_iald 241 := rfl
theorem k153_241 : CD 153 241 = o_push (vi 44) 243 := rfl
theorem k153_243 : CD 153 243 = o_icne 251 246 := rfl
theorem k153_246 : CD 153 246 = o_push (vi 31) 248 := rfl
theorem k153_248 : CD 153 248 = o_goto 268 := rfl
theorem k153_251 : CD 153 251 = o_ald 0 252 := rfl
theorem k153_252 : CD 153 252 = o_getR 10 13 255 := rfl
theorem k153_255 : CD 153 255 = o_ild 1 256 := rfl
theorem k153_256 : CD 153 256 = o_iald 257 := rfl
theorem k153_257 : CD 153 257 = o_push (vi 32) 259 := rfl
theorem k153_259 : CD 153 259 = o_icne 266 262 := rfl
theorem k153_262 : CD 153 262 = o_push (vi (-1)) 263 := rfl
theorem k153_263 : CD 153 263 = o_goto 268 := rfl
theorem k153_266 : CD 153 266 = o_push (vi 99) 268 := rfl
theorem k153_268 : CD 153 268 = o_ist 3 269 := rfl
theorem k153_269 : CD 153 269 = o_iinc 1 1 272 := rfl
theorem k153_272 : CD 153 272 = o_ild 3 273 := rfl
theorem k153_273 : CD 153 273 = o_push (vi (-1)) 274 := rfl
theorem k153_274 : CD 153 274 = o_iceq 318 277 := rfl
theorem k153_277 : CD 153 277 = o_ald 0 278 := rfl
theorem k153_278 : CD 153 278 = o_getR 10 15 281 := rfl
theorem k153_281 : CD 153 281 = o_ald 0 282 := rfl
theorem k153_282 : CD 153 282 = o_getI 10 14 285 := rfl
theorem k153_285 : CD 153 285 = o_ild 3 286 := rfl
theorem k153_286 : CD 153 286 = o_iast 287 := rfl
theorem k153_287 : CD 153 287 = o_ald 0 288 := rfl
theorem k153_288 : CD 153 288 = o_getR 10 16 291 := rfl
theorem k153_291 : CD 153 291 = o_ald 0 292 := rfl
theorem k153_292 : CD 153 292 = o_getI 10 14 295 := rfl
theorem k153_295 : CD 153 295 = o_ild 4 297 := rfl
theorem k153_297 : CD 153 297 = o_iast 298 := rfl
theorem k153_298 : CD 153 298 = o_ald 0 299 := rfl
theorem k153_299 : CD 153 299 = o_getR 10 17 302 := rfl
theorem k153_302 : CD 153 302 = o_ald 0 303 := rfl
theorem k153_303 : CD 153 303 = o_getI 10 14 306 := rfl
theorem k153_306 : CD 153 306 = o_ild 2 307 := rfl
theorem k153_307 : CD 153 307 = o_iast 308 := rfl
theorem k153_308 : CD 153 308 = o_ald 0 309 := rfl
theorem k153_309 : CD 153 309 = o_dupr 310 := rfl
theorem k153_310 : CD 153 310 = o_getI 10 14 313 := rfl
theorem k153_313 : CD 153 313 = o_push (vi 1) 314 := rfl
theorem k153_314 : CD 153 314 = o_iadd 315 := rfl
theorem k153_315 : CD 153 315 = o_putI 10 14 318 := rfl
theorem k153_318 : CD 153 318 = o_goto 7 := rfl
theorem k153_321 : CD 153 321 = o_ald 0 322 := rfl
theorem k153_322 : CD 153 322 = o_getR 10 15 325 := rfl
theorem k153_325 : CD 153 325 = o_ald 0 326 := rfl
theorem k153_326 : CD 153 326 = o_getI 10 14 329 := rfl
theorem k153_329 : CD 153 329 = o_push (vi 50) 331 := rfl
theorem k153_331 : CD 153 331 = o_iast 332 := rfl
theorem k153_332 : CD 153 332 = o_ald 0 333 := rfl
theorem k153_333 : CD 153 333 = o_getR 10 17 336 := rfl
theorem k153_336 : CD 153 336 = o_ald 0 337 := rfl
theorem k153_337 : CD 153 337 = o_getI 10 14 340 := rfl
theorem k153_340 : CD 153 340 = o_ald 0 341 := rfl
theorem k153_341 : CD 153 341 = o_getI 10 12 344 := rfl
theorem k153_344 : CD 153 344 = o_iast 345 := rfl
theorem k153_345 : CD 153 345 = o_vret := rfl
theorem k154_0 : CD 154 0 = o_ild 0 1 := rfl
theorem k154_1 : CD 154 1 = o_tsw 0 [100, 127, 102, 127, 104, 127, 106, 127, 108, 111, 127, 113, 127, 115, 127, 127, 118, 127, 121, 127, 124] 127 := rfl
theorem k154_100 : CD 154 100 = o_push (vi 0) 101 := rfl
theorem k154_101 : CD 154 101 = o_iret := rfl
theorem k154_102 : CD 154 102 = o_push (vi 1) 103 := rfl
theorem k154_103 : CD 154 103 = o_iret := rfl
theorem k154_104 : CD 154 104 = o_push (vi 2) 105 := rfl
theorem k154_105 : CD 154 105 = o_iret := rfl
theorem k154_106 : CD 154 106 = o_push (vi 3) 107 := rfl
theorem k154_107 : CD 154 107 = o_iret := rfl
theorem k154_108 : CD 154 108 = o_push (vi 30) 110 := rfl
theorem k154_110 : CD 154 110 = o_iret := rfl
theorem k154_111 : CD 154 111 = o_push (vi 4) 112 := rfl
theorem k154_112 : CD 154 112 = o_iret := rfl
theorem k154_113 : CD 154 113 = o_push (vi 5) 114 := rfl
theorem k154_114 : CD 154 114 = o_iret := rfl
theorem k154_115 : CD 154 115 = o_push (vi 6) 117 := rfl
theorem k154_117 : CD 154 117 = o_iret := rfl
theorem k154_118 : CD 154 118 = o_push (vi 7) 120 := rfl
theorem k154_120 : CD 154 120 = o_iret := rfl
theorem k154_121 : CD 154 121 = o_push (vi 8) 123 := rfl
theorem k154_123 : CD 154 123 = o_iret := rfl
theorem k154_124 : CD 154 124 = o_push (vi 31) 126 := rfl
theorem k154_126 : CD 154 126 = o_iret := rfl
theorem k154_127 : CD 154 127 = o_push (vi 40) 129 := rfl
theorem k154_129 : CD 154 129 = o_iret := rfl
theorem k155_0 : CD 155 0 = o_ild 1 1 := rfl
theorem k155_1 : CD 155 1 = o_tsw 1 [84, 142, 91, 142, 98, 142, 104, 142, 142, 112, 142, 119, 142, 126, 142, 142, 134] 142 := rfl
theorem k155_84 : CD 155 84 = o_ild 3 85 := rfl
theorem k155_85 : CD 155 85 = o_push (vi 0) 86 := rfl
theorem k155_86 : CD 155 86 = o_push (vi 3) 87 := rfl
theorem k155_87 : CD 155 87 = o_sta 136 3 90 := rfl
theorem k155_90 : CD 155 90 = o_zret := rfl
theorem k155_91 : CD 155 91 = o_ild 3 92 := rfl
theorem k155_92 : CD 155 92 = o_push (vi 0) 93 := rfl
theorem k155_93 : CD 155 93 = o_push (vi 2) 94 := rfl
theorem k155_94 : CD 155 94 = o_sta 136 3 97 := rfl
theorem k155_97 : CD 155 97 = o_zret := rfl
theorem k155_98 : CD 155 98 = o_ald 0 99 := rfl
theorem k155_99 : CD 155 99 = o_ild 3 100 := rfl
theorem k155_100 : CD 155 100 = o_inv 10 138 1 103 := rfl
theorem k155_103 : CD 155 103 = o_zret := rfl
theorem k155_104 : CD 155 104 = o_ild 3 105 := rfl
theorem k155_105 : CD 155 105 = o_push (vi 1) 106 := rfl
theorem k155_106 : CD 155 106 = o_push (vi 99) 108 := rfl
theorem k155_108 : CD 155 108 = o_sta 136 3 111 := rfl
theorem k155_111 : CD 155 111 = o_zret := rfl
theorem k155_112 : CD 155 112 = o_ild 3 113 := rfl
theorem k155_113 : CD 155 113 = o_push (vi 1) 114 := rfl
theorem k155_114 : CD 155 114 = o_push (vi 4) 115 := rfl
theorem k155_115 : CD 155 115 = o_sta 136 3 118 := rfl
theorem k155_118 : CD 155 118 = o_zret := rfl
theorem k155_119 : CD 155 119 = o_ild 3 120 := rfl
theorem k155_120 : CD 155 120 = o_push (vi 0) 121 := rfl
theorem k155_121 : CD 155 121 = o_push (vi 3) 122 := rfl
theorem k155_122 : CD 155 122 = o_sta 136 3 125 := rfl
theorem k155_125 : CD 155 125 = o_zret := rfl
theorem k155_126 : CD 155 126 = o_ild 3 127 := rfl
theorem k155_127 : CD 155 127 = o_push (vi 0) 128 := rfl
theorem k155_128 : CD 155 128 = o_push (vi 8) 130 := rfl
theorem k155_130 : CD 155 130 = o_sta 136 3 133 := rfl
theorem k155_133 : CD 155 133 = o_zret := rfl
theorem k155_134 : CD 155 134 = o_ild 3 135 := rfl
theorem k155_135 : CD 155 135 = o_push (vi 0) 136 := rfl
theorem k155_136 : CD 155 136 = o_push (vi 6) 138 := rfl
theorem k155_138 : CD 155 138 = o_sta 136 3 141 := rfl
theorem k155_141 : CD 155 141 = o_zret := rfl
theorem k155_142 : CD 155 142 = o_ild 3 143 := rfl
theorem k155_143 : CD 155 143 = o_ald 0 144 := rfl
theorem k155_144 : CD 155 144 = o_getR 10 20 147 := rfl
theorem k155_147 : CD 155 147 = o_push (vi 5) 148 := rfl
theorem k155_148 : CD 155 148 = o_push (vi 6) 150 := rfl
theorem k155_150 : CD 155 150 = o_ild 2 151 := rfl
theorem k155_151 : CD 155 151 = o_imul 152 := rfl
theorem k155_152 : CD 155 152 = o_iadd 153 := rfl
theorem k155_153 : CD 155 153 = o_push (vi 4) 154 := rfl
theorem k155_154 : CD 155 154 = o_iadd 155 := rfl
theorem k155_155 : CD 155 155 = o_iald 156 := rfl
theorem k155_156 : CD 155 156 = o_ald 0 157 := rfl
theorem k155_157 : CD 155 157 = o_getR 10 20 160 := rfl
theorem k155_160 : CD 155 160 = o_push (vi 5) 161 := rfl
theorem k155_161 : CD 155 161 = o_push (vi 6) 163 := rfl
theorem k155_163 : CD 155 163 = o_ild 2 164 := rfl
theorem k155_164 : CD 155 164 = o_imul 165 := rfl
theorem k155_165 : CD 155 165 = o_iadd 166 := rfl
theorem k155_166 : CD 155 166 = o_push (vi 4) 167 := rfl
theorem k155_167 : CD 155 167 = o_iadd 168 := rfl
theorem k155_168 : CD 155 168 = o_iald 169 := rfl
theorem k155_169 : CD 155 169 = o_push (vi 3) 170 := rfl
theorem k155_170 : CD 155 170 = o_iadd 171 := rfl
theorem k155_171 : CD 155 171 = o_sta 136 3 174 := rfl
theorem k155_174 : CD 155 174 = o_zret := rfl
