/-! the constructors, run -/
def SHl : List (Nat × Nat) := [(9, 0), (4, 0), (25, 8), (26, 6), (20, 12), (20, 12), (20, 12), (20, 12), (20, 12), (20, 12), (20, 4), (7, 0), (7, 0), (7, 0), (7, 0), (7, 0), (7, 0), (7, 0), (7, 0), (2, 0), (20, 160), (5, 0), (24, 3), (6, 0), (6, 0), (6, 0), (1, 0), (23, 5), (5, 0), (24, 3), (6, 0), (6, 0), (6, 0), (5, 0), (24, 3), (6, 0), (6, 0), (6, 0), (5, 0), (24, 3), (6, 0), (6, 0), (6, 0), (5, 0), (24, 3), (6, 0), (6, 0), (6, 0), (5, 0), (24, 3), (6, 0), (6, 0), (6, 0), (0, 0), (26, 5), (20, 112), (20, 112), (20, 112), (20, 112), (20, 112), (20, 5), (20, 3), (20, 5), (20, 5), (21, 32), (26, 32), (20, 5), (20, 5), (20, 5), (20, 5), (20, 5), (20, 5), (20, 5), (20, 5), (20, 5), (20, 5), (20, 5), (20, 5), (20, 5), (20, 5), (20, 5), (20, 5), (20, 5), (20, 5), (20, 5), (20, 5), (20, 5), (20, 5), (20, 5), (20, 5), (20, 5), (20, 5), (20, 5), (20, 5), (20, 5), (20, 5), (20, 5), (20, 5), (20, 32), (20, 32), (22, 32), (22, 1024), (8, 0), (20, 12), (20, 5), (20, 5), (21, 5), (3, 0), (20, 8), (20, 4), (6, 0), (10, 0), (20, 8), (20, 8), (20, 8), (20, 72), (20, 4), (20, 160), (20, 161), (20, 161), (20, 161), (20, 23), (20, 138), (20, 5), (20, 1000), (20, 1000), (21, 1000), (20, 6), (20, 5), (20, 5), (20, 5), (21, 5), (20, 12), (20, 4), (20, 8)]
def SHf (a : Nat) : Nat × Nat := if a < 16 then (99, 0) else SHl.getD (a - 16) (99, 0)
def Sx (n su : Nat) : mS := (n, su, fun a => if a < n then SHf a else (99, 0))
def Ix : List (Nat × Int × Int) → Nat → Int → Int
  | [] => fun _ _ => 0
  | q :: l => upI (Ix l) q.1 q.2.1 q.2.2
def Rx : List (Nat × Int × Nat) → Nat → Int → Nat
  | [] => fun _ _ => 0
  | q :: l => upR (Rx l) q.1 q.2.1 q.2.2
def lI0 : List (Nat × Int × Int) := []
def lI1 : List (Nat × Int × Int) := (17, 0, 10) :: lI0
def lI2 : List (Nat × Int × Int) := (17, 4, (-1)) :: lI1
def lI3 : List (Nat × Int × Int) := (20, 0, 1) :: lI2
def lI4 : List (Nat × Int × Int) := (21, 0, 1) :: lI3
def lI5 : List (Nat × Int × Int) := (20, 1, 1) :: lI4
def lI6 : List (Nat × Int × Int) := (21, 1, 1) :: lI5
def lI7 : List (Nat × Int × Int) := (20, 2, 1) :: lI6
def lI8 : List (Nat × Int × Int) := (21, 2, 1) :: lI7
def lI9 : List (Nat × Int × Int) := (20, 3, 1) :: lI8
def lI10 : List (Nat × Int × Int) := (21, 3, 1) :: lI9
def lI11 : List (Nat × Int × Int) := (20, 4, 1) :: lI10
def lI12 : List (Nat × Int × Int) := (21, 4, 1) :: lI11
def lI13 : List (Nat × Int × Int) := (20, 5, 1) :: lI12
def lI14 : List (Nat × Int × Int) := (21, 5, 1) :: lI13
def lI15 : List (Nat × Int × Int) := (20, 6, 1) :: lI14
def lI16 : List (Nat × Int × Int) := (21, 6, 1) :: lI15
def lI17 : List (Nat × Int × Int) := (20, 7, 1) :: lI16
def lI18 : List (Nat × Int × Int) := (21, 7, 1) :: lI17
def lI19 : List (Nat × Int × Int) := (20, 8, 1) :: lI18
def lI20 : List (Nat × Int × Int) := (21, 8, 1) :: lI19
def lI21 : List (Nat × Int × Int) := (20, 9, 1) :: lI20
def lI22 : List (Nat × Int × Int) := (21, 9, 1) :: lI21
def lI23 : List (Nat × Int × Int) := (20, 10, 1) :: lI22
def lI24 : List (Nat × Int × Int) := (21, 10, 1) :: lI23
def lI25 : List (Nat × Int × Int) := (20, 11, 1) :: lI24
def lI26 : List (Nat × Int × Int) := (21, 11, 1) :: lI25
def lI27 : List (Nat × Int × Int) := (125, 0, 1) :: lI26
def lI28 : List (Nat × Int × Int) := (125, 1, 1) :: lI27
def lI29 : List (Nat × Int × Int) := (125, 2, 1) :: lI28
def lI30 : List (Nat × Int × Int) := (125, 3, 1) :: lI29
def lI31 : List (Nat × Int × Int) := (127, 0, 10) :: lI30
def lI32 : List (Nat × Int × Int) := (127, 6, (-1)) :: lI31
def lI33 : List (Nat × Int × Int) := (131, 0, 1) :: lI32
def lI34 : List (Nat × Int × Int) := (131, 1, 1) :: lI33
def lI35 : List (Nat × Int × Int) := (131, 2, 1) :: lI34
def lI36 : List (Nat × Int × Int) := (131, 3, 1) :: lI35
def lI37 : List (Nat × Int × Int) := (131, 4, 1) :: lI36
def lI38 : List (Nat × Int × Int) := (131, 5, 1) :: lI37
def lI39 : List (Nat × Int × Int) := (131, 6, 1) :: lI38
def lI40 : List (Nat × Int × Int) := (131, 7, 1) :: lI39
def lI41 : List (Nat × Int × Int) := (131, 8, 1) :: lI40
def lI42 : List (Nat × Int × Int) := (131, 9, 1) :: lI41
def lI43 : List (Nat × Int × Int) := (131, 10, 1) :: lI42
def lI44 : List (Nat × Int × Int) := (131, 11, 1) :: lI43
def lI45 : List (Nat × Int × Int) := (131, 12, 1) :: lI44
def lI46 : List (Nat × Int × Int) := (131, 13, 1) :: lI45
def lI47 : List (Nat × Int × Int) := (131, 14, 1) :: lI46
def lI48 : List (Nat × Int × Int) := (131, 15, 1) :: lI47
def lI49 : List (Nat × Int × Int) := (131, 16, 1) :: lI48
def lI50 : List (Nat × Int × Int) := (131, 17, 1) :: lI49
def lI51 : List (Nat × Int × Int) := (131, 18, 1) :: lI50
def lI52 : List (Nat × Int × Int) := (131, 19, 1) :: lI51
def lI53 : List (Nat × Int × Int) := (131, 20, 1) :: lI52
def lI54 : List (Nat × Int × Int) := (131, 21, 1) :: lI53
def lI55 : List (Nat × Int × Int) := (131, 22, 1) :: lI54
def lI56 : List (Nat × Int × Int) := (131, 23, 1) :: lI55
def lI57 : List (Nat × Int × Int) := (131, 24, 1) :: lI56
def lI58 : List (Nat × Int × Int) := (131, 25, 1) :: lI57
def lI59 : List (Nat × Int × Int) := (131, 26, 1) :: lI58
def lI60 : List (Nat × Int × Int) := (131, 27, 1) :: lI59
def lI61 : List (Nat × Int × Int) := (131, 28, 1) :: lI60
def lI62 : List (Nat × Int × Int) := (131, 29, 1) :: lI61
def lI63 : List (Nat × Int × Int) := (131, 30, 1) :: lI62
def lI64 : List (Nat × Int × Int) := (131, 31, 1) :: lI63
def lI65 : List (Nat × Int × Int) := (131, 32, 1) :: lI64
def lI66 : List (Nat × Int × Int) := (131, 33, 1) :: lI65
def lI67 : List (Nat × Int × Int) := (131, 34, 1) :: lI66
def lI68 : List (Nat × Int × Int) := (131, 35, 1) :: lI67
def lI69 : List (Nat × Int × Int) := (131, 36, 1) :: lI68
def lI70 : List (Nat × Int × Int) := (131, 37, 1) :: lI69
def lI71 : List (Nat × Int × Int) := (131, 38, 1) :: lI70
def lI72 : List (Nat × Int × Int) := (131, 39, 1) :: lI71
def lI73 : List (Nat × Int × Int) := (131, 40, 1) :: lI72
def lI74 : List (Nat × Int × Int) := (131, 41, 1) :: lI73
def lI75 : List (Nat × Int × Int) := (131, 42, 1) :: lI74
def lI76 : List (Nat × Int × Int) := (131, 43, 1) :: lI75
def lI77 : List (Nat × Int × Int) := (131, 44, 1) :: lI76
def lI78 : List (Nat × Int × Int) := (131, 45, 1) :: lI77
def lI79 : List (Nat × Int × Int) := (131, 46, 1) :: lI78
def lI80 : List (Nat × Int × Int) := (131, 47, 1) :: lI79
def lI81 : List (Nat × Int × Int) := (131, 48, 1) :: lI80
def lI82 : List (Nat × Int × Int) := (131, 49, 1) :: lI81
def lI83 : List (Nat × Int × Int) := (131, 50, 1) :: lI82
def lI84 : List (Nat × Int × Int) := (131, 51, 1) :: lI83
def lI85 : List (Nat × Int × Int) := (131, 52, 1) :: lI84
def lI86 : List (Nat × Int × Int) := (131, 53, 1) :: lI85
def lI87 : List (Nat × Int × Int) := (131, 54, 1) :: lI86
def lI88 : List (Nat × Int × Int) := (131, 55, 1) :: lI87
def lI89 : List (Nat × Int × Int) := (131, 56, 1) :: lI88
def lI90 : List (Nat × Int × Int) := (131, 57, 1) :: lI89
def lI91 : List (Nat × Int × Int) := (131, 58, 1) :: lI90
def lI92 : List (Nat × Int × Int) := (131, 59, 1) :: lI91
def lI93 : List (Nat × Int × Int) := (131, 60, 1) :: lI92
def lI94 : List (Nat × Int × Int) := (131, 61, 1) :: lI93
def lI95 : List (Nat × Int × Int) := (131, 62, 1) :: lI94
def lI96 : List (Nat × Int × Int) := (131, 63, 1) :: lI95
def lI97 : List (Nat × Int × Int) := (131, 64, 1) :: lI96
def lI98 : List (Nat × Int × Int) := (131, 65, 1) :: lI97
def lI99 : List (Nat × Int × Int) := (131, 66, 1) :: lI98
def lI100 : List (Nat × Int × Int) := (131, 67, 1) :: lI99
def lI101 : List (Nat × Int × Int) := (131, 68, 1) :: lI100
def lI102 : List (Nat × Int × Int) := (131, 69, 1) :: lI101
def lI103 : List (Nat × Int × Int) := (131, 70, 1) :: lI102
def lI104 : List (Nat × Int × Int) := (131, 71, 1) :: lI103
def lI105 : List (Nat × Int × Int) := (149, 0, 1) :: lI104
def lI106 : List (Nat × Int × Int) := (149, 1, 1) :: lI105
def lI107 : List (Nat × Int × Int) := (149, 2, 1) :: lI106
def lI108 : List (Nat × Int × Int) := (149, 3, 1) :: lI107
def lR0 : List (Nat × Int × Nat) := []
def lR1 : List (Nat × Int × Nat) := (17, 2, 18) :: lR0
def lR2 : List (Nat × Int × Nat) := (19, 5, 25) :: lR1
def lR3 : List (Nat × Int × Nat) := (19, 4, 24) :: lR2
def lR4 : List (Nat × Int × Nat) := (19, 3, 23) :: lR3
def lR5 : List (Nat × Int × Nat) := (19, 2, 22) :: lR4
def lR6 : List (Nat × Int × Nat) := (19, 1, 21) :: lR5
def lR7 : List (Nat × Int × Nat) := (19, 0, 20) :: lR6
def lR8 : List (Nat × Int × Nat) := (17, 7, 19) :: lR7
def lR9 : List (Nat × Int × Nat) := (17, 8, 26) :: lR8
def lR10 : List (Nat × Int × Nat) := (18, 0, 27) :: lR9
def lR11 : List (Nat × Int × Nat) := (18, 1, 28) :: lR10
def lR12 : List (Nat × Int × Nat) := (18, 2, 29) :: lR11
def lR13 : List (Nat × Int × Nat) := (18, 3, 30) :: lR12
def lR14 : List (Nat × Int × Nat) := (18, 4, 31) :: lR13
def lR15 : List (Nat × Int × Nat) := (18, 5, 32) :: lR14
def lR16 : List (Nat × Int × Nat) := (18, 6, 33) :: lR15
def lR17 : List (Nat × Int × Nat) := (18, 7, 34) :: lR16
def lR18 : List (Nat × Int × Nat) := (16, 0, 17) :: lR17
def lR19 : List (Nat × Int × Nat) := (35, 0, 36) :: lR18
def lR20 : List (Nat × Int × Nat) := (37, 5, 38) :: lR19
def lR21 : List (Nat × Int × Nat) := (38, 0, 39) :: lR20
def lR22 : List (Nat × Int × Nat) := (38, 1, 40) :: lR21
def lR23 : List (Nat × Int × Nat) := (38, 2, 41) :: lR22
def lR24 : List (Nat × Int × Nat) := (35, 2, 37) :: lR23
def lR25 : List (Nat × Int × Nat) := (16, 1, 35) :: lR24
def lR26 : List (Nat × Int × Nat) := (42, 0, 43) :: lR25
def lR27 : List (Nat × Int × Nat) := (44, 5, 45) :: lR26
def lR28 : List (Nat × Int × Nat) := (45, 0, 46) :: lR27
def lR29 : List (Nat × Int × Nat) := (45, 1, 47) :: lR28
def lR30 : List (Nat × Int × Nat) := (45, 2, 48) :: lR29
def lR31 : List (Nat × Int × Nat) := (43, 0, 44) :: lR30
def lR32 : List (Nat × Int × Nat) := (49, 5, 50) :: lR31
def lR33 : List (Nat × Int × Nat) := (50, 0, 51) :: lR32
def lR34 : List (Nat × Int × Nat) := (50, 1, 52) :: lR33
def lR35 : List (Nat × Int × Nat) := (50, 2, 53) :: lR34
def lR36 : List (Nat × Int × Nat) := (43, 1, 49) :: lR35
def lR37 : List (Nat × Int × Nat) := (54, 5, 55) :: lR36
def lR38 : List (Nat × Int × Nat) := (55, 0, 56) :: lR37
def lR39 : List (Nat × Int × Nat) := (55, 1, 57) :: lR38
def lR40 : List (Nat × Int × Nat) := (55, 2, 58) :: lR39
def lR41 : List (Nat × Int × Nat) := (43, 2, 54) :: lR40
def lR42 : List (Nat × Int × Nat) := (59, 5, 60) :: lR41
def lR43 : List (Nat × Int × Nat) := (60, 0, 61) :: lR42
def lR44 : List (Nat × Int × Nat) := (60, 1, 62) :: lR43
def lR45 : List (Nat × Int × Nat) := (60, 2, 63) :: lR44
def lR46 : List (Nat × Int × Nat) := (43, 3, 59) :: lR45
def lR47 : List (Nat × Int × Nat) := (64, 5, 65) :: lR46
def lR48 : List (Nat × Int × Nat) := (65, 0, 66) :: lR47
def lR49 : List (Nat × Int × Nat) := (65, 1, 67) :: lR48
def lR50 : List (Nat × Int × Nat) := (65, 2, 68) :: lR49
def lR51 : List (Nat × Int × Nat) := (43, 4, 64) :: lR50
def lR52 : List (Nat × Int × Nat) := (16, 2, 42) :: lR51
def lR53 : List (Nat × Int × Nat) := (70, 4, 75) :: lR52
def lR54 : List (Nat × Int × Nat) := (70, 3, 74) :: lR53
def lR55 : List (Nat × Int × Nat) := (70, 2, 73) :: lR54
def lR56 : List (Nat × Int × Nat) := (70, 1, 72) :: lR55
def lR57 : List (Nat × Int × Nat) := (70, 0, 71) :: lR56
def lR58 : List (Nat × Int × Nat) := (69, 0, 70) :: lR57
def lR59 : List (Nat × Int × Nat) := (69, 1, 76) :: lR58
def lR60 : List (Nat × Int × Nat) := (69, 6, 77) :: lR59
def lR61 : List (Nat × Int × Nat) := (69, 7, 78) :: lR60
def lR62 : List (Nat × Int × Nat) := (69, 8, 79) :: lR61
def lR63 : List (Nat × Int × Nat) := (69, 9, 80) :: lR62
def lR64 : List (Nat × Int × Nat) := (81, 31, 113) :: lR63
def lR65 : List (Nat × Int × Nat) := (81, 30, 112) :: lR64
def lR66 : List (Nat × Int × Nat) := (81, 29, 111) :: lR65
def lR67 : List (Nat × Int × Nat) := (81, 28, 110) :: lR66
def lR68 : List (Nat × Int × Nat) := (81, 27, 109) :: lR67
def lR69 : List (Nat × Int × Nat) := (81, 26, 108) :: lR68
def lR70 : List (Nat × Int × Nat) := (81, 25, 107) :: lR69
def lR71 : List (Nat × Int × Nat) := (81, 24, 106) :: lR70
def lR72 : List (Nat × Int × Nat) := (81, 23, 105) :: lR71
def lR73 : List (Nat × Int × Nat) := (81, 22, 104) :: lR72
def lR74 : List (Nat × Int × Nat) := (81, 21, 103) :: lR73
def lR75 : List (Nat × Int × Nat) := (81, 20, 102) :: lR74
def lR76 : List (Nat × Int × Nat) := (81, 19, 101) :: lR75
def lR77 : List (Nat × Int × Nat) := (81, 18, 100) :: lR76
def lR78 : List (Nat × Int × Nat) := (81, 17, 99) :: lR77
def lR79 : List (Nat × Int × Nat) := (81, 16, 98) :: lR78
def lR80 : List (Nat × Int × Nat) := (81, 15, 97) :: lR79
def lR81 : List (Nat × Int × Nat) := (81, 14, 96) :: lR80
def lR82 : List (Nat × Int × Nat) := (81, 13, 95) :: lR81
def lR83 : List (Nat × Int × Nat) := (81, 12, 94) :: lR82
def lR84 : List (Nat × Int × Nat) := (81, 11, 93) :: lR83
def lR85 : List (Nat × Int × Nat) := (81, 10, 92) :: lR84
def lR86 : List (Nat × Int × Nat) := (81, 9, 91) :: lR85
def lR87 : List (Nat × Int × Nat) := (81, 8, 90) :: lR86
def lR88 : List (Nat × Int × Nat) := (81, 7, 89) :: lR87
def lR89 : List (Nat × Int × Nat) := (81, 6, 88) :: lR88
def lR90 : List (Nat × Int × Nat) := (81, 5, 87) :: lR89
def lR91 : List (Nat × Int × Nat) := (81, 4, 86) :: lR90
def lR92 : List (Nat × Int × Nat) := (81, 3, 85) :: lR91
def lR93 : List (Nat × Int × Nat) := (81, 2, 84) :: lR92
def lR94 : List (Nat × Int × Nat) := (81, 1, 83) :: lR93
def lR95 : List (Nat × Int × Nat) := (81, 0, 82) :: lR94
def lR96 : List (Nat × Int × Nat) := (69, 10, 81) :: lR95
def lR97 : List (Nat × Int × Nat) := (69, 11, 114) :: lR96
def lR98 : List (Nat × Int × Nat) := (69, 12, 115) :: lR97
def lR99 : List (Nat × Int × Nat) := (69, 13, 116) :: lR98
def lR100 : List (Nat × Int × Nat) := (69, 14, 117) :: lR99
def lR101 : List (Nat × Int × Nat) := (69, 4, 17) :: lR100
def lR102 : List (Nat × Int × Nat) := (69, 5, 42) :: lR101
def lR103 : List (Nat × Int × Nat) := (16, 3, 69) :: lR102
def lR104 : List (Nat × Int × Nat) := (118, 1, 119) :: lR103
def lR105 : List (Nat × Int × Nat) := (118, 2, 120) :: lR104
def lR106 : List (Nat × Int × Nat) := (118, 5, 121) :: lR105
def lR107 : List (Nat × Int × Nat) := (118, 6, 122) :: lR106
def lR108 : List (Nat × Int × Nat) := (118, 3, 17) :: lR107
def lR109 : List (Nat × Int × Nat) := (118, 4, 42) :: lR108
def lR110 : List (Nat × Int × Nat) := (16, 4, 118) :: lR109
def lR111 : List (Nat × Int × Nat) := (123, 0, 124) :: lR110
def lR112 : List (Nat × Int × Nat) := (123, 1, 125) :: lR111
def lR113 : List (Nat × Int × Nat) := (16, 5, 123) :: lR112
def lR114 : List (Nat × Int × Nat) := (16, 6, 126) :: lR113
def lR115 : List (Nat × Int × Nat) := (127, 3, 128) :: lR114
def lR116 : List (Nat × Int × Nat) := (127, 4, 129) :: lR115
def lR117 : List (Nat × Int × Nat) := (127, 5, 130) :: lR116
def lR118 : List (Nat × Int × Nat) := (127, 9, 131) :: lR117
def lR119 : List (Nat × Int × Nat) := (127, 11, 132) :: lR118
def lR120 : List (Nat × Int × Nat) := (127, 13, 133) :: lR119
def lR121 : List (Nat × Int × Nat) := (127, 15, 134) :: lR120
def lR122 : List (Nat × Int × Nat) := (127, 16, 135) :: lR121
def lR123 : List (Nat × Int × Nat) := (127, 17, 136) :: lR122
def lR124 : List (Nat × Int × Nat) := (127, 20, 137) :: lR123
def lR125 : List (Nat × Int × Nat) := (127, 22, 138) :: lR124
def lR126 : List (Nat × Int × Nat) := (127, 23, 139) :: lR125
def lR127 : List (Nat × Int × Nat) := (127, 24, 140) :: lR126
def lR128 : List (Nat × Int × Nat) := (127, 25, 141) :: lR127
def lR129 : List (Nat × Int × Nat) := (127, 26, 142) :: lR128
def lR130 : List (Nat × Int × Nat) := (127, 29, 143) :: lR129
def lR131 : List (Nat × Int × Nat) := (127, 30, 144) :: lR130
def lR132 : List (Nat × Int × Nat) := (127, 32, 145) :: lR131
def lR133 : List (Nat × Int × Nat) := (127, 33, 146) :: lR132
def lR134 : List (Nat × Int × Nat) := (127, 34, 147) :: lR133
def lR135 : List (Nat × Int × Nat) := (127, 35, 148) :: lR134
def lR136 : List (Nat × Int × Nat) := (127, 37, 149) :: lR135
def lR137 : List (Nat × Int × Nat) := (127, 38, 150) :: lR136
theorem Ix_no {n : Nat} : ∀ {l : List (Nat × Int × Int)}, l.all (fun q => q.1 != n) = true → zeI (Ix l) n = Ix l := by
  intro l h
  funext a k
  unfold zeI
  by_cases c1 : a = n
  · rw [if_pos c1]
    subst c1
    induction l with
    | nil => rfl
    | cons q l ih =>
      simp only [List.all_cons, Bool.and_eq_true, bne_iff_ne, ne_eq] at h
      show 0 = (if a = q.1 ∧ k = q.2.1 then q.2.2 else Ix l a k)
      rw [if_neg (fun z => h.1 z.1.symm)]
      exact ih h.2
  · rw [if_neg c1]
theorem Rx_no {n : Nat} : ∀ {l : List (Nat × Int × Nat)}, l.all (fun q => q.1 != n) = true → zeR (Rx l) n = Rx l := by
  intro l h
  funext a k
  unfold zeR
  by_cases c1 : a = n
  · rw [if_pos c1]
    subst c1
    induction l with
    | nil => rfl
    | cons q l ih =>
      simp only [List.all_cons, Bool.and_eq_true, bne_iff_ne, ne_eq] at h
      show 0 = (if a = q.1 ∧ k = q.2.1 then q.2.2 else Rx l a k)
      rw [if_neg (fun z => h.1 z.1.symm)]
      exact ih h.2
  · rw [if_neg c1]
theorem Sx_al {n su t len s : Nat} (h : SHf n = (t, len)) : mkS (Sx n su) t len s = Sx (n + 1) (su + s) := by
  unfold mkS Sx
  simp only [Prod.mk.injEq, true_and]
  funext a
  unfold shN
  by_cases c1 : a = n
  · subst c1
    simp [h]
  · by_cases c2 : a < n
    · simp [c1, c2, Nat.lt_succ_of_lt c2]
    · have c3 : ¬ a < n + 1 := by omega
      simp [c1, c2, c3]
section XS
variable {C : mC} {cd : Nat → mT} {lim : Nat × Nat} {Q : mQ} {pc : Nat} {ls r : List mV} {li : List (Nat × Int × Int)} {lr : List (Nat × Int × Nat)} {n su n' su' c nn : Nat}
theorem x_new (hc : cd pc = o_new c nn) (h1 : SHf n = (c, 0)) (hi : li.all (fun q => q.1 != n) = true) (hr : lr.all (fun q => q.1 != n) = true) (l1 : n + 1 ≤ lim.1) (l2 : su + mN c ≤ lim.2) (e1 : n + 1 = n') (e2 : su + mN c = su') (k9 : wp C cd lim Q nn ls (vr n :: r) (Sx n' su', Ix li, Rx lr)) : wp C cd lim Q pc ls r (Sx n su, Ix li, Rx lr) := by
  refine z_new hc l1 l2 ?_
  show wp C cd lim Q nn ls (vr n :: r) (mkS (Sx n su) c 0 (mN c), zeI (Ix li) n, zeR (Rx lr) n)
  rw [Sx_al h1, Ix_no hi, Rx_no hr, e1, e2]
  exact k9
theorem x_newa {z : Int} (hc : cd pc = o_newa c nn) (z0 : 0 ≤ z) (z1 : z < 1000000) (h1 : SHf n = (c, z.toNat)) (hi : li.all (fun q => q.1 != n) = true) (hr : lr.all (fun q => q.1 != n) = true) (l1 : n + 1 ≤ lim.1) (l2 : su + z.toNat ≤ lim.2) (e1 : n + 1 = n') (e2 : su + z.toNat = su') (k9 : wp C cd lim Q nn ls (vr n :: r) (Sx n' su', Ix li, Rx lr)) : wp C cd lim Q pc ls (vi z :: r) (Sx n su, Ix li, Rx lr) := by
  refine z_newa hc z0 z1 l1 l2 ?_
  show wp C cd lim Q nn ls (vr n :: r) (mkS (Sx n su) c z.toNat z.toNat, zeI (Ix li) n, zeR (Rx lr) n)
  rw [Sx_al h1, Ix_no hi, Rx_no hr, e1, e2]
  exact k9
theorem x_anew {z : Int} (hc : cd pc = o_anew c nn) (z0 : 0 ≤ z) (z1 : z < 1000000) (h1 : SHf n = (c, z.toNat)) (hi : li.all (fun q => q.1 != n) = true) (hr : lr.all (fun q => q.1 != n) = true) (l1 : n + 1 ≤ lim.1) (l2 : su + z.toNat ≤ lim.2) (e1 : n + 1 = n') (e2 : su + z.toNat = su') (k9 : wp C cd lim Q nn ls (vr n :: r) (Sx n' su', Ix li, Rx lr)) : wp C cd lim Q pc ls (vi z :: r) (Sx n su, Ix li, Rx lr) := by
  refine z_anew hc z0 z1 l1 l2 ?_
  show wp C cd lim Q nn ls (vr n :: r) (mkS (Sx n su) c z.toNat z.toNat, zeI (Ix li) n, zeR (Rx lr) n)
  rw [Sx_al h1, Ix_no hi, Rx_no hr, e1, e2]
  exact k9
def rowsR (n : Nat) : Nat → List (Nat × Int × Nat) → List (Nat × Int × Nat)
  | 0, l => l
  | j + 1, l => rowsR n j ((n, (j : Int), n + 1 + j) :: l)
theorem rowsR_at {a : Nat} {j : Int} : ∀ (z : Nat) (l : List (Nat × Int × Nat)), Rx (rowsR n z l) a j = if a = n ∧ 0 ≤ j ∧ j < z then n + 1 + j.toNat else Rx l a j
  | 0, l => by
    rw [if_neg (by omega)]
    rfl
  | z + 1, l => by
    show Rx (rowsR n z ((n, (z : Int), n + 1 + z) :: l)) a j = _
    rw [rowsR_at z]
    by_cases c1 : a = n ∧ 0 ≤ j ∧ j < z
    · rw [if_pos c1, if_pos (by omega)]
    · rw [if_neg c1]
      show (if a = n ∧ j = (z : Int) then n + 1 + z else Rx l a j) = _
      by_cases c2 : a = n ∧ j = (z : Int)
      · rw [if_pos c2, if_pos (by omega)]
        omega
      · rw [if_neg c2, if_neg (by omega)]
theorem Ix_ge {a : Nat} {k : Int} : ∀ {l : List (Nat × Int × Int)}, l.all (fun q => decide (q.1 < n)) = true → n ≤ a → Ix l a k = 0 := by
  intro l h ha
  induction l with
  | nil => rfl
  | cons q l ih =>
    simp only [List.all_cons, Bool.and_eq_true, decide_eq_true_eq] at h
    show (if a = q.1 ∧ k = q.2.1 then q.2.2 else Ix l a k) = 0
    rw [if_neg (fun z => by omega)]
    exact ih h.2
theorem Rx_ge {a : Nat} {k : Int} : ∀ {l : List (Nat × Int × Nat)}, l.all (fun q => decide (q.1 < n)) = true → n ≤ a → Rx l a k = 0 := by
  intro l h ha
  induction l with
  | nil => rfl
  | cons q l ih =>
    simp only [List.all_cons, Bool.and_eq_true, decide_eq_true_eq] at h
    show (if a = q.1 ∧ k = q.2.1 then q.2.2 else Rx l a k) = 0
    rw [if_neg (fun z => by omega)]
    exact ih h.2
theorem mkM_eq {z k : Nat} (h1 : SHf n = (26, z)) (h2 : ∀ j, j < z → SHf (n + 1 + j) = (20, k)) (hi : li.all (fun q => decide (q.1 < n)) = true) (hr : lr.all (fun q => decide (q.1 < n)) = true) : mkM (Sx n su, Ix li, Rx lr) z k = (Sx (n + 1 + z) (su + (z + z * k)), Ix li, Rx (rowsR n z lr)) := by
  unfold mkM
  refine Prod.ext ?_ (Prod.ext ?_ ?_)
  · show (_, _, _) = Sx _ _
    unfold Sx
    refine Prod.ext rfl (Prod.ext rfl ?_)
    funext a
    show (if a = n then (26, z) else if n < a ∧ a < n + 1 + z then (20, k) else if a < n then SHf a else (99, 0)) = if a < n + 1 + z then SHf a else (99, 0)
    by_cases c1 : a = n
    · rw [if_pos c1, if_pos (by omega), c1, h1]
    · rw [if_neg c1]
      by_cases c2 : n < a ∧ a < n + 1 + z
      · rw [if_pos c2, if_pos c2.2]
        have := h2 (a - n - 1) (by omega)
        rw [show n + 1 + (a - n - 1) = a by omega] at this
        exact this.symm
      · rw [if_neg c2]
        by_cases c3 : a < n
        · rw [if_pos c3, if_pos (by omega)]
        · rw [if_neg c3, if_neg (by omega)]
  · funext a j
    show (if n ≤ a ∧ a < n + 1 + z then 0 else Ix li a j) = Ix li a j
    by_cases c1 : n ≤ a ∧ a < n + 1 + z
    · rw [if_pos c1, Ix_ge hi c1.1]
    · rw [if_neg c1]
  · funext a j
    show (if a = n then (if 0 ≤ j ∧ j < (z : Int) then n + 1 + j.toNat else 0) else if n < a ∧ a < n + 1 + z then 0 else Rx lr a j) = Rx (rowsR n z lr) a j
    rw [rowsR_at]
    by_cases c1 : a = n
    · rw [if_pos c1]
      by_cases c2 : 0 ≤ j ∧ j < (z : Int)
      · rw [if_pos c2, if_pos ⟨c1, c2⟩]
      · rw [if_neg c2, if_neg (fun q => c2 q.2), Rx_ge hr (by omega)]
    · rw [if_neg c1]
      by_cases c2 : n < a ∧ a < n + 1 + z
      · rw [if_pos c2, if_neg (fun q => c1 q.1), Rx_ge hr (by omega)]
      · rw [if_neg c2, if_neg (fun q => c1 q.1)]
theorem x_mna {k z : Int} (hc : cd pc = o_mna nn) (z0 : 0 ≤ z) (z1 : z < 1000000) (k0 : 0 ≤ k) (k1 : k < 1000000) (h1 : SHf n = (26, z.toNat) ∧ ∀ j, j < z.toNat → SHf (n + 1 + j) = (20, k.toNat)) (hi : li.all (fun q => decide (q.1 < n)) = true) (hr : lr.all (fun q => decide (q.1 < n)) = true) (l1 : n + (1 + z.toNat) ≤ lim.1) (l2 : su + (z.toNat + z.toNat * k.toNat) ≤ lim.2) (e1 : n + 1 + z.toNat = n') (e2 : su + (z.toNat + z.toNat * k.toNat) = su') (k9 : wp C cd lim Q nn ls (vr n :: r) (Sx n' su', Ix li, Rx (rowsR n z.toNat lr))) : wp C cd lim Q pc ls (vi k :: vi z :: r) (Sx n su, Ix li, Rx lr) := by
  refine z_mna hc z0 z1 k0 k1 l1 l2 ?_
  rw [mkM_eq h1.1 h1.2 hi hr, e1, e2]
  exact k9
end XS
