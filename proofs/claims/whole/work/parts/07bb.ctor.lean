set_option maxRecDepth 20000 in
theorem ct_0 {d : Nat} : mcall MT CD (d + 4) 90 [vr 16] (Sx 17 7, Ix lI0, Rx lR0) (127, 2474) (fun o h => o = none ∧ h = (Sx 127 2474, Ix lI30, Rx lR114)) := by
  refine ⟨by decide, ?_⟩
  show wp (mcall MT CD (d + 3)) (CD 90) (127, 2474) (fun o h => o = none ∧ h = (Sx 127 2474, Ix lI30, Rx lR114)) 0 [vr 16] [] (Sx 17 7, Ix lI0, Rx lR0)
  refine s_ald k90_0 rfl ?_
  refine z_objinit k90_1 (by decide) (by decide) ?_
  refine s_ald k90_4 rfl ?_
  refine x_new k90_5 (by decide +kernel) (by decide +kernel) (by decide +kernel) (by decide) (by decide) rfl rfl ?_
  show wp _ _ _ _ 8 [vr 16] [vr 17, vr 16] (Sx 18 17, Ix lI0, Rx lR0)
  refine z_dupr k90_8 ?_
  refine s_inv0 (lm := (35, 131)) k90_9 (by decide +kernel) (by decide) ⟨by decide, by decide, by decide, by decide⟩ ct_1 (fun o h1 q => ?_)
  obtain ⟨rfl, rfl⟩ := q
  show wp _ _ _ _ 12 [vr 16] [vr 17, vr 16] (Sx 35 131, Ix lI26, Rx lR17)
  refine z_putR k90_12 (by decide +kernel) ?_
  show wp _ _ _ _ 15 [vr 16] [] (Sx 35 131, Ix lI26, Rx lR18)
  refine s_ald k90_15 rfl ?_
  refine x_new k90_16 (by decide +kernel) (by decide +kernel) (by decide +kernel) (by decide) (by decide) rfl rfl ?_
  show wp _ _ _ _ 19 [vr 16] [vr 35, vr 16] (Sx 36 142, Ix lI26, Rx lR18)
  refine z_dupr k90_19 ?_
  refine s_inv0 (lm := (42, 329)) k90_20 (by decide +kernel) (by decide) ⟨by decide, by decide, by decide, by decide⟩ ct_11 (fun o h1 q => ?_)
  obtain ⟨rfl, rfl⟩ := q
  show wp _ _ _ _ 23 [vr 16] [vr 35, vr 16] (Sx 42 329, Ix lI26, Rx lR24)
  refine z_putR k90_23 (by decide +kernel) ?_
  show wp _ _ _ _ 26 [vr 16] [] (Sx 42 329, Ix lI26, Rx lR25)
  refine s_ald k90_26 rfl ?_
  refine x_new k90_27 (by decide +kernel) (by decide +kernel) (by decide +kernel) (by decide) (by decide) rfl rfl ?_
  show wp _ _ _ _ 30 [vr 16] [vr 42, vr 16] (Sx 43 331, Ix lI26, Rx lR25)
  refine z_dupr k90_30 ?_
  refine s_inv0 (lm := (69, 471)) k90_31 (by decide +kernel) (by decide) ⟨by decide, by decide, by decide, by decide⟩ ct_16 (fun o h1 q => ?_)
  obtain ⟨rfl, rfl⟩ := q
  show wp _ _ _ _ 34 [vr 16] [vr 42, vr 16] (Sx 69 471, Ix lI26, Rx lR51)
  refine z_putR k90_34 (by decide +kernel) ?_
  show wp _ _ _ _ 37 [vr 16] [] (Sx 69 471, Ix lI26, Rx lR52)
  refine s_ald k90_37 rfl ?_
  refine x_new k90_38 (by decide +kernel) (by decide +kernel) (by decide +kernel) (by decide) (by decide) rfl rfl ?_
  show wp _ _ _ _ 41 [vr 16] [vr 69, vr 16] (Sx 70 489, Ix lI26, Rx lR52)
  refine z_dupr k90_41 ?_
  refine s_ald k90_42 rfl ?_
  refine z_getRe (b := 17) k90_43 (by decide +kernel) (by decide +kernel) ?_
  refine s_ald k90_46 rfl ?_
  refine z_getRe (b := 42) k90_47 (by decide +kernel) (by decide +kernel) ?_
  refine s_inv2 (lm := (118, 2416)) k90_50 (by decide +kernel) (by decide) ⟨by decide, by decide, by decide, by decide⟩ ct_37 (fun o h1 q => ?_)
  obtain ⟨rfl, rfl⟩ := q
  show wp _ _ _ _ 53 [vr 16] [vr 69, vr 16] (Sx 118 2416, Ix lI26, Rx lR102)
  refine z_putR k90_53 (by decide +kernel) ?_
  show wp _ _ _ _ 56 [vr 16] [] (Sx 118 2416, Ix lI26, Rx lR103)
  refine s_ald k90_56 rfl ?_
  refine x_new k90_57 (by decide +kernel) (by decide +kernel) (by decide +kernel) (by decide) (by decide) rfl rfl ?_
  show wp _ _ _ _ 60 [vr 16] [vr 118, vr 16] (Sx 119 2426, Ix lI26, Rx lR103)
  refine z_dupr k90_60 ?_
  refine s_ald k90_61 rfl ?_
  refine z_getRe (b := 17) k90_62 (by decide +kernel) (by decide +kernel) ?_
  refine s_ald k90_65 rfl ?_
  refine z_getRe (b := 42) k90_66 (by decide +kernel) (by decide +kernel) ?_
  refine s_inv2 (lm := (123, 2453)) k90_69 (by decide +kernel) (by decide) ⟨by decide, by decide, by decide, by decide⟩ ct_38 (fun o h1 q => ?_)
  obtain ⟨rfl, rfl⟩ := q
  show wp _ _ _ _ 72 [vr 16] [vr 118, vr 16] (Sx 123 2453, Ix lI26, Rx lR109)
  refine z_putR k90_72 (by decide +kernel) ?_
  show wp _ _ _ _ 75 [vr 16] [] (Sx 123 2453, Ix lI26, Rx lR110)
  refine s_ald k90_75 rfl ?_
  refine x_new k90_76 (by decide +kernel) (by decide +kernel) (by decide +kernel) (by decide) (by decide) rfl rfl ?_
  show wp _ _ _ _ 79 [vr 16] [vr 123, vr 16] (Sx 124 2456, Ix lI26, Rx lR110)
  refine z_dupr k90_79 ?_
  refine s_inv0 (lm := (126, 2468)) k90_80 (by decide +kernel) (by decide) ⟨by decide, by decide, by decide, by decide⟩ ct_39 (fun o h1 q => ?_)
  obtain ⟨rfl, rfl⟩ := q
  show wp _ _ _ _ 83 [vr 16] [vr 123, vr 16] (Sx 126 2468, Ix lI30, Rx lR112)
  refine z_putR k90_83 (by decide +kernel) ?_
  show wp _ _ _ _ 86 [vr 16] [] (Sx 126 2468, Ix lI30, Rx lR113)
  refine s_ald k90_86 rfl ?_
  refine x_new k90_87 (by decide +kernel) (by decide +kernel) (by decide +kernel) (by decide) (by decide) rfl rfl ?_
  show wp _ _ _ _ 90 [vr 16] [vr 126, vr 16] (Sx 127 2474, Ix lI30, Rx lR113)
  refine z_dupr k90_90 ?_
  refine s_inv0 (lm := (127, 2474)) k90_91 (by decide +kernel) (by decide) ⟨by decide, by decide, by decide, by decide⟩ ct_40 (fun o h1 q => ?_)
  obtain ⟨rfl, rfl⟩ := q
  show wp _ _ _ _ 94 [vr 16] [vr 126, vr 16] (Sx 127 2474, Ix lI30, Rx lR113)
  refine z_putR k90_94 (by decide +kernel) ?_
  show wp _ _ _ _ 97 [vr 16] [] (Sx 127 2474, Ix lI30, Rx lR114)
  exact s_vret k90_97 rfl rfl ⟨rfl, rfl⟩
set_option maxRecDepth 20000 in
theorem ct_41 {d : Nat} : mcall MT CD (d + 1) 135 [vr 127] (Sx 128 2518, Ix lI30, Rx lR114) (151, 6477) (fun o h => o = none ∧ h = (Sx 151 6477, Ix lI108, Rx lR137)) := by
  refine ⟨by decide, ?_⟩
  show wp (mcall MT CD (d + 0)) (CD 135) (151, 6477) (fun o h => o = none ∧ h = (Sx 151 6477, Ix lI108, Rx lR137)) 0 [vr 127, vj] [] (Sx 128 2518, Ix lI30, Rx lR114)
  refine s_ald k135_0 rfl ?_
  refine z_objinit k135_1 (by decide) (by decide) ?_
  refine s_ald k135_4 rfl ?_
  refine z_push k135_5 ?_
  refine z_putI k135_7 (by decide +kernel) ?_
  show wp _ _ _ _ 10 [vr 127, vj] [] (Sx 128 2518, Ix lI31, Rx lR114)
  refine s_ald k135_10 rfl ?_
  refine z_push k135_11 ?_
  refine x_newa k135_13 (by decide) (by decide) (by decide +kernel) (by decide +kernel) (by decide +kernel) (by decide) (by decide) rfl rfl ?_
  show wp _ _ _ _ 15 [vr 127, vj] [vr 128, vr 127] (Sx 129 2526, Ix lI31, Rx lR114)
  refine z_putR k135_15 (by decide +kernel) ?_
  show wp _ _ _ _ 18 [vr 127, vj] [] (Sx 129 2526, Ix lI31, Rx lR115)
  refine s_ald k135_18 rfl ?_
  refine z_push k135_19 ?_
  refine x_newa k135_21 (by decide) (by decide) (by decide +kernel) (by decide +kernel) (by decide +kernel) (by decide) (by decide) rfl rfl ?_
  show wp _ _ _ _ 23 [vr 127, vj] [vr 129, vr 127] (Sx 130 2534, Ix lI31, Rx lR115)
  refine z_putR k135_23 (by decide +kernel) ?_
  show wp _ _ _ _ 26 [vr 127, vj] [] (Sx 130 2534, Ix lI31, Rx lR116)
  refine s_ald k135_26 rfl ?_
  refine z_push k135_27 ?_
  refine x_newa k135_29 (by decide) (by decide) (by decide +kernel) (by decide +kernel) (by decide +kernel) (by decide) (by decide) rfl rfl ?_
  show wp _ _ _ _ 31 [vr 127, vj] [vr 130, vr 127] (Sx 131 2542, Ix lI31, Rx lR116)
  refine z_putR k135_31 (by decide +kernel) ?_
  show wp _ _ _ _ 34 [vr 127, vj] [] (Sx 131 2542, Ix lI31, Rx lR117)
  refine s_ald k135_34 rfl ?_
  refine z_push k135_35 ?_
  refine z_putI k135_36 (by decide +kernel) ?_
  show wp _ _ _ _ 39 [vr 127, vj] [] (Sx 131 2542, Ix lI32, Rx lR117)
  refine s_ald k135_39 rfl ?_
  refine z_push k135_40 ?_
  refine x_newa k135_42 (by decide) (by decide) (by decide +kernel) (by decide +kernel) (by decide +kernel) (by decide) (by decide) rfl rfl ?_
  show wp _ _ _ _ 44 [vr 127, vj] [vr 131, vr 127] (Sx 132 2614, Ix lI32, Rx lR117)
  refine z_putR k135_44 (by decide +kernel) ?_
  show wp _ _ _ _ 47 [vr 127, vj] [] (Sx 132 2614, Ix lI32, Rx lR118)
  refine s_ald k135_47 rfl ?_
  refine z_push k135_48 ?_
  refine x_newa k135_49 (by decide) (by decide) (by decide +kernel) (by decide +kernel) (by decide +kernel) (by decide) (by decide) rfl rfl ?_
  show wp _ _ _ _ 51 [vr 127, vj] [vr 132, vr 127] (Sx 133 2618, Ix lI32, Rx lR118)
  refine z_putR k135_51 (by decide +kernel) ?_
  show wp _ _ _ _ 54 [vr 127, vj] [] (Sx 133 2618, Ix lI32, Rx lR119)
  refine s_ald k135_54 rfl ?_
  refine z_push k135_55 ?_
  refine x_newa k135_58 (by decide) (by decide) (by decide +kernel) (by decide +kernel) (by decide +kernel) (by decide) (by decide) rfl rfl ?_
  show wp _ _ _ _ 60 [vr 127, vj] [vr 133, vr 127] (Sx 134 2778, Ix lI32, Rx lR119)
  refine z_putR k135_60 (by decide +kernel) ?_
  show wp _ _ _ _ 63 [vr 127, vj] [] (Sx 134 2778, Ix lI32, Rx lR120)
  refine s_ald k135_63 rfl ?_
  refine z_push k135_64 ?_
  refine x_newa k135_67 (by decide) (by decide) (by decide +kernel) (by decide +kernel) (by decide +kernel) (by decide) (by decide) rfl rfl ?_
  show wp _ _ _ _ 69 [vr 127, vj] [vr 134, vr 127] (Sx 135 2939, Ix lI32, Rx lR120)
  refine z_putR k135_69 (by decide +kernel) ?_
  show wp _ _ _ _ 72 [vr 127, vj] [] (Sx 135 2939, Ix lI32, Rx lR121)
  refine s_ald k135_72 rfl ?_
  refine z_push k135_73 ?_
  refine x_newa k135_76 (by decide) (by decide) (by decide +kernel) (by decide +kernel) (by decide +kernel) (by decide) (by decide) rfl rfl ?_
  show wp _ _ _ _ 78 [vr 127, vj] [vr 135, vr 127] (Sx 136 3100, Ix lI32, Rx lR121)
  refine z_putR k135_78 (by decide +kernel) ?_
  show wp _ _ _ _ 81 [vr 127, vj] [] (Sx 136 3100, Ix lI32, Rx lR122)
  refine s_ald k135_81 rfl ?_
  refine z_push k135_82 ?_
  refine x_newa k135_85 (by decide) (by decide) (by decide +kernel) (by decide +kernel) (by decide +kernel) (by decide) (by decide) rfl rfl ?_
  show wp _ _ _ _ 87 [vr 127, vj] [vr 136, vr 127] (Sx 137 3261, Ix lI32, Rx lR122)
  refine z_putR k135_87 (by decide +kernel) ?_
  show wp _ _ _ _ 90 [vr 127, vj] [] (Sx 137 3261, Ix lI32, Rx lR123)
  refine s_ald k135_90 rfl ?_
  refine z_push k135_91 ?_
  refine x_newa k135_93 (by decide) (by decide) (by decide +kernel) (by decide +kernel) (by decide +kernel) (by decide) (by decide) rfl rfl ?_
  show wp _ _ _ _ 95 [vr 127, vj] [vr 137, vr 127] (Sx 138 3284, Ix lI32, Rx lR123)
  refine z_putR k135_95 (by decide +kernel) ?_
  show wp _ _ _ _ 98 [vr 127, vj] [] (Sx 138 3284, Ix lI32, Rx lR124)
  refine s_ald k135_98 rfl ?_
  refine z_push k135_99 ?_
  refine x_newa k135_102 (by decide) (by decide) (by decide +kernel) (by decide +kernel) (by decide +kernel) (by decide) (by decide) rfl rfl ?_
  show wp _ _ _ _ 104 [vr 127, vj] [vr 138, vr 127] (Sx 139 3422, Ix lI32, Rx lR124)
  refine z_putR k135_104 (by decide +kernel) ?_
  show wp _ _ _ _ 107 [vr 127, vj] [] (Sx 139 3422, Ix lI32, Rx lR125)
  refine s_ald k135_107 rfl ?_
  refine z_push k135_108 ?_
  refine x_newa k135_109 (by decide) (by decide) (by decide +kernel) (by decide +kernel) (by decide +kernel) (by decide) (by decide) rfl rfl ?_
  show wp _ _ _ _ 111 [vr 127, vj] [vr 139, vr 127] (Sx 140 3427, Ix lI32, Rx lR125)
  refine z_putR k135_111 (by decide +kernel) ?_
  show wp _ _ _ _ 114 [vr 127, vj] [] (Sx 140 3427, Ix lI32, Rx lR126)
  refine s_ald k135_114 rfl ?_
  refine z_push k135_115 ?_
  refine x_newa k135_118 (by decide) (by decide) (by decide +kernel) (by decide +kernel) (by decide +kernel) (by decide) (by decide) rfl rfl ?_
  show wp _ _ _ _ 120 [vr 127, vj] [vr 140, vr 127] (Sx 141 4427, Ix lI32, Rx lR126)
  refine z_putR k135_120 (by decide +kernel) ?_
  show wp _ _ _ _ 123 [vr 127, vj] [] (Sx 141 4427, Ix lI32, Rx lR127)
  refine s_ald k135_123 rfl ?_
  refine z_push k135_124 ?_
  refine x_newa k135_127 (by decide) (by decide) (by decide +kernel) (by decide +kernel) (by decide +kernel) (by decide) (by decide) rfl rfl ?_
  show wp _ _ _ _ 129 [vr 127, vj] [vr 141, vr 127] (Sx 142 5427, Ix lI32, Rx lR127)
  refine z_putR k135_129 (by decide +kernel) ?_
  show wp _ _ _ _ 132 [vr 127, vj] [] (Sx 142 5427, Ix lI32, Rx lR128)
  refine s_ald k135_132 rfl ?_
  refine z_push k135_133 ?_
  refine x_newa k135_136 (by decide) (by decide) (by decide +kernel) (by decide +kernel) (by decide +kernel) (by decide) (by decide) rfl rfl ?_
  show wp _ _ _ _ 138 [vr 127, vj] [vr 142, vr 127] (Sx 143 6427, Ix lI32, Rx lR128)
  refine z_putR k135_138 (by decide +kernel) ?_
  show wp _ _ _ _ 141 [vr 127, vj] [] (Sx 143 6427, Ix lI32, Rx lR129)
  refine s_ald k135_141 rfl ?_
  refine z_push k135_142 ?_
  refine x_newa k135_144 (by decide) (by decide) (by decide +kernel) (by decide +kernel) (by decide +kernel) (by decide) (by decide) rfl rfl ?_
  show wp _ _ _ _ 146 [vr 127, vj] [vr 143, vr 127] (Sx 144 6433, Ix lI32, Rx lR129)
  refine z_putR k135_146 (by decide +kernel) ?_
  show wp _ _ _ _ 149 [vr 127, vj] [] (Sx 144 6433, Ix lI32, Rx lR130)
  refine s_ald k135_149 rfl ?_
  refine z_push k135_150 ?_
  refine x_newa k135_151 (by decide) (by decide) (by decide +kernel) (by decide +kernel) (by decide +kernel) (by decide) (by decide) rfl rfl ?_
  show wp _ _ _ _ 153 [vr 127, vj] [vr 144, vr 127] (Sx 145 6438, Ix lI32, Rx lR130)
  refine z_putR k135_153 (by decide +kernel) ?_
  show wp _ _ _ _ 156 [vr 127, vj] [] (Sx 145 6438, Ix lI32, Rx lR131)
  refine s_ald k135_156 rfl ?_
  refine z_push k135_157 ?_
  refine x_newa k135_158 (by decide) (by decide) (by decide +kernel) (by decide +kernel) (by decide +kernel) (by decide) (by decide) rfl rfl ?_
  show wp _ _ _ _ 160 [vr 127, vj] [vr 145, vr 127] (Sx 146 6443, Ix lI32, Rx lR131)
  refine z_putR k135_160 (by decide +kernel) ?_
  show wp _ _ _ _ 163 [vr 127, vj] [] (Sx 146 6443, Ix lI32, Rx lR132)
  refine s_ald k135_163 rfl ?_
  refine z_push k135_164 ?_
  refine x_newa k135_165 (by decide) (by decide) (by decide +kernel) (by decide +kernel) (by decide +kernel) (by decide) (by decide) rfl rfl ?_
  show wp _ _ _ _ 167 [vr 127, vj] [vr 146, vr 127] (Sx 147 6448, Ix lI32, Rx lR132)
  refine z_putR k135_167 (by decide +kernel) ?_
  show wp _ _ _ _ 170 [vr 127, vj] [] (Sx 147 6448, Ix lI32, Rx lR133)
  refine s_ald k135_170 rfl ?_
  refine z_push k135_171 ?_
  refine x_newa k135_172 (by decide) (by decide) (by decide +kernel) (by decide +kernel) (by decide +kernel) (by decide) (by decide) rfl rfl ?_
  show wp _ _ _ _ 174 [vr 127, vj] [vr 147, vr 127] (Sx 148 6453, Ix lI32, Rx lR133)
  refine z_putR k135_174 (by decide +kernel) ?_
  show wp _ _ _ _ 177 [vr 127, vj] [] (Sx 148 6453, Ix lI32, Rx lR134)
  refine s_ald k135_177 rfl ?_
  refine z_push k135_178 ?_
  refine x_newa k135_180 (by decide) (by decide) (by decide +kernel) (by decide +kernel) (by decide +kernel) (by decide) (by decide) rfl rfl ?_
  show wp _ _ _ _ 182 [vr 127, vj] [vr 148, vr 127] (Sx 149 6465, Ix lI32, Rx lR134)
  refine z_putR k135_182 (by decide +kernel) ?_
  show wp _ _ _ _ 185 [vr 127, vj] [] (Sx 149 6465, Ix lI32, Rx lR135)
  refine s_ald k135_185 rfl ?_
  refine z_push k135_186 ?_
  refine x_newa k135_187 (by decide) (by decide) (by decide +kernel) (by decide +kernel) (by decide +kernel) (by decide) (by decide) rfl rfl ?_
  show wp _ _ _ _ 189 [vr 127, vj] [vr 149, vr 127] (Sx 150 6469, Ix lI32, Rx lR135)
  refine z_putR k135_189 (by decide +kernel) ?_
  show wp _ _ _ _ 192 [vr 127, vj] [] (Sx 150 6469, Ix lI32, Rx lR136)
  refine s_ald k135_192 rfl ?_
  refine z_push k135_193 ?_
  refine x_newa k135_195 (by decide) (by decide) (by decide +kernel) (by decide +kernel) (by decide +kernel) (by decide) (by decide) rfl rfl ?_
  show wp _ _ _ _ 197 [vr 127, vj] [vr 150, vr 127] (Sx 151 6477, Ix lI32, Rx lR136)
  refine z_putR k135_197 (by decide +kernel) ?_
  show wp _ _ _ _ 200 [vr 127, vj] [] (Sx 151 6477, Ix lI32, Rx lR137)
  refine z_push k135_200 ?_
  refine s_ist1 k135_201 rfl ?_
  refine s_ild k135_202 rfl ?_
  refine z_push k135_203 ?_
  refine s_icge k135_205 ⟨by decide, by decide⟩ ⟨by decide, by decide⟩ (fun q => absurd q (by decide)) (fun _ => ?_)
  refine s_ald k135_208 rfl ?_
  refine z_getRe (b := 131) k135_209 (by decide +kernel) (by decide +kernel) ?_
  refine s_ild k135_212 rfl ?_
  refine z_push k135_213 ?_
  refine z_iast k135_214 (by decide +kernel) (by decide) (by decide +kernel) ?_
  show wp _ _ _ _ 215 [vr 127, vi 0] [] (Sx 151 6477, Ix lI33, Rx lR137)
  refine s_iinc1 k135_215 rfl ?_
  show wp _ _ _ _ 218 [vr 127, vi 1] [] (Sx 151 6477, Ix lI33, Rx lR137)
  refine z_goto k135_218 ?_
  refine s_ild k135_202 rfl ?_
  refine z_push k135_203 ?_
  refine s_icge k135_205 ⟨by decide, by decide⟩ ⟨by decide, by decide⟩ (fun q => absurd q (by decide)) (fun _ => ?_)
  refine s_ald k135_208 rfl ?_
  refine z_getRe (b := 131) k135_209 (by decide +kernel) (by decide +kernel) ?_
  refine s_ild k135_212 rfl ?_
  refine z_push k135_213 ?_
  refine z_iast k135_214 (by decide +kernel) (by decide) (by decide +kernel) ?_
  show wp _ _ _ _ 215 [vr 127, vi 1] [] (Sx 151 6477, Ix lI34, Rx lR137)
  refine s_iinc1 k135_215 rfl ?_
  show wp _ _ _ _ 218 [vr 127, vi 2] [] (Sx 151 6477, Ix lI34, Rx lR137)
  refine z_goto k135_218 ?_
  refine s_ild k135_202 rfl ?_
  refine z_push k135_203 ?_
  refine s_icge k135_205 ⟨by decide, by decide⟩ ⟨by decide, by decide⟩ (fun q => absurd q (by decide)) (fun _ => ?_)
  refine s_ald k135_208 rfl ?_
  refine z_getRe (b := 131) k135_209 (by decide +kernel) (by decide +kernel) ?_
  refine s_ild k135_212 rfl ?_
  refine z_push k135_213 ?_
  refine z_iast k135_214 (by decide +kernel) (by decide) (by decide +kernel) ?_
  show wp _ _ _ _ 215 [vr 127, vi 2] [] (Sx 151 6477, Ix lI35, Rx lR137)
  refine s_iinc1 k135_215 rfl ?_
  show wp _ _ _ _ 218 [vr 127, vi 3] [] (Sx 151 6477, Ix lI35, Rx lR137)
  refine z_goto k135_218 ?_
  refine s_ild k135_202 rfl ?_
  refine z_push k135_203 ?_
  refine s_icge k135_205 ⟨by decide, by decide⟩ ⟨by decide, by decide⟩ (fun q => absurd q (by decide)) (fun _ => ?_)
  refine s_ald k135_208 rfl ?_
  refine z_getRe (b := 131) k135_209 (by decide +kernel) (by decide +kernel) ?_
  refine s_ild k135_212 rfl ?_
  refine z_push k135_213 ?_
  refine z_iast k135_214 (by decide +kernel) (by decide) (by decide +kernel) ?_
  show wp _ _ _ _ 215 [vr 127, vi 3] [] (Sx 151 6477, Ix lI36, Rx lR137)
  refine s_iinc1 k135_215 rfl ?_
  show wp _ _ _ _ 218 [vr 127, vi 4] [] (Sx 151 6477, Ix lI36, Rx lR137)
  refine z_goto k135_218 ?_
  refine s_ild k135_202 rfl ?_
  refine z_push k135_203 ?_
  refine s_icge k135_205 ⟨by decide, by decide⟩ ⟨by decide, by decide⟩ (fun q => absurd q (by decide)) (fun _ => ?_)
  refine s_ald k135_208 rfl ?_
  refine z_getRe (b := 131) k135_209 (by decide +kernel) (by decide +kernel) ?_
  refine s_ild k135_212 rfl ?_
  refine z_push k135_213 ?_
  refine z_iast k135_214 (by decide +kernel) (by decide) (by decide +kernel) ?_
  show wp _ _ _ _ 215 [vr 127, vi 4] [] (Sx 151 6477, Ix lI37, Rx lR137)
  refine s_iinc1 k135_215 rfl ?_
  show wp _ _ _ _ 218 [vr 127, vi 5] [] (Sx 151 6477, Ix lI37, Rx lR137)
  refine z_goto k135_218 ?_
  refine s_ild k135_202 rfl ?_
  refine z_push k135_203 ?_
  refine s_icge k135_205 ⟨by decide, by decide⟩ ⟨by decide, by decide⟩ (fun q => absurd q (by decide)) (fun _ => ?_)
  refine s_ald k135_208 rfl ?_
  refine z_getRe (b := 131) k135_209 (by decide +kernel) (by decide +kernel) ?_
  refine s_ild k135_212 rfl ?_
  refine z_push k135_213 ?_
  refine z_iast k135_214 (by decide +kernel) (by decide) (by decide +kernel) ?_
  show wp _ _ _ _ 215 [vr 127, vi 5] [] (Sx 151 6477, Ix lI38, Rx lR137)
  refine s_iinc1 k135_215 rfl ?_
  show wp _ _ _ _ 218 [vr 127, vi 6] [] (Sx 151 6477, Ix lI38, Rx lR137)
  refine z_goto k135_218 ?_
  refine s_ild k135_202 rfl ?_
  refine z_push k135_203 ?_
  refine s_icge k135_205 ⟨by decide, by decide⟩ ⟨by decide, by decide⟩ (fun q => absurd q (by decide)) (fun _ => ?_)
  refine s_ald k135_208 rfl ?_
  refine z_getRe (b := 131) k135_209 (by decide +kernel) (by decide +kernel) ?_
  refine s_ild k135_212 rfl ?_
  refine z_push k135_213 ?_
  refine z_iast k135_214 (by decide +kernel) (by decide) (by decide +kernel) ?_
  show wp _ _ _ _ 215 [vr 127, vi 6] [] (Sx 151 6477, Ix lI39, Rx lR137)
  refine s_iinc1 k135_215 rfl ?_
  show wp _ _ _ _ 218 [vr 127, vi 7] [] (Sx 151 6477, Ix lI39, Rx lR137)
  refine z_goto k135_218 ?_
  refine s_ild k135_202 rfl ?_
  refine z_push k135_203 ?_
  refine s_icge k135_205 ⟨by decide, by decide⟩ ⟨by decide, by decide⟩ (fun q => absurd q (by decide)) (fun _ => ?_)
  refine s_ald k135_208 rfl ?_
  refine z_getRe (b := 131) k135_209 (by decide +kernel) (by decide +kernel) ?_
  refine s_ild k135_212 rfl ?_
  refine z_push k135_213 ?_
  refine z_iast k135_214 (by decide +kernel) (by decide) (by decide +kernel) ?_
  show wp _ _ _ _ 215 [vr 127, vi 7] [] (Sx 151 6477, Ix lI40, Rx lR137)
  refine s_iinc1 k135_215 rfl ?_
  show wp _ _ _ _ 218 [vr 127, vi 8] [] (Sx 151 6477, Ix lI40, Rx lR137)
  refine z_goto k135_218 ?_
  refine s_ild k135_202 rfl ?_
  refine z_push k135_203 ?_
  refine s_icge k135_205 ⟨by decide, by decide⟩ ⟨by decide, by decide⟩ (fun q => absurd q (by decide)) (fun _ => ?_)
  refine s_ald k135_208 rfl ?_
  refine z_getRe (b := 131) k135_209 (by decide +kernel) (by decide +kernel) ?_
  refine s_ild k135_212 rfl ?_
  refine z_push k135_213 ?_
  refine z_iast k135_214 (by decide +kernel) (by decide) (by decide +kernel) ?_
  show wp _ _ _ _ 215 [vr 127, vi 8] [] (Sx 151 6477, Ix lI41, Rx lR137)
  refine s_iinc1 k135_215 rfl ?_
  show wp _ _ _ _ 218 [vr 127, vi 9] [] (Sx 151 6477, Ix lI41, Rx lR137)
  refine z_goto k135_218 ?_
  refine s_ild k135_202 rfl ?_
  refine z_push k135_203 ?_
  refine s_icge k135_205 ⟨by decide, by decide⟩ ⟨by decide, by decide⟩ (fun q => absurd q (by decide)) (fun _ => ?_)
  refine s_ald k135_208 rfl ?_
  refine z_getRe (b := 131) k135_209 (by decide +kernel) (by decide +kernel) ?_
  refine s_ild k135_212 rfl ?_
  refine z_push k135_213 ?_
  refine z_iast k135_214 (by decide +kernel) (by decide) (by decide +kernel) ?_
  show wp _ _ _ _ 215 [vr 127, vi 9] [] (Sx 151 6477, Ix lI42, Rx lR137)
  refine s_iinc1 k135_215 rfl ?_
  show wp _ _ _ _ 218 [vr 127, vi 10] [] (Sx 151 6477, Ix lI42, Rx lR137)
  refine z_goto k135_218 ?_
  refine s_ild k135_202 rfl ?_
  refine z_push k135_203 ?_
  refine s_icge k135_205 ⟨by decide, by decide⟩ ⟨by decide, by decide⟩ (fun q => absurd q (by decide)) (fun _ => ?_)
  refine s_ald k135_208 rfl ?_
  refine z_getRe (b := 131) k135_209 (by decide +kernel) (by decide +kernel) ?_
  refine s_ild k135_212 rfl ?_
  refine z_push k135_213 ?_
  refine z_iast k135_214 (by decide +kernel) (by decide) (by decide +kernel) ?_
  show wp _ _ _ _ 215 [vr 127, vi 10] [] (Sx 151 6477, Ix lI43, Rx lR137)
  refine s_iinc1 k135_215 rfl ?_
  show wp _ _ _ _ 218 [vr 127, vi 11] [] (Sx 151 6477, Ix lI43, Rx lR137)
  refine z_goto k135_218 ?_
  refine s_ild k135_202 rfl ?_
  refine z_push k135_203 ?_
  refine s_icge k135_205 ⟨by decide, by decide⟩ ⟨by decide, by decide⟩ (fun q => absurd q (by decide)) (fun _ => ?_)
  refine s_ald k135_208 rfl ?_
  refine z_getRe (b := 131) k135_209 (by decide +kernel) (by decide +kernel) ?_
  refine s_ild k135_212 rfl ?_
  refine z_push k135_213 ?_
  refine z_iast k135_214 (by decide +kernel) (by decide) (by decide +kernel) ?_
  show wp _ _ _ _ 215 [vr 127, vi 11] [] (Sx 151 6477, Ix lI44, Rx lR137)
  refine s_iinc1 k135_215 rfl ?_
  show wp _ _ _ _ 218 [vr 127, vi 12] [] (Sx 151 6477, Ix lI44, Rx lR137)
  refine z_goto k135_218 ?_
  refine s_ild k135_202 rfl ?_
  refine z_push k135_203 ?_
  refine s_icge k135_205 ⟨by decide, by decide⟩ ⟨by decide, by decide⟩ (fun q => absurd q (by decide)) (fun _ => ?_)
  refine s_ald k135_208 rfl ?_
  refine z_getRe (b := 131) k135_209 (by decide +kernel) (by decide +kernel) ?_
  refine s_ild k135_212 rfl ?_
  refine z_push k135_213 ?_
  refine z_iast k135_214 (by decide +kernel) (by decide) (by decide +kernel) ?_
  show wp _ _ _ _ 215 [vr 127, vi 12] [] (Sx 151 6477, Ix lI45, Rx lR137)
  refine s_iinc1 k135_215 rfl ?_
  show wp _ _ _ _ 218 [vr 127, vi 13] [] (Sx 151 6477, Ix lI45, Rx lR137)
  refine z_goto k135_218 ?_
  refine s_ild k135_202 rfl ?_
  refine z_push k135_203 ?_
  refine s_icge k135_205 ⟨by decide, by decide⟩ ⟨by decide, by decide⟩ (fun q => absurd q (by decide)) (fun _ => ?_)
  refine s_ald k135_208 rfl ?_
  refine z_getRe (b := 131) k135_209 (by decide +kernel) (by decide +kernel) ?_
  refine s_ild k135_212 rfl ?_
  refine z_push k135_213 ?_
  refine z_iast k135_214 (by decide +kernel) (by decide) (by decide +kernel) ?_
  show wp _ _ _ _ 215 [vr 127, vi 13] [] (Sx 151 6477, Ix lI46, Rx lR137)
  refine s_iinc1 k135_215 rfl ?_
  show wp _ _ _ _ 218 [vr 127, vi 14] [] (Sx 151 6477, Ix lI46, Rx lR137)
  refine z_goto k135_218 ?_
  refine s_ild k135_202 rfl ?_
  refine z_push k135_203 ?_
  refine s_icge k135_205 ⟨by decide, by decide⟩ ⟨by decide, by decide⟩ (fun q => absurd q (by decide)) (fun _ => ?_)
  refine s_ald k135_208 rfl ?_
  refine z_getRe (b := 131) k135_209 (by decide +kernel) (by decide +kernel) ?_
  refine s_ild k135_212 rfl ?_
  refine z_push k135_213 ?_
  refine z_iast k135_214 (by decide +kernel) (by decide) (by decide +kernel) ?_
  show wp _ _ _ _ 215 [vr 127, vi 14] [] (Sx 151 6477, Ix lI47, Rx lR137)
  refine s_iinc1 k135_215 rfl ?_
  show wp _ _ _ _ 218 [vr 127, vi 15] [] (Sx 151 6477, Ix lI47, Rx lR137)
  refine z_goto k135_218 ?_
  refine s_ild k135_202 rfl ?_
  refine z_push k135_203 ?_
  refine s_icge k135_205 ⟨by decide, by decide⟩ ⟨by decide, by decide⟩ (fun q => absurd q (by decide)) (fun _ => ?_)
  refine s_ald k135_208 rfl ?_
  refine z_getRe (b := 131) k135_209 (by decide +kernel) (by decide +kernel) ?_
  refine s_ild k135_212 rfl ?_
  refine z_push k135_213 ?_
  refine z_iast k135_214 (by decide +kernel) (by decide) (by decide +kernel) ?_
  show wp _ _ _ _ 215 [vr 127, vi 15] [] (Sx 151 6477, Ix lI48, Rx lR137)
  refine s_iinc1 k135_215 rfl ?_
  show wp _ _ _ _ 218 [vr 127, vi 16] [] (Sx 151 6477, Ix lI48, Rx lR137)
  refine z_goto k135_218 ?_
  refine s_ild k135_202 rfl ?_
  refine z_push k135_203 ?_
  refine s_icge k135_205 ⟨by decide, by decide⟩ ⟨by decide, by decide⟩ (fun q => absurd q (by decide)) (fun _ => ?_)
  refine s_ald k135_208 rfl ?_
  refine z_getRe (b := 131) k135_209 (by decide +kernel) (by decide +kernel) ?_
  refine s_ild k135_212 rfl ?_
  refine z_push k135_213 ?_
  refine z_iast k135_214 (by decide +kernel) (by decide) (by decide +kernel) ?_
  show wp _ _ _ _ 215 [vr 127, vi 16] [] (Sx 151 6477, Ix lI49, Rx lR137)
  refine s_iinc1 k135_215 rfl ?_
  show wp _ _ _ _ 218 [vr 127, vi 17] [] (Sx 151 6477, Ix lI49, Rx lR137)
  refine z_goto k135_218 ?_
  refine s_ild k135_202 rfl ?_
  refine z_push k135_203 ?_
  refine s_icge k135_205 ⟨by decide, by decide⟩ ⟨by decide, by decide⟩ (fun q => absurd q (by decide)) (fun _ => ?_)
  refine s_ald k135_208 rfl ?_
  refine z_getRe (b := 131) k135_209 (by decide +kernel) (by decide +kernel) ?_
  refine s_ild k135_212 rfl ?_
  refine z_push k135_213 ?_
  refine z_iast k135_214 (by decide +kernel) (by decide) (by decide +kernel) ?_
  show wp _ _ _ _ 215 [vr 127, vi 17] [] (Sx 151 6477, Ix lI50, Rx lR137)
  refine s_iinc1 k135_215 rfl ?_
  show wp _ _ _ _ 218 [vr 127, vi 18] [] (Sx 151 6477, Ix lI50, Rx lR137)
  refine z_goto k135_218 ?_
  refine s_ild k135_202 rfl ?_
  refine z_push k135_203 ?_
  refine s_icge k135_205 ⟨by decide, by decide⟩ ⟨by decide, by decide⟩ (fun q => absurd q (by decide)) (fun _ => ?_)
  refine s_ald k135_208 rfl ?_
  refine z_getRe (b := 131) k135_209 (by decide +kernel) (by decide +kernel) ?_
  refine s_ild k135_212 rfl ?_
  refine z_push k135_213 ?_
  refine z_iast k135_214 (by decide +kernel) (by decide) (by decide +kernel) ?_
  show wp _ _ _ _ 215 [vr 127, vi 18] [] (Sx 151 6477, Ix lI51, Rx lR137)
  refine s_iinc1 k135_215 rfl ?_
  show wp _ _ _ _ 218 [vr 127, vi 19] [] (Sx 151 6477, Ix lI51, Rx lR137)
  refine z_goto k135_218 ?_
  refine s_ild k135_202 rfl ?_
  refine z_push k135_203 ?_
  refine s_icge k135_205 ⟨by decide, by decide⟩ ⟨by decide, by decide⟩ (fun q => absurd q (by decide)) (fun _ => ?_)
  refine s_ald k135_208 rfl ?_
  refine z_getRe (b := 131) k135_209 (by decide +kernel) (by decide +kernel) ?_
  refine s_ild k135_212 rfl ?_
  refine z_push k135_213 ?_
  refine z_iast k135_214 (by decide +kernel) (by decide) (by decide +kernel) ?_
  show wp _ _ _ _ 215 [vr 127, vi 19] [] (Sx 151 6477, Ix lI52, Rx lR137)
  refine s_iinc1 k135_215 rfl ?_
  show wp _ _ _ _ 218 [vr 127, vi 20] [] (Sx 151 6477, Ix lI52, Rx lR137)
  refine z_goto k135_218 ?_
  refine s_ild k135_202 rfl ?_
  refine z_push k135_203 ?_
  refine s_icge k135_205 ⟨by decide, by decide⟩ ⟨by decide, by decide⟩ (fun q => absurd q (by decide)) (fun _ => ?_)
  refine s_ald k135_208 rfl ?_
  refine z_getRe (b := 131) k135_209 (by decide +kernel) (by decide +kernel) ?_
  refine s_ild k135_212 rfl ?_
  refine z_push k135_213 ?_
  refine z_iast k135_214 (by decide +kernel) (by decide) (by decide +kernel) ?_
  show wp _ _ _ _ 215 [vr 127, vi 20] [] (Sx 151 6477, Ix lI53, Rx lR137)
  refine s_iinc1 k135_215 rfl ?_
  show wp _ _ _ _ 218 [vr 127, vi 21] [] (Sx 151 6477, Ix lI53, Rx lR137)
  refine z_goto k135_218 ?_
  refine s_ild k135_202 rfl ?_
  refine z_push k135_203 ?_
  refine s_icge k135_205 ⟨by decide, by decide⟩ ⟨by decide, by decide⟩ (fun q => absurd q (by decide)) (fun _ => ?_)
  refine s_ald k135_208 rfl ?_
  refine z_getRe (b := 131) k135_209 (by decide +kernel) (by decide +kernel) ?_
  refine s_ild k135_212 rfl ?_
  refine z_push k135_213 ?_
  refine z_iast k135_214 (by decide +kernel) (by decide) (by decide +kernel) ?_
  show wp _ _ _ _ 215 [vr 127, vi 21] [] (Sx 151 6477, Ix lI54, Rx lR137)
  refine s_iinc1 k135_215 rfl ?_
  show wp _ _ _ _ 218 [vr 127, vi 22] [] (Sx 151 6477, Ix lI54, Rx lR137)
  refine z_goto k135_218 ?_
  refine s_ild k135_202 rfl ?_
  refine z_push k135_203 ?_
  refine s_icge k135_205 ⟨by decide, by decide⟩ ⟨by decide, by decide⟩ (fun q => absurd q (by decide)) (fun _ => ?_)
  refine s_ald k135_208 rfl ?_
  refine z_getRe (b := 131) k135_209 (by decide +kernel) (by decide +kernel) ?_
  refine s_ild k135_212 rfl ?_
  refine z_push k135_213 ?_
  refine z_iast k135_214 (by decide +kernel) (by decide) (by decide +kernel) ?_
  show wp _ _ _ _ 215 [vr 127, vi 22] [] (Sx 151 6477, Ix lI55, Rx lR137)
  refine s_iinc1 k135_215 rfl ?_
  show wp _ _ _ _ 218 [vr 127, vi 23] [] (Sx 151 6477, Ix lI55, Rx lR137)
  refine z_goto k135_218 ?_
  refine s_ild k135_202 rfl ?_
  refine z_push k135_203 ?_
  refine s_icge k135_205 ⟨by decide, by decide⟩ ⟨by decide, by decide⟩ (fun q => absurd q (by decide)) (fun _ => ?_)
  refine s_ald k135_208 rfl ?_
  refine z_getRe (b := 131) k135_209 (by decide +kernel) (by decide +kernel) ?_
  refine s_ild k135_212 rfl ?_
  refine z_push k135_213 ?_
  refine z_iast k135_214 (by decide +kernel) (by decide) (by decide +kernel) ?_
  show wp _ _ _ _ 215 [vr 127, vi 23] [] (Sx 151 6477, Ix lI56, Rx lR137)
  refine s_iinc1 k135_215 rfl ?_
  show wp _ _ _ _ 218 [vr 127, vi 24] [] (Sx 151 6477, Ix lI56, Rx lR137)
  refine z_goto k135_218 ?_
  refine s_ild k135_202 rfl ?_
  refine z_push k135_203 ?_
  refine s_icge k135_205 ⟨by decide, by decide⟩ ⟨by decide, by decide⟩ (fun q => absurd q (by decide)) (fun _ => ?_)
  refine s_ald k135_208 rfl ?_
  refine z_getRe (b := 131) k135_209 (by decide +kernel) (by decide +kernel) ?_
  refine s_ild k135_212 rfl ?_
  refine z_push k135_213 ?_
  refine z_iast k135_214 (by decide +kernel) (by decide) (by decide +kernel) ?_
  show wp _ _ _ _ 215 [vr 127, vi 24] [] (Sx 151 6477, Ix lI57, Rx lR137)
  refine s_iinc1 k135_215 rfl ?_
  show wp _ _ _ _ 218 [vr 127, vi 25] [] (Sx 151 6477, Ix lI57, Rx lR137)
  refine z_goto k135_218 ?_
  refine s_ild k135_202 rfl ?_
  refine z_push k135_203 ?_
  refine s_icge k135_205 ⟨by decide, by decide⟩ ⟨by decide, by decide⟩ (fun q => absurd q (by decide)) (fun _ => ?_)
  refine s_ald k135_208 rfl ?_
  refine z_getRe (b := 131) k135_209 (by decide +kernel) (by decide +kernel) ?_
  refine s_ild k135_212 rfl ?_
  refine z_push k135_213 ?_
  refine z_iast k135_214 (by decide +kernel) (by decide) (by decide +kernel) ?_
  show wp _ _ _ _ 215 [vr 127, vi 25] [] (Sx 151 6477, Ix lI58, Rx lR137)
  refine s_iinc1 k135_215 rfl ?_
  show wp _ _ _ _ 218 [vr 127, vi 26] [] (Sx 151 6477, Ix lI58, Rx lR137)
  refine z_goto k135_218 ?_
  refine s_ild k135_202 rfl ?_
  refine z_push k135_203 ?_
  refine s_icge k135_205 ⟨by decide, by decide⟩ ⟨by decide, by decide⟩ (fun q => absurd q (by decide)) (fun _ => ?_)
  refine s_ald k135_208 rfl ?_
  refine z_getRe (b := 131) k135_209 (by decide +kernel) (by decide +kernel) ?_
  refine s_ild k135_212 rfl ?_
  refine z_push k135_213 ?_
  refine z_iast k135_214 (by decide +kernel) (by decide) (by decide +kernel) ?_
  show wp _ _ _ _ 215 [vr 127, vi 26] [] (Sx 151 6477, Ix lI59, Rx lR137)
  refine s_iinc1 k135_215 rfl ?_
  show wp _ _ _ _ 218 [vr 127, vi 27] [] (Sx 151 6477, Ix lI59, Rx lR137)
  refine z_goto k135_218 ?_
  refine s_ild k135_202 rfl ?_
  refine z_push k135_203 ?_
  refine s_icge k135_205 ⟨by decide, by decide⟩ ⟨by decide, by decide⟩ (fun q => absurd q (by decide)) (fun _ => ?_)
  refine s_ald k135_208 rfl ?_
  refine z_getRe (b := 131) k135_209 (by decide +kernel) (by decide +kernel) ?_
  refine s_ild k135_212 rfl ?_
  refine z_push k135_213 ?_
  refine z_iast k135_214 (by decide +kernel) (by decide) (by decide +kernel) ?_
  show wp _ _ _ _ 215 [vr 127, vi 27] [] (Sx 151 6477, Ix lI60, Rx lR137)
  refine s_iinc1 k135_215 rfl ?_
  show wp _ _ _ _ 218 [vr 127, vi 28] [] (Sx 151 6477, Ix lI60, Rx lR137)
  refine z_goto k135_218 ?_
  refine s_ild k135_202 rfl ?_
  refine z_push k135_203 ?_
  refine s_icge k135_205 ⟨by decide, by decide⟩ ⟨by decide, by decide⟩ (fun q => absurd q (by decide)) (fun _ => ?_)
  refine s_ald k135_208 rfl ?_
  refine z_getRe (b := 131) k135_209 (by decide +kernel) (by decide +kernel) ?_
  refine s_ild k135_212 rfl ?_
  refine z_push k135_213 ?_
  refine z_iast k135_214 (by decide +kernel) (by decide) (by decide +kernel) ?_
  show wp _ _ _ _ 215 [vr 127, vi 28] [] (Sx 151 6477, Ix lI61, Rx lR137)
  refine s_iinc1 k135_215 rfl ?_
  show wp _ _ _ _ 218 [vr 127, vi 29] [] (Sx 151 6477, Ix lI61, Rx lR137)
  refine z_goto k135_218 ?_
  refine s_ild k135_202 rfl ?_
  refine z_push k135_203 ?_
  refine s_icge k135_205 ⟨by decide, by decide⟩ ⟨by decide, by decide⟩ (fun q => absurd q (by decide)) (fun _ => ?_)
  refine s_ald k135_208 rfl ?_
  refine z_getRe (b := 131) k135_209 (by decide +kernel) (by decide +kernel) ?_
  refine s_ild k135_212 rfl ?_
  refine z_push k135_213 ?_
  refine z_iast k135_214 (by decide +kernel) (by decide) (by decide +kernel) ?_
  show wp _ _ _ _ 215 [vr 127, vi 29] [] (Sx 151 6477, Ix lI62, Rx lR137)
  refine s_iinc1 k135_215 rfl ?_
  show wp _ _ _ _ 218 [vr 127, vi 30] [] (Sx 151 6477, Ix lI62, Rx lR137)
  refine z_goto k135_218 ?_
  refine s_ild k135_202 rfl ?_
  refine z_push k135_203 ?_
  refine s_icge k135_205 ⟨by decide, by decide⟩ ⟨by decide, by decide⟩ (fun q => absurd q (by decide)) (fun _ => ?_)
  refine s_ald k135_208 rfl ?_
  refine z_getRe (b := 131) k135_209 (by decide +kernel) (by decide +kernel) ?_
  refine s_ild k135_212 rfl ?_
  refine z_push k135_213 ?_
  refine z_iast k135_214 (by decide +kernel) (by decide) (by decide +kernel) ?_
  show wp _ _ _ _ 215 [vr 127, vi 30] [] (Sx 151 6477, Ix lI63, Rx lR137)
  refine s_iinc1 k135_215 rfl ?_
  show wp _ _ _ _ 218 [vr 127, vi 31] [] (Sx 151 6477, Ix lI63, Rx lR137)
  refine z_goto k135_218 ?_
  refine s_ild k135_202 rfl ?_
  refine z_push k135_203 ?_
  refine s_icge k135_205 ⟨by decide, by decide⟩ ⟨by decide, by decide⟩ (fun q => absurd q (by decide)) (fun _ => ?_)
  refine s_ald k135_208 rfl ?_
  refine z_getRe (b := 131) k135_209 (by decide +kernel) (by decide +kernel) ?_
  refine s_ild k135_212 rfl ?_
  refine z_push k135_213 ?_
  refine z_iast k135_214 (by decide +kernel) (by decide) (by decide +kernel) ?_
  show wp _ _ _ _ 215 [vr 127, vi 31] [] (Sx 151 6477, Ix lI64, Rx lR137)
  refine s_iinc1 k135_215 rfl ?_
  show wp _ _ _ _ 218 [vr 127, vi 32] [] (Sx 151 6477, Ix lI64, Rx lR137)
  refine z_goto k135_218 ?_
  refine s_ild k135_202 rfl ?_
  refine z_push k135_203 ?_
  refine s_icge k135_205 ⟨by decide, by decide⟩ ⟨by decide, by decide⟩ (fun q => absurd q (by decide)) (fun _ => ?_)
  refine s_ald k135_208 rfl ?_
  refine z_getRe (b := 131) k135_209 (by decide +kernel) (by decide +kernel) ?_
  refine s_ild k135_212 rfl ?_
  refine z_push k135_213 ?_
  refine z_iast k135_214 (by decide +kernel) (by decide) (by decide +kernel) ?_
  show wp _ _ _ _ 215 [vr 127, vi 32] [] (Sx 151 6477, Ix lI65, Rx lR137)
  refine s_iinc1 k135_215 rfl ?_
  show wp _ _ _ _ 218 [vr 127, vi 33] [] (Sx 151 6477, Ix lI65, Rx lR137)
  refine z_goto k135_218 ?_
  refine s_ild k135_202 rfl ?_
  refine z_push k135_203 ?_
  refine s_icge k135_205 ⟨by decide, by decide⟩ ⟨by decide, by decide⟩ (fun q => absurd q (by decide)) (fun _ => ?_)
  refine s_ald k135_208 rfl ?_
  refine z_getRe (b := 131) k135_209 (by decide +kernel) (by decide +kernel) ?_
  refine s_ild k135_212 rfl ?_
  refine z_push k135_213 ?_
  refine z_iast k135_214 (by decide +kernel) (by decide) (by decide +kernel) ?_
  show wp _ _ _ _ 215 [vr 127, vi 33] [] (Sx 151 6477, Ix lI66, Rx lR137)
  refine s_iinc1 k135_215 rfl ?_
  show wp _ _ _ _ 218 [vr 127, vi 34] [] (Sx 151 6477, Ix lI66, Rx lR137)
  refine z_goto k135_218 ?_
  refine s_ild k135_202 rfl ?_
  refine z_push k135_203 ?_
  refine s_icge k135_205 ⟨by decide, by decide⟩ ⟨by decide, by decide⟩ (fun q => absurd q (by decide)) (fun _ => ?_)
  refine s_ald k135_208 rfl ?_
  refine z_getRe (b := 131) k135_209 (by decide +kernel) (by decide +kernel) ?_
  refine s_ild k135_212 rfl ?_
  refine z_push k135_213 ?_
  refine z_iast k135_214 (by decide +kernel) (by decide) (by decide +kernel) ?_
  show wp _ _ _ _ 215 [vr 127, vi 34] [] (Sx 151 6477, Ix lI67, Rx lR137)
  refine s_iinc1 k135_215 rfl ?_
  show wp _ _ _ _ 218 [vr 127, vi 35] [] (Sx 151 6477, Ix lI67, Rx lR137)
  refine z_goto k135_218 ?_
  refine s_ild k135_202 rfl ?_
  refine z_push k135_203 ?_
  refine s_icge k135_205 ⟨by decide, by decide⟩ ⟨by decide, by decide⟩ (fun q => absurd q (by decide)) (fun _ => ?_)
  refine s_ald k135_208 rfl ?_
  refine z_getRe (b := 131) k135_209 (by decide +kernel) (by decide +kernel) ?_
  refine s_ild k135_212 rfl ?_
  refine z_push k135_213 ?_
  refine z_iast k135_214 (by decide +kernel) (by decide) (by decide +kernel) ?_
  show wp _ _ _ _ 215 [vr 127, vi 35] [] (Sx 151 6477, Ix lI68, Rx lR137)
  refine s_iinc1 k135_215 rfl ?_
  show wp _ _ _ _ 218 [vr 127, vi 36] [] (Sx 151 6477, Ix lI68, Rx lR137)
  refine z_goto k135_218 ?_
  refine s_ild k135_202 rfl ?_
  refine z_push k135_203 ?_
  refine s_icge k135_205 ⟨by decide, by decide⟩ ⟨by decide, by decide⟩ (fun q => absurd q (by decide)) (fun _ => ?_)
  refine s_ald k135_208 rfl ?_
  refine z_getRe (b := 131) k135_209 (by decide +kernel) (by decide +kernel) ?_
  refine s_ild k135_212 rfl ?_
  refine z_push k135_213 ?_
  refine z_iast k135_214 (by decide +kernel) (by decide) (by decide +kernel) ?_
  show wp _ _ _ _ 215 [vr 127, vi 36] [] (Sx 151 6477, Ix lI69, Rx lR137)
  refine s_iinc1 k135_215 rfl ?_
  show wp _ _ _ _ 218 [vr 127, vi 37] [] (Sx 151 6477, Ix lI69, Rx lR137)
  refine z_goto k135_218 ?_
  refine s_ild k135_202 rfl ?_
  refine z_push k135_203 ?_
  refine s_icge k135_205 ⟨by decide, by decide⟩ ⟨by decide, by decide⟩ (fun q => absurd q (by decide)) (fun _ => ?_)
  refine s_ald k135_208 rfl ?_
  refine z_getRe (b := 131) k135_209 (by decide +kernel) (by decide +kernel) ?_
  refine s_ild k135_212 rfl ?_
  refine z_push k135_213 ?_
  refine z_iast k135_214 (by decide +kernel) (by decide) (by decide +kernel) ?_
  show wp _ _ _ _ 215 [vr 127, vi 37] [] (Sx 151 6477, Ix lI70, Rx lR137)
  refine s_iinc1 k135_215 rfl ?_
  show wp _ _ _ _ 218 [vr 127, vi 38] [] (Sx 151 6477, Ix lI70, Rx lR137)
  refine z_goto k135_218 ?_
  refine s_ild k135_202 rfl ?_
  refine z_push k135_203 ?_
  refine s_icge k135_205 ⟨by decide, by decide⟩ ⟨by decide, by decide⟩ (fun q => absurd q (by decide)) (fun _ => ?_)
  refine s_ald k135_208 rfl ?_
  refine z_getRe (b := 131) k135_209 (by decide +kernel) (by decide +kernel) ?_
  refine s_ild k135_212 rfl ?_
  refine z_push k135_213 ?_
  refine z_iast k135_214 (by decide +kernel) (by decide) (by decide +kernel) ?_
  show wp _ _ _ _ 215 [vr 127, vi 38] [] (Sx 151 6477, Ix lI71, Rx lR137)
  refine s_iinc1 k135_215 rfl ?_
  show wp _ _ _ _ 218 [vr 127, vi 39] [] (Sx 151 6477, Ix lI71, Rx lR137)
  refine z_goto k135_218 ?_
  refine s_ild k135_202 rfl ?_
  refine z_push k135_203 ?_
  refine s_icge k135_205 ⟨by decide, by decide⟩ ⟨by decide, by decide⟩ (fun q => absurd q (by decide)) (fun _ => ?_)
  refine s_ald k135_208 rfl ?_
  refine z_getRe (b := 131) k135_209 (by decide +kernel) (by decide +kernel) ?_
  refine s_ild k135_212 rfl ?_
  refine z_push k135_213 ?_
  refine z_iast k135_214 (by decide +kernel) (by decide) (by decide +kernel) ?_
  show wp _ _ _ _ 215 [vr 127, vi 39] [] (Sx 151 6477, Ix lI72, Rx lR137)
  refine s_iinc1 k135_215 rfl ?_
  show wp _ _ _ _ 218 [vr 127, vi 40] [] (Sx 151 6477, Ix lI72, Rx lR137)
  refine z_goto k135_218 ?_
  refine s_ild k135_202 rfl ?_
  refine z_push k135_203 ?_
  refine s_icge k135_205 ⟨by decide, by decide⟩ ⟨by decide, by decide⟩ (fun q => absurd q (by decide)) (fun _ => ?_)
  refine s_ald k135_208 rfl ?_
  refine z_getRe (b := 131) k135_209 (by decide +kernel) (by decide +kernel) ?_
  refine s_ild k135_212 rfl ?_
  refine z_push k135_213 ?_
  refine z_iast k135_214 (by decide +kernel) (by decide) (by decide +kernel) ?_
  show wp _ _ _ _ 215 [vr 127, vi 40] [] (Sx 151 6477, Ix lI73, Rx lR137)
  refine s_iinc1 k135_215 rfl ?_
  show wp _ _ _ _ 218 [vr 127, vi 41] [] (Sx 151 6477, Ix lI73, Rx lR137)
  refine z_goto k135_218 ?_
  refine s_ild k135_202 rfl ?_
  refine z_push k135_203 ?_
  refine s_icge k135_205 ⟨by decide, by decide⟩ ⟨by decide, by decide⟩ (fun q => absurd q (by decide)) (fun _ => ?_)
  refine s_ald k135_208 rfl ?_
  refine z_getRe (b := 131) k135_209 (by decide +kernel) (by decide +kernel) ?_
  refine s_ild k135_212 rfl ?_
  refine z_push k135_213 ?_
  refine z_iast k135_214 (by decide +kernel) (by decide) (by decide +kernel) ?_
  show wp _ _ _ _ 215 [vr 127, vi 41] [] (Sx 151 6477, Ix lI74, Rx lR137)
  refine s_iinc1 k135_215 rfl ?_
  show wp _ _ _ _ 218 [vr 127, vi 42] [] (Sx 151 6477, Ix lI74, Rx lR137)
  refine z_goto k135_218 ?_
  refine s_ild k135_202 rfl ?_
  refine z_push k135_203 ?_
  refine s_icge k135_205 ⟨by decide, by decide⟩ ⟨by decide, by decide⟩ (fun q => absurd q (by decide)) (fun _ => ?_)
  refine s_ald k135_208 rfl ?_
  refine z_getRe (b := 131) k135_209 (by decide +kernel) (by decide +kernel) ?_
  refine s_ild k135_212 rfl ?_
  refine z_push k135_213 ?_
  refine z_iast k135_214 (by decide +kernel) (by decide) (by decide +kernel) ?_
  show wp _ _ _ _ 215 [vr 127, vi 42] [] (Sx 151 6477, Ix lI75, Rx lR137)
  refine s_iinc1 k135_215 rfl ?_
  show wp _ _ _ _ 218 [vr 127, vi 43] [] (Sx 151 6477, Ix lI75, Rx lR137)
  refine z_goto k135_218 ?_
  refine s_ild k135_202 rfl ?_
  refine z_push k135_203 ?_
  refine s_icge k135_205 ⟨by decide, by decide⟩ ⟨by decide, by decide⟩ (fun q => absurd q (by decide)) (fun _ => ?_)
  refine s_ald k135_208 rfl ?_
  refine z_getRe (b := 131) k135_209 (by decide +kernel) (by decide +kernel) ?_
  refine s_ild k135_212 rfl ?_
  refine z_push k135_213 ?_
  refine z_iast k135_214 (by decide +kernel) (by decide) (by decide +kernel) ?_
  show wp _ _ _ _ 215 [vr 127, vi 43] [] (Sx 151 6477, Ix lI76, Rx lR137)
  refine s_iinc1 k135_215 rfl ?_
  show wp _ _ _ _ 218 [vr 127, vi 44] [] (Sx 151 6477, Ix lI76, Rx lR137)
  refine z_goto k135_218 ?_
  refine s_ild k135_202 rfl ?_
  refine z_push k135_203 ?_
  refine s_icge k135_205 ⟨by decide, by decide⟩ ⟨by decide, by decide⟩ (fun q => absurd q (by decide)) (fun _ => ?_)
  refine s_ald k135_208 rfl ?_
  refine z_getRe (b := 131) k135_209 (by decide +kernel) (by decide +kernel) ?_
  refine s_ild k135_212 rfl ?_
  refine z_push k135_213 ?_
  refine z_iast k135_214 (by decide +kernel) (by decide) (by decide +kernel) ?_
  show wp _ _ _ _ 215 [vr 127, vi 44] [] (Sx 151 6477, Ix lI77, Rx lR137)
  refine s_iinc1 k135_215 rfl ?_
  show wp _ _ _ _ 218 [vr 127, vi 45] [] (Sx 151 6477, Ix lI77, Rx lR137)
  refine z_goto k135_218 ?_
  refine s_ild k135_202 rfl ?_
  refine z_push k135_203 ?_
  refine s_icge k135_205 ⟨by decide, by decide⟩ ⟨by decide, by decide⟩ (fun q => absurd q (by decide)) (fun _ => ?_)
  refine s_ald k135_208 rfl ?_
  refine z_getRe (b := 131) k135_209 (by decide +kernel) (by decide +kernel) ?_
  refine s_ild k135_212 rfl ?_
  refine z_push k135_213 ?_
  refine z_iast k135_214 (by decide +kernel) (by decide) (by decide +kernel) ?_
  show wp _ _ _ _ 215 [vr 127, vi 45] [] (Sx 151 6477, Ix lI78, Rx lR137)
  refine s_iinc1 k135_215 rfl ?_
  show wp _ _ _ _ 218 [vr 127, vi 46] [] (Sx 151 6477, Ix lI78, Rx lR137)
  refine z_goto k135_218 ?_
  refine s_ild k135_202 rfl ?_
  refine z_push k135_203 ?_
  refine s_icge k135_205 ⟨by decide, by decide⟩ ⟨by decide, by decide⟩ (fun q => absurd q (by decide)) (fun _ => ?_)
  refine s_ald k135_208 rfl ?_
  refine z_getRe (b := 131) k135_209 (by decide +kernel) (by decide +kernel) ?_
  refine s_ild k135_212 rfl ?_
  refine z_push k135_213 ?_
  refine z_iast k135_214 (by decide +kernel) (by decide) (by decide +kernel) ?_
  show wp _ _ _ _ 215 [vr 127, vi 46] [] (Sx 151 6477, Ix lI79, Rx lR137)
  refine s_iinc1 k135_215 rfl ?_
  show wp _ _ _ _ 218 [vr 127, vi 47] [] (Sx 151 6477, Ix lI79, Rx lR137)
  refine z_goto k135_218 ?_
  refine s_ild k135_202 rfl ?_
  refine z_push k135_203 ?_
  refine s_icge k135_205 ⟨by decide, by decide⟩ ⟨by decide, by decide⟩ (fun q => absurd q (by decide)) (fun _ => ?_)
  refine s_ald k135_208 rfl ?_
  refine z_getRe (b := 131) k135_209 (by decide +kernel) (by decide +kernel) ?_
  refine s_ild k135_212 rfl ?_
  refine z_push k135_213 ?_
  refine z_iast k135_214 (by decide +kernel) (by decide) (by decide +kernel) ?_
  show wp _ _ _ _ 215 [vr 127, vi 47] [] (Sx 151 6477, Ix lI80, Rx lR137)
  refine s_iinc1 k135_215 rfl ?_
  show wp _ _ _ _ 218 [vr 127, vi 48] [] (Sx 151 6477, Ix lI80, Rx lR137)
  refine z_goto k135_218 ?_
  refine s_ild k135_202 rfl ?_
  refine z_push k135_203 ?_
  refine s_icge k135_205 ⟨by decide, by decide⟩ ⟨by decide, by decide⟩ (fun q => absurd q (by decide)) (fun _ => ?_)
  refine s_ald k135_208 rfl ?_
  refine z_getRe (b := 131) k135_209 (by decide +kernel) (by decide +kernel) ?_
  refine s_ild k135_212 rfl ?_
  refine z_push k135_213 ?_
  refine z_iast k135_214 (by decide +kernel) (by decide) (by decide +kernel) ?_
  show wp _ _ _ _ 215 [vr 127, vi 48] [] (Sx 151 6477, Ix lI81, Rx lR137)
  refine s_iinc1 k135_215 rfl ?_
  show wp _ _ _ _ 218 [vr 127, vi 49] [] (Sx 151 6477, Ix lI81, Rx lR137)
  refine z_goto k135_218 ?_
  refine s_ild k135_202 rfl ?_
  refine z_push k135_203 ?_
  refine s_icge k135_205 ⟨by decide, by decide⟩ ⟨by decide, by decide⟩ (fun q => absurd q (by decide)) (fun _ => ?_)
  refine s_ald k135_208 rfl ?_
  refine z_getRe (b := 131) k135_209 (by decide +kernel) (by decide +kernel) ?_
  refine s_ild k135_212 rfl ?_
  refine z_push k135_213 ?_
  refine z_iast k135_214 (by decide +kernel) (by decide) (by decide +kernel) ?_
  show wp _ _ _ _ 215 [vr 127, vi 49] [] (Sx 151 6477, Ix lI82, Rx lR137)
  refine s_iinc1 k135_215 rfl ?_
  show wp _ _ _ _ 218 [vr 127, vi 50] [] (Sx 151 6477, Ix lI82, Rx lR137)
  refine z_goto k135_218 ?_
  refine s_ild k135_202 rfl ?_
  refine z_push k135_203 ?_
  refine s_icge k135_205 ⟨by decide, by decide⟩ ⟨by decide, by decide⟩ (fun q => absurd q (by decide)) (fun _ => ?_)
  refine s_ald k135_208 rfl ?_
  refine z_getRe (b := 131) k135_209 (by decide +kernel) (by decide +kernel) ?_
  refine s_ild k135_212 rfl ?_
  refine z_push k135_213 ?_
  refine z_iast k135_214 (by decide +kernel) (by decide) (by decide +kernel) ?_
  show wp _ _ _ _ 215 [vr 127, vi 50] [] (Sx 151 6477, Ix lI83, Rx lR137)
  refine s_iinc1 k135_215 rfl ?_
  show wp _ _ _ _ 218 [vr 127, vi 51] [] (Sx 151 6477, Ix lI83, Rx lR137)
  refine z_goto k135_218 ?_
  refine s_ild k135_202 rfl ?_
  refine z_push k135_203 ?_
  refine s_icge k135_205 ⟨by decide, by decide⟩ ⟨by decide, by decide⟩ (fun q => absurd q (by decide)) (fun _ => ?_)
  refine s_ald k135_208 rfl ?_
  refine z_getRe (b := 131) k135_209 (by decide +kernel) (by decide +kernel) ?_
  refine s_ild k135_212 rfl ?_
  refine z_push k135_213 ?_
  refine z_iast k135_214 (by decide +kernel) (by decide) (by decide +kernel) ?_
  show wp _ _ _ _ 215 [vr 127, vi 51] [] (Sx 151 6477, Ix lI84, Rx lR137)
  refine s_iinc1 k135_215 rfl ?_
  show wp _ _ _ _ 218 [vr 127, vi 52] [] (Sx 151 6477, Ix lI84, Rx lR137)
  refine z_goto k135_218 ?_
  refine s_ild k135_202 rfl ?_
  refine z_push k135_203 ?_
  refine s_icge k135_205 ⟨by decide, by decide⟩ ⟨by decide, by decide⟩ (fun q => absurd q (by decide)) (fun _ => ?_)
  refine s_ald k135_208 rfl ?_
  refine z_getRe (b := 131) k135_209 (by decide +kernel) (by decide +kernel) ?_
  refine s_ild k135_212 rfl ?_
  refine z_push k135_213 ?_
  refine z_iast k135_214 (by decide +kernel) (by decide) (by decide +kernel) ?_
  show wp _ _ _ _ 215 [vr 127, vi 52] [] (Sx 151 6477, Ix lI85, Rx lR137)
  refine s_iinc1 k135_215 rfl ?_
  show wp _ _ _ _ 218 [vr 127, vi 53] [] (Sx 151 6477, Ix lI85, Rx lR137)
  refine z_goto k135_218 ?_
  refine s_ild k135_202 rfl ?_
  refine z_push k135_203 ?_
  refine s_icge k135_205 ⟨by decide, by decide⟩ ⟨by decide, by decide⟩ (fun q => absurd q (by decide)) (fun _ => ?_)
  refine s_ald k135_208 rfl ?_
  refine z_getRe (b := 131) k135_209 (by decide +kernel) (by decide +kernel) ?_
  refine s_ild k135_212 rfl ?_
  refine z_push k135_213 ?_
  refine z_iast k135_214 (by decide +kernel) (by decide) (by decide +kernel) ?_
  show wp _ _ _ _ 215 [vr 127, vi 53] [] (Sx 151 6477, Ix lI86, Rx lR137)
  refine s_iinc1 k135_215 rfl ?_
  show wp _ _ _ _ 218 [vr 127, vi 54] [] (Sx 151 6477, Ix lI86, Rx lR137)
  refine z_goto k135_218 ?_
  refine s_ild k135_202 rfl ?_
  refine z_push k135_203 ?_
  refine s_icge k135_205 ⟨by decide, by decide⟩ ⟨by decide, by decide⟩ (fun q => absurd q (by decide)) (fun _ => ?_)
  refine s_ald k135_208 rfl ?_
  refine z_getRe (b := 131) k135_209 (by decide +kernel) (by decide +kernel) ?_
  refine s_ild k135_212 rfl ?_
  refine z_push k135_213 ?_
  refine z_iast k135_214 (by decide +kernel) (by decide) (by decide +kernel) ?_
  show wp _ _ _ _ 215 [vr 127, vi 54] [] (Sx 151 6477, Ix lI87, Rx lR137)
  refine s_iinc1 k135_215 rfl ?_
  show wp _ _ _ _ 218 [vr 127, vi 55] [] (Sx 151 6477, Ix lI87, Rx lR137)
  refine z_goto k135_218 ?_
  refine s_ild k135_202 rfl ?_
  refine z_push k135_203 ?_
  refine s_icge k135_205 ⟨by decide, by decide⟩ ⟨by decide, by decide⟩ (fun q => absurd q (by decide)) (fun _ => ?_)
  refine s_ald k135_208 rfl ?_
  refine z_getRe (b := 131) k135_209 (by decide +kernel) (by decide +kernel) ?_
  refine s_ild k135_212 rfl ?_
  refine z_push k135_213 ?_
  refine z_iast k135_214 (by decide +kernel) (by decide) (by decide +kernel) ?_
  show wp _ _ _ _ 215 [vr 127, vi 55] [] (Sx 151 6477, Ix lI88, Rx lR137)
  refine s_iinc1 k135_215 rfl ?_
  show wp _ _ _ _ 218 [vr 127, vi 56] [] (Sx 151 6477, Ix lI88, Rx lR137)
  refine z_goto k135_218 ?_
  refine s_ild k135_202 rfl ?_
  refine z_push k135_203 ?_
  refine s_icge k135_205 ⟨by decide, by decide⟩ ⟨by decide, by decide⟩ (fun q => absurd q (by decide)) (fun _ => ?_)
  refine s_ald k135_208 rfl ?_
  refine z_getRe (b := 131) k135_209 (by decide +kernel) (by decide +kernel) ?_
  refine s_ild k135_212 rfl ?_
  refine z_push k135_213 ?_
  refine z_iast k135_214 (by decide +kernel) (by decide) (by decide +kernel) ?_
  show wp _ _ _ _ 215 [vr 127, vi 56] [] (Sx 151 6477, Ix lI89, Rx lR137)
  refine s_iinc1 k135_215 rfl ?_
  show wp _ _ _ _ 218 [vr 127, vi 57] [] (Sx 151 6477, Ix lI89, Rx lR137)
  refine z_goto k135_218 ?_
  refine s_ild k135_202 rfl ?_
  refine z_push k135_203 ?_
  refine s_icge k135_205 ⟨by decide, by decide⟩ ⟨by decide, by decide⟩ (fun q => absurd q (by decide)) (fun _ => ?_)
  refine s_ald k135_208 rfl ?_
  refine z_getRe (b := 131) k135_209 (by decide +kernel) (by decide +kernel) ?_
  refine s_ild k135_212 rfl ?_
  refine z_push k135_213 ?_
  refine z_iast k135_214 (by decide +kernel) (by decide) (by decide +kernel) ?_
  show wp _ _ _ _ 215 [vr 127, vi 57] [] (Sx 151 6477, Ix lI90, Rx lR137)
  refine s_iinc1 k135_215 rfl ?_
  show wp _ _ _ _ 218 [vr 127, vi 58] [] (Sx 151 6477, Ix lI90, Rx lR137)
  refine z_goto k135_218 ?_
  refine s_ild k135_202 rfl ?_
  refine z_push k135_203 ?_
  refine s_icge k135_205 ⟨by decide, by decide⟩ ⟨by decide, by decide⟩ (fun q => absurd q (by decide)) (fun _ => ?_)
  refine s_ald k135_208 rfl ?_
  refine z_getRe (b := 131) k135_209 (by decide +kernel) (by decide +kernel) ?_
  refine s_ild k135_212 rfl ?_
  refine z_push k135_213 ?_
  refine z_iast k135_214 (by decide +kernel) (by decide) (by decide +kernel) ?_
  show wp _ _ _ _ 215 [vr 127, vi 58] [] (Sx 151 6477, Ix lI91, Rx lR137)
  refine s_iinc1 k135_215 rfl ?_
  show wp _ _ _ _ 218 [vr 127, vi 59] [] (Sx 151 6477, Ix lI91, Rx lR137)
  refine z_goto k135_218 ?_
  refine s_ild k135_202 rfl ?_
  refine z_push k135_203 ?_
  refine s_icge k135_205 ⟨by decide, by decide⟩ ⟨by decide, by decide⟩ (fun q => absurd q (by decide)) (fun _ => ?_)
  refine s_ald k135_208 rfl ?_
  refine z_getRe (b := 131) k135_209 (by decide +kernel) (by decide +kernel) ?_
  refine s_ild k135_212 rfl ?_
  refine z_push k135_213 ?_
  refine z_iast k135_214 (by decide +kernel) (by decide) (by decide +kernel) ?_
  show wp _ _ _ _ 215 [vr 127, vi 59] [] (Sx 151 6477, Ix lI92, Rx lR137)
  refine s_iinc1 k135_215 rfl ?_
  show wp _ _ _ _ 218 [vr 127, vi 60] [] (Sx 151 6477, Ix lI92, Rx lR137)
  refine z_goto k135_218 ?_
  refine s_ild k135_202 rfl ?_
  refine z_push k135_203 ?_
  refine s_icge k135_205 ⟨by decide, by decide⟩ ⟨by decide, by decide⟩ (fun q => absurd q (by decide)) (fun _ => ?_)
  refine s_ald k135_208 rfl ?_
  refine z_getRe (b := 131) k135_209 (by decide +kernel) (by decide +kernel) ?_
  refine s_ild k135_212 rfl ?_
  refine z_push k135_213 ?_
  refine z_iast k135_214 (by decide +kernel) (by decide) (by decide +kernel) ?_
  show wp _ _ _ _ 215 [vr 127, vi 60] [] (Sx 151 6477, Ix lI93, Rx lR137)
  refine s_iinc1 k135_215 rfl ?_
  show wp _ _ _ _ 218 [vr 127, vi 61] [] (Sx 151 6477, Ix lI93, Rx lR137)
  refine z_goto k135_218 ?_
  refine s_ild k135_202 rfl ?_
  refine z_push k135_203 ?_
  refine s_icge k135_205 ⟨by decide, by decide⟩ ⟨by decide, by decide⟩ (fun q => absurd q (by decide)) (fun _ => ?_)
  refine s_ald k135_208 rfl ?_
  refine z_getRe (b := 131) k135_209 (by decide +kernel) (by decide +kernel) ?_
  refine s_ild k135_212 rfl ?_
  refine z_push k135_213 ?_
  refine z_iast k135_214 (by decide +kernel) (by decide) (by decide +kernel) ?_
  show wp _ _ _ _ 215 [vr 127, vi 61] [] (Sx 151 6477, Ix lI94, Rx lR137)
  refine s_iinc1 k135_215 rfl ?_
  show wp _ _ _ _ 218 [vr 127, vi 62] [] (Sx 151 6477, Ix lI94, Rx lR137)
  refine z_goto k135_218 ?_
  refine s_ild k135_202 rfl ?_
  refine z_push k135_203 ?_
  refine s_icge k135_205 ⟨by decide, by decide⟩ ⟨by decide, by decide⟩ (fun q => absurd q (by decide)) (fun _ => ?_)
  refine s_ald k135_208 rfl ?_
  refine z_getRe (b := 131) k135_209 (by decide +kernel) (by decide +kernel) ?_
  refine s_ild k135_212 rfl ?_
  refine z_push k135_213 ?_
  refine z_iast k135_214 (by decide +kernel) (by decide) (by decide +kernel) ?_
  show wp _ _ _ _ 215 [vr 127, vi 62] [] (Sx 151 6477, Ix lI95, Rx lR137)
  refine s_iinc1 k135_215 rfl ?_
  show wp _ _ _ _ 218 [vr 127, vi 63] [] (Sx 151 6477, Ix lI95, Rx lR137)
  refine z_goto k135_218 ?_
  refine s_ild k135_202 rfl ?_
  refine z_push k135_203 ?_
  refine s_icge k135_205 ⟨by decide, by decide⟩ ⟨by decide, by decide⟩ (fun q => absurd q (by decide)) (fun _ => ?_)
  refine s_ald k135_208 rfl ?_
  refine z_getRe (b := 131) k135_209 (by decide +kernel) (by decide +kernel) ?_
  refine s_ild k135_212 rfl ?_
  refine z_push k135_213 ?_
  refine z_iast k135_214 (by decide +kernel) (by decide) (by decide +kernel) ?_
  show wp _ _ _ _ 215 [vr 127, vi 63] [] (Sx 151 6477, Ix lI96, Rx lR137)
  refine s_iinc1 k135_215 rfl ?_
  show wp _ _ _ _ 218 [vr 127, vi 64] [] (Sx 151 6477, Ix lI96, Rx lR137)
  refine z_goto k135_218 ?_
  refine s_ild k135_202 rfl ?_
  refine z_push k135_203 ?_
  refine s_icge k135_205 ⟨by decide, by decide⟩ ⟨by decide, by decide⟩ (fun q => absurd q (by decide)) (fun _ => ?_)
  refine s_ald k135_208 rfl ?_
  refine z_getRe (b := 131) k135_209 (by decide +kernel) (by decide +kernel) ?_
  refine s_ild k135_212 rfl ?_
  refine z_push k135_213 ?_
  refine z_iast k135_214 (by decide +kernel) (by decide) (by decide +kernel) ?_
  show wp _ _ _ _ 215 [vr 127, vi 64] [] (Sx 151 6477, Ix lI97, Rx lR137)
  refine s_iinc1 k135_215 rfl ?_
  show wp _ _ _ _ 218 [vr 127, vi 65] [] (Sx 151 6477, Ix lI97, Rx lR137)
  refine z_goto k135_218 ?_
  refine s_ild k135_202 rfl ?_
  refine z_push k135_203 ?_
  refine s_icge k135_205 ⟨by decide, by decide⟩ ⟨by decide, by decide⟩ (fun q => absurd q (by decide)) (fun _ => ?_)
  refine s_ald k135_208 rfl ?_
  refine z_getRe (b := 131) k135_209 (by decide +kernel) (by decide +kernel) ?_
  refine s_ild k135_212 rfl ?_
  refine z_push k135_213 ?_
  refine z_iast k135_214 (by decide +kernel) (by decide) (by decide +kernel) ?_
  show wp _ _ _ _ 215 [vr 127, vi 65] [] (Sx 151 6477, Ix lI98, Rx lR137)
  refine s_iinc1 k135_215 rfl ?_
  show wp _ _ _ _ 218 [vr 127, vi 66] [] (Sx 151 6477, Ix lI98, Rx lR137)
  refine z_goto k135_218 ?_
  refine s_ild k135_202 rfl ?_
  refine z_push k135_203 ?_
  refine s_icge k135_205 ⟨by decide, by decide⟩ ⟨by decide, by decide⟩ (fun q => absurd q (by decide)) (fun _ => ?_)
  refine s_ald k135_208 rfl ?_
  refine z_getRe (b := 131) k135_209 (by decide +kernel) (by decide +kernel) ?_
  refine s_ild k135_212 rfl ?_
  refine z_push k135_213 ?_
  refine z_iast k135_214 (by decide +kernel) (by decide) (by decide +kernel) ?_
  show wp _ _ _ _ 215 [vr 127, vi 66] [] (Sx 151 6477, Ix lI99, Rx lR137)
  refine s_iinc1 k135_215 rfl ?_
  show wp _ _ _ _ 218 [vr 127, vi 67] [] (Sx 151 6477, Ix lI99, Rx lR137)
  refine z_goto k135_218 ?_
  refine s_ild k135_202 rfl ?_
  refine z_push k135_203 ?_
  refine s_icge k135_205 ⟨by decide, by decide⟩ ⟨by decide, by decide⟩ (fun q => absurd q (by decide)) (fun _ => ?_)
  refine s_ald k135_208 rfl ?_
  refine z_getRe (b := 131) k135_209 (by decide +kernel) (by decide +kernel) ?_
  refine s_ild k135_212 rfl ?_
  refine z_push k135_213 ?_
  refine z_iast k135_214 (by decide +kernel) (by decide) (by decide +kernel) ?_
  show wp _ _ _ _ 215 [vr 127, vi 67] [] (Sx 151 6477, Ix lI100, Rx lR137)
  refine s_iinc1 k135_215 rfl ?_
  show wp _ _ _ _ 218 [vr 127, vi 68] [] (Sx 151 6477, Ix lI100, Rx lR137)
  refine z_goto k135_218 ?_
  refine s_ild k135_202 rfl ?_
  refine z_push k135_203 ?_
  refine s_icge k135_205 ⟨by decide, by decide⟩ ⟨by decide, by decide⟩ (fun q => absurd q (by decide)) (fun _ => ?_)
  refine s_ald k135_208 rfl ?_
  refine z_getRe (b := 131) k135_209 (by decide +kernel) (by decide +kernel) ?_
  refine s_ild k135_212 rfl ?_
  refine z_push k135_213 ?_
  refine z_iast k135_214 (by decide +kernel) (by decide) (by decide +kernel) ?_
  show wp _ _ _ _ 215 [vr 127, vi 68] [] (Sx 151 6477, Ix lI101, Rx lR137)
  refine s_iinc1 k135_215 rfl ?_
  show wp _ _ _ _ 218 [vr 127, vi 69] [] (Sx 151 6477, Ix lI101, Rx lR137)
  refine z_goto k135_218 ?_
  refine s_ild k135_202 rfl ?_
  refine z_push k135_203 ?_
  refine s_icge k135_205 ⟨by decide, by decide⟩ ⟨by decide, by decide⟩ (fun q => absurd q (by decide)) (fun _ => ?_)
  refine s_ald k135_208 rfl ?_
  refine z_getRe (b := 131) k135_209 (by decide +kernel) (by decide +kernel) ?_
  refine s_ild k135_212 rfl ?_
  refine z_push k135_213 ?_
  refine z_iast k135_214 (by decide +kernel) (by decide) (by decide +kernel) ?_
  show wp _ _ _ _ 215 [vr 127, vi 69] [] (Sx 151 6477, Ix lI102, Rx lR137)
  refine s_iinc1 k135_215 rfl ?_
  show wp _ _ _ _ 218 [vr 127, vi 70] [] (Sx 151 6477, Ix lI102, Rx lR137)
  refine z_goto k135_218 ?_
  refine s_ild k135_202 rfl ?_
  refine z_push k135_203 ?_
  refine s_icge k135_205 ⟨by decide, by decide⟩ ⟨by decide, by decide⟩ (fun q => absurd q (by decide)) (fun _ => ?_)
  refine s_ald k135_208 rfl ?_
  refine z_getRe (b := 131) k135_209 (by decide +kernel) (by decide +kernel) ?_
  refine s_ild k135_212 rfl ?_
  refine z_push k135_213 ?_
  refine z_iast k135_214 (by decide +kernel) (by decide) (by decide +kernel) ?_
  show wp _ _ _ _ 215 [vr 127, vi 70] [] (Sx 151 6477, Ix lI103, Rx lR137)
  refine s_iinc1 k135_215 rfl ?_
  show wp _ _ _ _ 218 [vr 127, vi 71] [] (Sx 151 6477, Ix lI103, Rx lR137)
  refine z_goto k135_218 ?_
  refine s_ild k135_202 rfl ?_
  refine z_push k135_203 ?_
  refine s_icge k135_205 ⟨by decide, by decide⟩ ⟨by decide, by decide⟩ (fun q => absurd q (by decide)) (fun _ => ?_)
  refine s_ald k135_208 rfl ?_
  refine z_getRe (b := 131) k135_209 (by decide +kernel) (by decide +kernel) ?_
  refine s_ild k135_212 rfl ?_
  refine z_push k135_213 ?_
  refine z_iast k135_214 (by decide +kernel) (by decide) (by decide +kernel) ?_
  show wp _ _ _ _ 215 [vr 127, vi 71] [] (Sx 151 6477, Ix lI104, Rx lR137)
  refine s_iinc1 k135_215 rfl ?_
  show wp _ _ _ _ 218 [vr 127, vi 72] [] (Sx 151 6477, Ix lI104, Rx lR137)
  refine z_goto k135_218 ?_
  refine s_ild k135_202 rfl ?_
  refine z_push k135_203 ?_
  refine s_icge k135_205 ⟨by decide, by decide⟩ ⟨by decide, by decide⟩ (fun _ => ?_) (fun q => absurd q (by decide))
  refine z_push k135_221 ?_
  refine s_ist1 k135_222 rfl ?_
  refine s_ild k135_223 rfl ?_
  refine z_push k135_224 ?_
  refine s_icge k135_225 ⟨by decide, by decide⟩ ⟨by decide, by decide⟩ (fun q => absurd q (by decide)) (fun _ => ?_)
  refine s_ald k135_228 rfl ?_
  refine z_getRe (b := 149) k135_229 (by decide +kernel) (by decide +kernel) ?_
  refine s_ild k135_232 rfl ?_
  refine z_push k135_233 ?_
  refine z_iast k135_234 (by decide +kernel) (by decide) (by decide +kernel) ?_
  show wp _ _ _ _ 235 [vr 127, vi 0] [] (Sx 151 6477, Ix lI105, Rx lR137)
  refine s_iinc1 k135_235 rfl ?_
  show wp _ _ _ _ 238 [vr 127, vi 1] [] (Sx 151 6477, Ix lI105, Rx lR137)
  refine z_goto k135_238 ?_
  refine s_ild k135_223 rfl ?_
  refine z_push k135_224 ?_
  refine s_icge k135_225 ⟨by decide, by decide⟩ ⟨by decide, by decide⟩ (fun q => absurd q (by decide)) (fun _ => ?_)
  refine s_ald k135_228 rfl ?_
  refine z_getRe (b := 149) k135_229 (by decide +kernel) (by decide +kernel) ?_
  refine s_ild k135_232 rfl ?_
  refine z_push k135_233 ?_
  refine z_iast k135_234 (by decide +kernel) (by decide) (by decide +kernel) ?_
  show wp _ _ _ _ 235 [vr 127, vi 1] [] (Sx 151 6477, Ix lI106, Rx lR137)
  refine s_iinc1 k135_235 rfl ?_
  show wp _ _ _ _ 238 [vr 127, vi 2] [] (Sx 151 6477, Ix lI106, Rx lR137)
  refine z_goto k135_238 ?_
  refine s_ild k135_223 rfl ?_
  refine z_push k135_224 ?_
  refine s_icge k135_225 ⟨by decide, by decide⟩ ⟨by decide, by decide⟩ (fun q => absurd q (by decide)) (fun _ => ?_)
  refine s_ald k135_228 rfl ?_
  refine z_getRe (b := 149) k135_229 (by decide +kernel) (by decide +kernel) ?_
  refine s_ild k135_232 rfl ?_
  refine z_push k135_233 ?_
  refine z_iast k135_234 (by decide +kernel) (by decide) (by decide +kernel) ?_
  show wp _ _ _ _ 235 [vr 127, vi 2] [] (Sx 151 6477, Ix lI107, Rx lR137)
  refine s_iinc1 k135_235 rfl ?_
  show wp _ _ _ _ 238 [vr 127, vi 3] [] (Sx 151 6477, Ix lI107, Rx lR137)
  refine z_goto k135_238 ?_
  refine s_ild k135_223 rfl ?_
  refine z_push k135_224 ?_
  refine s_icge k135_225 ⟨by decide, by decide⟩ ⟨by decide, by decide⟩ (fun q => absurd q (by decide)) (fun _ => ?_)
  refine s_ald k135_228 rfl ?_
  refine z_getRe (b := 149) k135_229 (by decide +kernel) (by decide +kernel) ?_
  refine s_ild k135_232 rfl ?_
  refine z_push k135_233 ?_
  refine z_iast k135_234 (by decide +kernel) (by decide) (by decide +kernel) ?_
  show wp _ _ _ _ 235 [vr 127, vi 3] [] (Sx 151 6477, Ix lI108, Rx lR137)
  refine s_iinc1 k135_235 rfl ?_
  show wp _ _ _ _ 238 [vr 127, vi 4] [] (Sx 151 6477, Ix lI108, Rx lR137)
  refine z_goto k135_238 ?_
  refine s_ild k135_223 rfl ?_
  refine z_push k135_224 ?_
  refine s_icge k135_225 ⟨by decide, by decide⟩ ⟨by decide, by decide⟩ (fun _ => ?_) (fun q => absurd q (by decide))
  exact s_vret k135_241 rfl rfl ⟨rfl, rfl⟩
