theorem k156_0 : CD 156 0 = o_ild 1 1 := rfl
theorem k156_1 : CD 156 1 = o_push (vi 8) 3 := rfl
theorem k156_3 : CD 156 3 = o_icge 20 6 := rfl
theorem k156_6 : CD 156 6 = o_ald 0 7 := rfl
theorem k156_7 : CD 156 7 = o_getR 10 20 10 := rfl
theorem k156_10 : CD 156 10 = o_ild 1 11 := rfl
theorem k156_11 : CD 156 11 = o_push (vi 1) 12 := rfl
theorem k156_12 : CD 156 12 = o_isub 13 := rfl
theorem k156_13 : CD 156 13 = o_push (vi 2) 14 := rfl
theorem k156_14 : CD 156 14 = o_idiv 15 := rfl
theorem k156_15 : CD 156 15 = o_ild 3 16 := rfl
theorem k156_16 : CD 156 16 = o_iast 17 := rfl
theorem k156_17 : CD 156 17 = o_goto 72 := rfl
theorem k156_20 : CD 156 20 = o_ild 1 21 := rfl
theorem k156_21 : CD 156 21 = o_push (vi 15) 23 := rfl
theorem k156_23 : CD 156 23 = o_icge 48 26 := rfl
theorem k156_26 : CD 156 26 = o_ald 0 27 := rfl
theorem k156_27 : CD 156 27 = o_getR 10 20 30 := rfl
theorem k156_30 : CD 156 30 = o_push (vi 5) 31 := rfl
theorem k156_31 : CD 156 31 = o_push (vi 6) 33 := rfl
theorem k156_33 : CD 156 33 = o_ild 2 34 := rfl
theorem k156_34 : CD 156 34 = o_imul 35 := rfl
theorem k156_35 : CD 156 35 = o_iadd 36 := rfl
theorem k156_36 : CD 156 36 = o_ild 1 37 := rfl
theorem k156_37 : CD 156 37 = o_push (vi 10) 39 := rfl
theorem k156_39 : CD 156 39 = o_isub 40 := rfl
theorem k156_40 : CD 156 40 = o_push (vi 2) 41 := rfl
theorem k156_41 : CD 156 41 = o_idiv 42 := rfl
theorem k156_42 : CD 156 42 = o_iadd 43 := rfl
theorem k156_43 : CD 156 43 = o_ild 3 44 := rfl
theorem k156_44 : CD 156 44 = o_iast 45 := rfl
theorem k156_45 : CD 156 45 = o_goto 72 := rfl
theorem k156_48 : CD 156 48 = o_ald 0 49 := rfl
theorem k156_49 : CD 156 49 = o_getR 10 20 52 := rfl
theorem k156_52 : CD 156 52 = o_push (vi 5) 53 := rfl
theorem k156_53 : CD 156 53 = o_push (vi 6) 55 := rfl
theorem k156_55 : CD 156 55 = o_ild 2 56 := rfl
theorem k156_56 : CD 156 56 = o_imul 57 := rfl
theorem k156_57 : CD 156 57 = o_iadd 58 := rfl
theorem k156_58 : CD 156 58 = o_ild 1 59 := rfl
theorem k156_59 : CD 156 59 = o_push (vi 17) 61 := rfl
theorem k156_61 : CD 156 61 = o_icne 68 64 := rfl
theorem k156_64 : CD 156 64 = o_push (vi 4) 65 := rfl
theorem k156_65 : CD 156 65 = o_goto 69 := rfl
theorem k156_68 : CD 156 68 = o_push (vi 5) 69 := rfl
theorem k156_69 : CD 156 69 = o_iadd 70 := rfl
theorem k156_70 : CD 156 70 = o_ild 3 71 := rfl
theorem k156_71 : CD 156 71 = o_iast 72 := rfl
theorem k156_72 : CD 156 72 = o_vret := rfl
theorem k157_0 : CD 157 0 = o_ald 0 1 := rfl
theorem k157_1 : CD 157 1 = o_inv 10 153 0 4 := rfl
theorem k157_4 : CD 157 4 = o_push (vi 0) 5 := rfl
theorem k157_5 : CD 157 5 = o_ist 1 6 := rfl
theorem k157_6 : CD 157 6 = o_ild 1 7 := rfl
theorem k157_7 : CD 157 7 = o_push (vi 23) 9 := rfl
theorem k157_9 : CD 157 9 = o_icge 25 12 := rfl
theorem k157_12 : CD 157 12 = o_ald 0 13 := rfl
theorem k157_13 : CD 157 13 = o_getR 10 20 16 := rfl
theorem k157_16 : CD 157 16 = o_ild 1 17 := rfl
theorem k157_17 : CD 157 17 = o_push (vi (-1)) 18 := rfl
theorem k157_18 : CD 157 18 = o_iast 19 := rfl
theorem k157_19 : CD 157 19 = o_iinc 1 1 22 := rfl
theorem k157_22 : CD 157 22 = o_goto 6 := rfl
theorem k157_25 : CD 157 25 = o_push (vi 0) 26 := rfl
theorem k157_26 : CD 157 26 = o_ist 1 27 := rfl
theorem k157_27 : CD 157 27 = o_push (vi 0) 28 := rfl
theorem k157_28 : CD 157 28 = o_ist 2 29 := rfl
theorem k157_29 : CD 157 29 = o_push (vi 0) 30 := rfl
theorem k157_30 : CD 157 30 = o_ist 3 31 := rfl
theorem k157_31 : CD 157 31 = o_ild 1 32 := rfl
theorem k157_32 : CD 157 32 = o_push (vi 50) 34 := rfl
theorem k157_34 : CD 157 34 = o_iceq 324 37 := rfl
theorem k157_37 : CD 157 37 = o_ild 1 38 := rfl
theorem k157_38 : CD 157 38 = o_push (vi 15) 40 := rfl
theorem k157_40 : CD 157 40 = o_icne 186 43 := rfl
theorem k157_43 : CD 157 43 = o_ald 0 44 := rfl
theorem k157_44 : CD 157 44 = o_getR 10 20 47 := rfl
theorem k157_47 : CD 157 47 = o_push (vi 5) 48 := rfl
theorem k157_48 : CD 157 48 = o_push (vi 6) 50 := rfl
theorem k157_50 : CD 157 50 = o_ild 2 51 := rfl
theorem k157_51 : CD 157 51 = o_imul 52 := rfl
theorem k157_52 : CD 157 52 = o_iadd 53 := rfl
theorem k157_53 : CD 157 53 = o_push (vi 3) 54 := rfl
theorem k157_54 : CD 157 54 = o_iadd 55 := rfl
theorem k157_55 : CD 157 55 = o_iald 56 := rfl
theorem k157_56 : CD 157 56 = o_push (vi 1) 57 := rfl
theorem k157_57 : CD 157 57 = o_icne 64 60 := rfl
theorem k157_60 : CD 157 60 = o_push (vi 1) 61 := rfl
theorem k157_61 : CD 157 61 = o_goto 65 := rfl
theorem k157_64 : CD 157 64 = o_push (vi 0) 65 := rfl
theorem k157_65 : CD 157 65 = o_ist 4 67 := rfl
theorem k157_67 : CD 157 67 = o_ald 0 68 := rfl
theorem k157_68 : CD 157 68 = o_push (vi 8) 70 := rfl
theorem k157_70 : CD 157 70 = o_ild 4 72 := rfl
theorem k157_72 : CD 157 72 = o_ifeq 79 75 := rfl
theorem k157_75 : CD 157 75 = o_push (vi 0) 76 := rfl
theorem k157_76 : CD 157 76 = o_goto 81 := rfl
theorem k157_79 : CD 157 79 = o_push (vi 16) 81 := rfl
theorem k157_81 : CD 157 81 = o_iadd 82 := rfl
theorem k157_82 : CD 157 82 = o_ild 2 83 := rfl
theorem k157_83 : CD 157 83 = o_push (vi 2) 84 := rfl
theorem k157_84 : CD 157 84 = o_icge 91 87 := rfl
theorem k157_87 : CD 157 87 = o_push (vi 4) 88 := rfl
theorem k157_88 : CD 157 88 = o_goto 92 := rfl
theorem k157_91 : CD 157 91 = o_push (vi 0) 92 := rfl
theorem k157_92 : CD 157 92 = o_iadd 93 := rfl
theorem k157_93 : CD 157 93 = o_putI 10 19 96 := rfl
theorem k157_96 : CD 157 96 = o_ald 0 97 := rfl
theorem k157_97 : CD 157 97 = o_getR 10 15 100 := rfl
theorem k157_100 : CD 157 100 = o_ild 3 101 := rfl
theorem k157_101 : CD 157 101 = o_iald 102 := rfl
theorem k157_102 : CD 157 102 = o_push (vi 20) 104 := rfl
theorem k157_104 : CD 157 104 = o_icne 129 107 := rfl
theorem k157_107 : CD 157 107 = o_ild 4 109 := rfl
theorem k157_109 : CD 157 109 = o_ifne 129 112 := rfl
theorem k157_112 : CD 157 112 = o_ald 0 113 := rfl
theorem k157_113 : CD 157 113 = o_getR 10 20 116 := rfl
theorem k157_116 : CD 157 116 = o_push (vi 5) 117 := rfl
theorem k157_117 : CD 157 117 = o_push (vi 6) 119 := rfl
theorem k157_119 : CD 157 119 = o_ild 2 120 := rfl
theorem k157_120 : CD 157 120 = o_imul 121 := rfl
theorem k157_121 : CD 157 121 = o_iadd 122 := rfl
theorem k157_122 : CD 157 122 = o_push (vi 3) 123 := rfl
theorem k157_123 : CD 157 123 = o_iadd 124 := rfl
theorem k157_124 : CD 157 124 = o_push (vi 1) 125 := rfl
theorem k157_125 : CD 157 125 = o_iast 126 := rfl
theorem k157_126 : CD 157 126 = o_goto 183 := rfl
theorem k157_129 : CD 157 129 = o_ald 0 130 := rfl
theorem k157_130 : CD 157 130 = o_getR 10 15 133 := rfl
theorem k157_133 : CD 157 133 = o_ild 3 134 := rfl
theorem k157_134 : CD 157 134 = o_iald 135 := rfl
theorem k157_135 : CD 157 135 = o_push (vi 31) 137 := rfl
theorem k157_137 : CD 157 137 = o_icne 154 140 := rfl
theorem k157_140 : CD 157 140 = o_ild 2 141 := rfl
theorem k157_141 : CD 157 141 = o_push (vi 2) 142 := rfl
theorem k157_142 : CD 157 142 = o_icge 154 145 := rfl
theorem k157_145 : CD 157 145 = o_iinc 2 1 148 := rfl
theorem k157_148 : CD 157 148 = o_push (vi 16) 150 := rfl
theorem k157_150 : CD 157 150 = o_ist 1 151 := rfl
theorem k157_151 : CD 157 151 = o_goto 183 := rfl
theorem k157_154 : CD 157 154 = o_ald 0 155 := rfl
theorem k157_155 : CD 157 155 = o_getR 10 15 158 := rfl
theorem k157_158 : CD 157 158 = o_ild 3 159 := rfl
theorem k157_159 : CD 157 159 = o_iald 160 := rfl
theorem k157_160 : CD 157 160 = o_push (vi 50) 162 := rfl
theorem k157_162 : CD 157 162 = o_icne 171 165 := rfl
theorem k157_165 : CD 157 165 = o_push (vi 50) 167 := rfl
theorem k157_167 : CD 157 167 = o_ist 1 168 := rfl
theorem k157_168 : CD 157 168 = o_goto 183 := rfl
theorem k157_171 : CD 157 171 = o_ald 0 172 := rfl
theorem k157_172 : CD 157 172 = o_ald 0 173 := rfl
theorem k157_173 : CD 157 173 = o_getR 10 17 176 := rfl
theorem k157_176 : CD 157 176 = o_ild 3 177 := rfl
theorem k157_177 : CD 157 177 = o_iald 178 := rfl
theorem k157_178 : CD 157 178 = o_putI 10 18 181 := rfl
theorem k157_181 : CD 157 181 = o_push (vi 0) 182 := rfl
theorem k157_182 : CD 157 182 = o_zret := rfl
theorem k157_183 : CD 157 183 = o_goto 318 := rfl
theorem k157_186 : CD 157 186 = o_ild 1 187 := rfl
theorem k157_187 : CD 157 187 = o_sta 154 1 190 := rfl
theorem k157_190 : CD 157 190 = o_ist 4 192 := rfl
theorem k157_192 : CD 157 192 = o_ald 0 193 := rfl
theorem k157_193 : CD 157 193 = o_ild 4 195 := rfl
theorem k157_195 : CD 157 195 = o_push (vi 40) 197 := rfl
theorem k157_197 : CD 157 197 = o_icne 204 200 := rfl
theorem k157_200 : CD 157 200 = o_push (vi 2) 201 := rfl
theorem k157_201 : CD 157 201 = o_goto 216 := rfl
theorem k157_204 : CD 157 204 = o_ild 4 206 := rfl
theorem k157_206 : CD 157 206 = o_push (vi 30) 208 := rfl
theorem k157_208 : CD 157 208 = o_iclt 215 211 := rfl
theorem k157_211 : CD 157 211 = o_push (vi 4) 212 := rfl
theorem k157_212 : CD 157 212 = o_goto 216 := rfl
theorem k157_215 : CD 157 215 = o_push (vi 1) 216 := rfl
theorem k157_216 : CD 157 216 = o_putI 10 19 219 := rfl
theorem k157_219 : CD 157 219 = o_ald 0 220 := rfl
theorem k157_220 : CD 157 220 = o_getR 10 15 223 := rfl
theorem k157_223 : CD 157 223 = o_ild 3 224 := rfl
theorem k157_224 : CD 157 224 = o_iald 225 := rfl
theorem k157_225 : CD 157 225 = o_ild 4 227 := rfl
theorem k157_227 : CD 157 227 = o_icne 252 230 := rfl
theorem k157_230 : CD 157 230 = o_ild 4 232 := rfl
theorem k157_232 : CD 157 232 = o_push (vi 40) 234 := rfl
theorem k157_234 : CD 157 234 = o_icne 264 237 := rfl
theorem k157_237 : CD 157 237 = o_ald 0 238 := rfl
theorem k157_238 : CD 157 238 = o_ild 1 239 := rfl
theorem k157_239 : CD 157 239 = o_ild 2 240 := rfl
theorem k157_240 : CD 157 240 = o_ald 0 241 := rfl
theorem k157_241 : CD 157 241 = o_getR 10 16 244 := rfl
theorem k157_244 : CD 157 244 = o_ild 3 245 := rfl
theorem k157_245 : CD 157 245 = o_iald 246 := rfl
theorem k157_246 : CD 157 246 = o_inv 10 155 3 249 := rfl
theorem k157_249 : CD 157 249 = o_ifne 264 252 := rfl
theorem k157_252 : CD 157 252 = o_ald 0 253 := rfl
theorem k157_253 : CD 157 253 = o_ald 0 254 := rfl
theorem k157_254 : CD 157 254 = o_getR 10 17 257 := rfl
theorem k157_257 : CD 157 257 = o_ild 3 258 := rfl
theorem k157_258 : CD 157 258 = o_iald 259 := rfl
theorem k157_259 : CD 157 259 = o_putI 10 18 262 := rfl
theorem k157_262 : CD 157 262 = o_push (vi 0) 263 := rfl
theorem k157_263 : CD 157 263 = o_zret := rfl
theorem k157_264 : CD 157 264 = o_ild 4 266 := rfl
theorem k157_266 : CD 157 266 = o_push (vi 40) 268 := rfl
theorem k157_268 : CD 157 268 = o_icne 283 271 := rfl
theorem k157_271 : CD 157 271 = o_ald 0 272 := rfl
theorem k157_272 : CD 157 272 = o_ild 1 273 := rfl
theorem k157_273 : CD 157 273 = o_ild 2 274 := rfl
theorem k157_274 : CD 157 274 = o_ald 0 275 := rfl
theorem k157_275 : CD 157 275 = o_getR 10 16 278 := rfl
theorem k157_278 : CD 157 278 = o_ild 3 279 := rfl
theorem k157_279 : CD 157 279 = o_iald 280 := rfl
theorem k157_280 : CD 157 280 = o_inv 10 156 3 283 := rfl
theorem k157_283 : CD 157 283 = o_ild 1 284 := rfl
theorem k157_284 : CD 157 284 = o_push (vi 14) 286 := rfl
theorem k157_286 : CD 157 286 = o_icne 303 289 := rfl
theorem k157_289 : CD 157 289 = o_ald 0 290 := rfl
theorem k157_290 : CD 157 290 = o_getR 10 20 293 := rfl
theorem k157_293 : CD 157 293 = o_push (vi 5) 294 := rfl
theorem k157_294 : CD 157 294 = o_push (vi 6) 296 := rfl
theorem k157_296 : CD 157 296 = o_ild 2 297 := rfl
theorem k157_297 : CD 157 297 = o_imul 298 := rfl
theorem k157_298 : CD 157 298 = o_iadd 299 := rfl
theorem k157_299 : CD 157 299 = o_push (vi 3) 300 := rfl
theorem k157_300 : CD 157 300 = o_iadd 301 := rfl
theorem k157_301 : CD 157 301 = o_push (vi 0) 302 := rfl
theorem k157_302 : CD 157 302 = o_iast 303 := rfl
theorem k157_303 : CD 157 303 = o_ild 1 304 := rfl
theorem k157_304 : CD 157 304 = o_push (vi 20) 306 := rfl
theorem k157_306 : CD 157 306 = o_icne 314 309 := rfl
theorem k157_309 : CD 157 309 = o_push (vi 9) 311 := rfl
theorem k157_311 : CD 157 311 = o_goto 317 := rfl
theorem k157_314 : CD 157 314 = o_ild 1 315 := rfl
theorem k157_315 : CD 157 315 = o_push (vi 1) 316 := rfl
theorem k157_316 : CD 157 316 = o_iadd 317 := rfl
theorem k157_317 : CD 157 317 = o_ist 1 318 := rfl
theorem k157_318 : CD 157 318 = o_iinc 3 1 321 := rfl
theorem k157_321 : CD 157 321 = o_goto 31 := rfl
theorem k157_324 : CD 157 324 = o_ald 0 325 := rfl
theorem k157_325 : CD 157 325 = o_getR 10 20 328 := rfl
theorem k157_328 : CD 157 328 = o_push (vi 4) 329 := rfl
theorem k157_329 : CD 157 329 = o_ild 2 330 := rfl
theorem k157_330 : CD 157 330 = o_push (vi 1) 331 := rfl
theorem k157_331 : CD 157 331 = o_iadd 332 := rfl
theorem k157_332 : CD 157 332 = o_iast 333 := rfl
theorem k157_333 : CD 157 333 = o_push (vi 1) 334 := rfl
theorem k157_334 : CD 157 334 = o_zret := rfl
theorem k158_0 : CD 158 0 = o_ald 0 1 := rfl
theorem k158_1 : CD 158 1 = o_inv 10 157 0 4 := rfl
theorem k158_4 : CD 158 4 = o_ifeq 11 7 := rfl
theorem k158_7 : CD 158 7 = o_push (vi (-1)) 8 := rfl
theorem k158_8 : CD 158 8 = o_goto 15 := rfl
theorem k158_11 : CD 158 11 = o_ald 0 12 := rfl
theorem k158_12 : CD 158 12 = o_getI 10 18 15 := rfl
theorem k158_15 : CD 158 15 = o_iret := rfl
theorem k159_0 : CD 159 0 = o_ald 0 1 := rfl
theorem k159_1 : CD 159 1 = o_inv 10 157 0 4 := rfl
theorem k159_4 : CD 159 4 = o_ifeq 11 7 := rfl
theorem k159_7 : CD 159 7 = o_push (vi 0) 8 := rfl
theorem k159_8 : CD 159 8 = o_goto 15 := rfl
theorem k159_11 : CD 159 11 = o_ald 0 12 := rfl
theorem k159_12 : CD 159 12 = o_getI 10 19 15 := rfl
theorem k159_15 : CD 159 15 = o_iret := rfl
theorem k160_0 : CD 160 0 = o_ald 0 1 := rfl
theorem k160_1 : CD 160 1 = o_inv 10 157 0 4 := rfl
theorem k160_4 : CD 160 4 = o_ifne 10 7 := rfl
theorem k160_7 : CD 160 7 = o_push (vi (-4)) 9 := rfl
theorem k160_9 : CD 160 9 = o_iret := rfl
theorem k160_10 : CD 160 10 = o_ald 0 11 := rfl
theorem k160_11 : CD 160 11 = o_getI 10 21 14 := rfl
theorem k160_14 : CD 160 14 = o_push (vi 5) 15 := rfl
theorem k160_15 : CD 160 15 = o_icne 21 18 := rfl
theorem k160_18 : CD 160 18 = o_push (vi (-5)) 20 := rfl
theorem k160_20 : CD 160 20 = o_iret := rfl
theorem k160_21 : CD 160 21 = o_push (vi 0) 22 := rfl
theorem k160_22 : CD 160 22 = o_ist 1 23 := rfl
theorem k160_23 : CD 160 23 = o_ild 1 24 := rfl
theorem k160_24 : CD 160 24 = o_push (vi 23) 26 := rfl
theorem k160_26 : CD 160 26 = o_icge 55 29 := rfl
theorem k160_29 : CD 160 29 = o_ald 0 30 := rfl
theorem k160_30 : CD 160 30 = o_getR 10 22 33 := rfl
theorem k160_33 : CD 160 33 = o_push (vi 23) 35 := rfl
theorem k160_35 : CD 160 35 = o_ald 0 36 := rfl
theorem k160_36 : CD 160 36 = o_getI 10 21 39 := rfl
theorem k160_39 : CD 160 39 = o_imul 40 := rfl
theorem k160_40 : CD 160 40 = o_ild 1 41 := rfl
theorem k160_41 : CD 160 41 = o_iadd 42 := rfl
theorem k160_42 : CD 160 42 = o_ald 0 43 := rfl
theorem k160_43 : CD 160 43 = o_getR 10 20 46 := rfl
theorem k160_46 : CD 160 46 = o_ild 1 47 := rfl
theorem k160_47 : CD 160 47 = o_iald 48 := rfl
theorem k160_48 : CD 160 48 = o_iast 49 := rfl
theorem k160_49 : CD 160 49 = o_iinc 1 1 52 := rfl
theorem k160_52 : CD 160 52 = o_goto 23 := rfl
theorem k160_55 : CD 160 55 = o_ald 0 56 := rfl
theorem k160_56 : CD 160 56 = o_dupr 57 := rfl
theorem k160_57 : CD 160 57 = o_getI 10 21 60 := rfl
theorem k160_60 : CD 160 60 = o_push (vi 1) 61 := rfl
theorem k160_61 : CD 160 61 = o_iadd 62 := rfl
theorem k160_62 : CD 160 62 = o_putI 10 21 65 := rfl
theorem k160_65 : CD 160 65 = o_ald 0 66 := rfl
theorem k160_66 : CD 160 66 = o_push (vi 0) 67 := rfl
theorem k160_67 : CD 160 67 = o_putI 10 12 70 := rfl
theorem k160_70 : CD 160 70 = o_ald 0 71 := rfl
theorem k160_71 : CD 160 71 = o_getI 10 21 74 := rfl
theorem k160_74 : CD 160 74 = o_push (vi 1) 75 := rfl
theorem k160_75 : CD 160 75 = o_isub 76 := rfl
theorem k160_76 : CD 160 76 = o_iret := rfl
theorem k161_0 : CD 161 0 = o_ald 0 1 := rfl
theorem k161_1 : CD 161 1 = o_dupr 2 := rfl
theorem k161_2 : CD 161 2 = o_getI 10 21 5 := rfl
theorem k161_5 : CD 161 5 = o_push (vi 1) 6 := rfl
theorem k161_6 : CD 161 6 = o_isub 7 := rfl
theorem k161_7 : CD 161 7 = o_putI 10 21 10 := rfl
theorem k161_10 : CD 161 10 = o_push (vi 23) 12 := rfl
theorem k161_12 : CD 161 12 = o_ild 1 13 := rfl
theorem k161_13 : CD 161 13 = o_imul 14 := rfl
theorem k161_14 : CD 161 14 = o_ist 2 15 := rfl
theorem k161_15 : CD 161 15 = o_ild 2 16 := rfl
theorem k161_16 : CD 161 16 = o_push (vi 23) 18 := rfl
theorem k161_18 : CD 161 18 = o_ald 0 19 := rfl
theorem k161_19 : CD 161 19 = o_getI 10 21 22 := rfl
theorem k161_22 : CD 161 22 = o_imul 23 := rfl
theorem k161_23 : CD 161 23 = o_icge 47 26 := rfl
theorem k161_26 : CD 161 26 = o_ald 0 27 := rfl
theorem k161_27 : CD 161 27 = o_getR 10 22 30 := rfl
theorem k161_30 : CD 161 30 = o_ild 2 31 := rfl
theorem k161_31 : CD 161 31 = o_ald 0 32 := rfl
theorem k161_32 : CD 161 32 = o_getR 10 22 35 := rfl
theorem k161_35 : CD 161 35 = o_ild 2 36 := rfl
theorem k161_36 : CD 161 36 = o_push (vi 23) 38 := rfl
theorem k161_38 : CD 161 38 = o_iadd 39 := rfl
theorem k161_39 : CD 161 39 = o_iald 40 := rfl
theorem k161_40 : CD 161 40 = o_iast 41 := rfl
theorem k161_41 : CD 161 41 = o_iinc 2 1 44 := rfl
theorem k161_44 : CD 161 44 = o_goto 15 := rfl
theorem k161_47 : CD 161 47 = o_vret := rfl
theorem k162_0 : CD 162 0 = o_ald 0 1 := rfl
theorem k162_1 : CD 162 1 = o_ild 1 2 := rfl
theorem k162_2 : CD 162 2 = o_inv 10 139 1 5 := rfl
theorem k162_5 : CD 162 5 = o_ifne 11 8 := rfl
theorem k162_8 : CD 162 8 = o_push (vi (-2)) 10 := rfl
theorem k162_10 : CD 162 10 = o_iret := rfl
theorem k162_11 : CD 162 11 = o_ald 0 12 := rfl
theorem k162_12 : CD 162 12 = o_ild 1 13 := rfl
theorem k162_13 : CD 162 13 = o_inv 10 161 1 16 := rfl
theorem k162_16 : CD 162 16 = o_push (vi 1) 17 := rfl
theorem k162_17 : CD 162 17 = o_iret := rfl
theorem k163_0 : CD 163 0 = o_ald 0 1 := rfl
theorem k163_1 : CD 163 1 = o_ild 1 2 := rfl
theorem k163_2 : CD 163 2 = o_inv 10 139 1 5 := rfl
theorem k163_5 : CD 163 5 = o_ifne 11 8 := rfl
theorem k163_8 : CD 163 8 = o_push (vi (-2)) 10 := rfl
theorem k163_10 : CD 163 10 = o_iret := rfl
theorem k163_11 : CD 163 11 = o_ild 2 12 := rfl
theorem k163_12 : CD 163 12 = o_push (vi 0) 13 := rfl
theorem k163_13 : CD 163 13 = o_push (vi 4) 14 := rfl
theorem k163_14 : CD 163 14 = o_sta 136 3 17 := rfl
theorem k163_17 : CD 163 17 = o_ifeq 32 20 := rfl
theorem k163_20 : CD 163 20 = o_ald 0 21 := rfl
theorem k163_21 : CD 163 21 = o_getR 10 22 24 := rfl
theorem k163_24 : CD 163 24 = o_push (vi 23) 26 := rfl
theorem k163_26 : CD 163 26 = o_ild 1 27 := rfl
theorem k163_27 : CD 163 27 = o_imul 28 := rfl
theorem k163_28 : CD 163 28 = o_ild 2 29 := rfl
theorem k163_29 : CD 163 29 = o_iadd 30 := rfl
theorem k163_30 : CD 163 30 = o_iald 31 := rfl
theorem k163_31 : CD 163 31 = o_iret := rfl
theorem k163_32 : CD 163 32 = o_ild 2 33 := rfl
theorem k163_33 : CD 163 33 = o_push (vi 10) 35 := rfl
theorem k163_35 : CD 163 35 = o_idiv 36 := rfl
theorem k163_36 : CD 163 36 = o_push (vi 1) 37 := rfl
theorem k163_37 : CD 163 37 = o_isub 38 := rfl
theorem k163_38 : CD 163 38 = o_ist 3 39 := rfl
theorem k163_39 : CD 163 39 = o_ild 2 40 := rfl
theorem k163_40 : CD 163 40 = o_push (vi 10) 42 := rfl
theorem k163_42 : CD 163 42 = o_irem 43 := rfl
theorem k163_43 : CD 163 43 = o_ist 4 45 := rfl
theorem k163_45 : CD 163 45 = o_ild 2 46 := rfl
theorem k163_46 : CD 163 46 = o_push (vi 10) 48 := rfl
theorem k163_48 : CD 163 48 = o_push (vi 35) 50 := rfl
theorem k163_50 : CD 163 50 = o_sta 136 3 53 := rfl
theorem k163_53 : CD 163 53 = o_ifeq 70 56 := rfl
theorem k163_56 : CD 163 56 = o_ild 4 58 := rfl
theorem k163_58 : CD 163 58 = o_ild 3 59 := rfl
theorem k163_59 : CD 163 59 = o_ifne 66 62 := rfl
theorem k163_62 : CD 163 62 = o_push (vi 3) 63 := rfl
theorem k163_63 : CD 163 63 = o_goto 67 := rfl
theorem k163_66 : CD 163 66 = o_push (vi 5) 67 := rfl
theorem k163_67 : CD 163 67 = o_icle 73 70 := rfl
theorem k163_70 : CD 163 70 = o_push (vi (-3)) 72 := rfl
theorem k163_72 : CD 163 72 = o_iret := rfl
theorem k163_73 : CD 163 73 = o_ald 0 74 := rfl
theorem k163_74 : CD 163 74 = o_getR 10 22 77 := rfl
theorem k163_77 : CD 163 77 = o_push (vi 23) 79 := rfl
theorem k163_79 : CD 163 79 = o_ild 1 80 := rfl
theorem k163_80 : CD 163 80 = o_imul 81 := rfl
theorem k163_81 : CD 163 81 = o_push (vi 5) 82 := rfl
theorem k163_82 : CD 163 82 = o_iadd 83 := rfl
theorem k163_83 : CD 163 83 = o_push (vi 6) 85 := rfl
theorem k163_85 : CD 163 85 = o_ild 3 86 := rfl
theorem k163_86 : CD 163 86 = o_imul 87 := rfl
theorem k163_87 : CD 163 87 = o_iadd 88 := rfl
theorem k163_88 : CD 163 88 = o_ild 4 90 := rfl
theorem k163_90 : CD 163 90 = o_iadd 91 := rfl
theorem k163_91 : CD 163 91 = o_iald 92 := rfl
theorem k163_92 : CD 163 92 = o_iret := rfl
theorem k164_0 : CD 164 0 = o_ald 0 1 := rfl
theorem k164_1 : CD 164 1 = o_ild 1 2 := rfl
theorem k164_2 : CD 164 2 = o_inv 10 139 1 5 := rfl
theorem k164_5 : CD 164 5 = o_ifne 11 8 := rfl
theorem k164_8 : CD 164 8 = o_push (vi (-2)) 10 := rfl
theorem k164_10 : CD 164 10 = o_iret := rfl
theorem k164_11 : CD 164 11 = o_ild 2 12 := rfl
theorem k164_12 : CD 164 12 = o_push (vi 1) 13 := rfl
theorem k164_13 : CD 164 13 = o_push (vi 99) 15 := rfl
theorem k164_15 : CD 164 15 = o_sta 136 3 18 := rfl
theorem k164_18 : CD 164 18 = o_ifne 24 21 := rfl
theorem k164_21 : CD 164 21 = o_push (vi (-3)) 23 := rfl
theorem k164_23 : CD 164 23 = o_iret := rfl
theorem k164_24 : CD 164 24 = o_ald 0 25 := rfl
theorem k164_25 : CD 164 25 = o_getR 10 22 28 := rfl
theorem k164_28 : CD 164 28 = o_push (vi 23) 30 := rfl
theorem k164_30 : CD 164 30 = o_ild 1 31 := rfl
theorem k164_31 : CD 164 31 = o_imul 32 := rfl
theorem k164_32 : CD 164 32 = o_push (vi 3) 33 := rfl
theorem k164_33 : CD 164 33 = o_iadd 34 := rfl
theorem k164_34 : CD 164 34 = o_iald 35 := rfl
theorem k164_35 : CD 164 35 = o_ist 3 36 := rfl
theorem k164_36 : CD 164 36 = o_ald 0 37 := rfl
theorem k164_37 : CD 164 37 = o_getR 10 22 40 := rfl
theorem k164_40 : CD 164 40 = o_push (vi 23) 42 := rfl
theorem k164_42 : CD 164 42 = o_ild 1 43 := rfl
theorem k164_43 : CD 164 43 = o_imul 44 := rfl
theorem k164_44 : CD 164 44 = o_push (vi 3) 45 := rfl
theorem k164_45 : CD 164 45 = o_iadd 46 := rfl
theorem k164_46 : CD 164 46 = o_ild 2 47 := rfl
theorem k164_47 : CD 164 47 = o_iast 48 := rfl
theorem k164_48 : CD 164 48 = o_ild 3 49 := rfl
theorem k164_49 : CD 164 49 = o_iret := rfl
theorem k165_0 : CD 165 0 = o_ald 0 1 := rfl
theorem k165_1 : CD 165 1 = o_getR 10 22 4 := rfl
theorem k165_4 : CD 165 4 = o_push (vi 23) 6 := rfl
theorem k165_6 : CD 165 6 = o_ild 1 7 := rfl
theorem k165_7 : CD 165 7 = o_imul 8 := rfl
theorem k165_8 : CD 165 8 = o_push (vi 3) 9 := rfl
theorem k165_9 : CD 165 9 = o_iadd 10 := rfl
theorem k165_10 : CD 165 10 = o_iald 11 := rfl
theorem k165_11 : CD 165 11 = o_iret := rfl
theorem k166_0 : CD 166 0 = o_ald 0 1 := rfl
theorem k166_1 : CD 166 1 = o_getR 10 22 4 := rfl
theorem k166_4 : CD 166 4 = o_push (vi 23) 6 := rfl
theorem k166_6 : CD 166 6 = o_ild 1 7 := rfl
theorem k166_7 : CD 166 7 = o_imul 8 := rfl
theorem k166_8 : CD 166 8 = o_push (vi 4) 9 := rfl
theorem k166_9 : CD 166 9 = o_iadd 10 := rfl
theorem k166_10 : CD 166 10 = o_iald 11 := rfl
theorem k166_11 : CD 166 11 = o_iret := rfl
theorem k167_0 : CD 167 0 = o_ald 0 1 := rfl
theorem k167_1 : CD 167 1 = o_getR 10 22 4 := rfl
theorem k167_4 : CD 167 4 = o_push (vi 23) 6 := rfl
theorem k167_6 : CD 167 6 = o_ild 1 7 := rfl
theorem k167_7 : CD 167 7 = o_imul 8 := rfl
theorem k167_8 : CD 167 8 = o_push (vi 5) 9 := rfl
theorem k167_9 : CD 167 9 = o_iadd 10 := rfl
theorem k167_10 : CD 167 10 = o_push (vi 6) 12 := rfl
theorem k167_12 : CD 167 12 = o_ild 2 13 := rfl
theorem k167_13 : CD 167 13 = o_imul 14 := rfl
theorem k167_14 : CD 167 14 = o_iadd 15 := rfl
theorem k167_15 : CD 167 15 = o_ild 3 16 := rfl
theorem k167_16 : CD 167 16 = o_iadd 17 := rfl
theorem k167_17 : CD 167 17 = o_iald 18 := rfl
theorem k167_18 : CD 167 18 = o_iret := rfl
theorem k168_0 : CD 168 0 = o_ald 0 1 := rfl
theorem k168_1 : CD 168 1 = o_getR 10 9 4 := rfl
theorem k168_4 : CD 168 4 = o_push (vi 12) 6 := rfl
theorem k168_6 : CD 168 6 = o_ild 3 7 := rfl
theorem k168_7 : CD 168 7 = o_imul 8 := rfl
theorem k168_8 : CD 168 8 = o_ild 2 9 := rfl
theorem k168_9 : CD 168 9 = o_iadd 10 := rfl
theorem k168_10 : CD 168 10 = o_iald 11 := rfl
theorem k168_11 : CD 168 11 = o_ist 7 13 := rfl
theorem k168_13 : CD 168 13 = o_ild 7 15 := rfl
theorem k168_15 : CD 168 15 = o_push (vi 4) 16 := rfl
theorem k168_16 : CD 168 16 = o_iceq 46 19 := rfl
theorem k168_19 : CD 168 19 = o_ild 7 21 := rfl
theorem k168_21 : CD 168 21 = o_ild 4 23 := rfl
theorem k168_23 : CD 168 23 = o_icgt 46 26 := rfl
theorem k168_26 : CD 168 26 = o_ald 0 27 := rfl
theorem k168_27 : CD 168 27 = o_ild 1 28 := rfl
theorem k168_28 : CD 168 28 = o_ild 2 29 := rfl
theorem k168_29 : CD 168 29 = o_inv 10 144 2 32 := rfl
theorem k168_32 : CD 168 32 = o_ifeq 46 35 := rfl
theorem k168_35 : CD 168 35 = o_ald 0 36 := rfl
theorem k168_36 : CD 168 36 = o_ild 1 37 := rfl
theorem k168_37 : CD 168 37 = o_ild 2 38 := rfl
theorem k168_38 : CD 168 38 = o_inv 10 143 2 41 := rfl
theorem k168_41 : CD 168 41 = o_ild 5 43 := rfl
theorem k168_43 : CD 168 43 = o_icle 48 46 := rfl
theorem k168_46 : CD 168 46 = o_push (vi 0) 47 := rfl
theorem k168_47 : CD 168 47 = o_zret := rfl
theorem k168_48 : CD 168 48 = o_ild 6 50 := rfl
theorem k168_50 : CD 168 50 = o_push (vi 1) 51 := rfl
theorem k168_51 : CD 168 51 = o_icne 82 54 := rfl
theorem k168_54 : CD 168 54 = o_ald 0 55 := rfl
theorem k168_55 : CD 168 55 = o_getR 10 5 58 := rfl
theorem k168_58 : CD 168 58 = o_ild 1 59 := rfl
theorem k168_59 : CD 168 59 = o_iald 60 := rfl
theorem k168_60 : CD 168 60 = o_ald 0 61 := rfl
theorem k168_61 : CD 168 61 = o_getI 10 6 64 := rfl
theorem k168_64 : CD 168 64 = o_icne 82 67 := rfl
theorem k168_67 : CD 168 67 = o_ild 2 68 := rfl
theorem k168_68 : CD 168 68 = o_ald 0 69 := rfl
theorem k168_69 : CD 168 69 = o_getI 10 7 72 := rfl
theorem k168_72 : CD 168 72 = o_ald 0 73 := rfl
theorem k168_73 : CD 168 73 = o_getI 10 8 76 := rfl
theorem k168_76 : CD 168 76 = o_sta 136 3 79 := rfl
theorem k168_79 : CD 168 79 = o_ifne 86 82 := rfl
theorem k168_82 : CD 168 82 = o_push (vi 1) 83 := rfl
theorem k168_83 : CD 168 83 = o_goto 87 := rfl
theorem k168_86 : CD 168 86 = o_push (vi 0) 87 := rfl
theorem k168_87 : CD 168 87 = o_zret := rfl
theorem k169_0 : CD 169 0 = o_ald 0 1 := rfl
theorem k169_1 : CD 169 1 = o_ald 0 2 := rfl
theorem k169_2 : CD 169 2 = o_getR 10 22 5 := rfl
theorem k169_5 : CD 169 5 = o_push (vi 23) 7 := rfl
theorem k169_7 : CD 169 7 = o_ild 1 8 := rfl
theorem k169_8 : CD 169 8 = o_imul 9 := rfl
theorem k169_9 : CD 169 9 = o_push (vi 2) 10 := rfl
theorem k169_10 : CD 169 10 = o_iadd 11 := rfl
theorem k169_11 : CD 169 11 = o_iald 12 := rfl
theorem k169_12 : CD 169 12 = o_ild 3 13 := rfl
theorem k169_13 : CD 169 13 = o_ild 4 15 := rfl
theorem k169_15 : CD 169 15 = o_ald 0 16 := rfl
theorem k169_16 : CD 169 16 = o_ild 1 17 := rfl
theorem k169_17 : CD 169 17 = o_ild 2 18 := rfl
theorem k169_18 : CD 169 18 = o_push (vi 1) 19 := rfl
theorem k169_19 : CD 169 19 = o_inv 10 167 3 22 := rfl
theorem k169_22 : CD 169 22 = o_ald 0 23 := rfl
theorem k169_23 : CD 169 23 = o_ild 1 24 := rfl
theorem k169_24 : CD 169 24 = o_ild 2 25 := rfl
theorem k169_25 : CD 169 25 = o_push (vi 2) 26 := rfl
theorem k169_26 : CD 169 26 = o_inv 10 167 3 29 := rfl
theorem k169_29 : CD 169 29 = o_ald 0 30 := rfl
theorem k169_30 : CD 169 30 = o_ild 1 31 := rfl
theorem k169_31 : CD 169 31 = o_ild 2 32 := rfl
theorem k169_32 : CD 169 32 = o_push (vi 3) 33 := rfl
theorem k169_33 : CD 169 33 = o_inv 10 167 3 36 := rfl
theorem k169_36 : CD 169 36 = o_inv 10 168 6 39 := rfl
theorem k169_39 : CD 169 39 = o_zret := rfl
theorem k170_0 : CD 170 0 = o_push (vi 0) 1 := rfl
theorem k170_1 : CD 170 1 = o_ist 4 3 := rfl
theorem k170_3 : CD 170 3 = o_ild 3 4 := rfl
theorem k170_4 : CD 170 4 = o_ist 5 6 := rfl
theorem k170_6 : CD 170 6 = o_ild 5 8 := rfl
theorem k170_8 : CD 170 8 = o_ild 3 9 := rfl
theorem k170_9 : CD 170 9 = o_ald 0 10 := rfl
theorem k170_10 : CD 170 10 = o_ild 1 11 := rfl
theorem k170_11 : CD 170 11 = o_ild 2 12 := rfl
theorem k170_12 : CD 170 12 = o_push (vi 0) 13 := rfl
theorem k170_13 : CD 170 13 = o_inv 10 167 3 16 := rfl
theorem k170_16 : CD 170 16 = o_iadd 17 := rfl
theorem k170_17 : CD 170 17 = o_icge 58 20 := rfl
theorem k170_20 : CD 170 20 = o_ild 5 22 := rfl
theorem k170_22 : CD 170 22 = o_ald 0 23 := rfl
theorem k170_23 : CD 170 23 = o_getI 10 0 26 := rfl
theorem k170_26 : CD 170 26 = o_icge 41 29 := rfl
theorem k170_29 : CD 170 29 = o_ald 0 30 := rfl
theorem k170_30 : CD 170 30 = o_ild 1 31 := rfl
theorem k170_31 : CD 170 31 = o_ild 2 32 := rfl
theorem k170_32 : CD 170 32 = o_ild 5 34 := rfl
theorem k170_34 : CD 170 34 = o_push (vi 0) 35 := rfl
theorem k170_35 : CD 170 35 = o_inv 10 169 4 38 := rfl
theorem k170_38 : CD 170 38 = o_ifne 43 41 := rfl
theorem k170_41 : CD 170 41 = o_push (vi 0) 42 := rfl
theorem k170_42 : CD 170 42 = o_iret := rfl
theorem k170_43 : CD 170 43 = o_ild 4 45 := rfl
theorem k170_45 : CD 170 45 = o_push (vi 1) 46 := rfl
theorem k170_46 : CD 170 46 = o_ild 5 48 := rfl
theorem k170_48 : CD 170 48 = o_ishl 49 := rfl
theorem k170_49 : CD 170 49 = o_ior 50 := rfl
theorem k170_50 : CD 170 50 = o_ist 4 52 := rfl
theorem k170_52 : CD 170 52 = o_iinc 5 1 55 := rfl
theorem k170_55 : CD 170 55 = o_goto 6 := rfl
theorem k170_58 : CD 170 58 = o_ild 4 60 := rfl
theorem k170_60 : CD 170 60 = o_iret := rfl
theorem k171_0 : CD 171 0 = o_ald 0 1 := rfl
theorem k171_1 : CD 171 1 = o_getR 10 24 4 := rfl
theorem k171_4 : CD 171 4 = o_push (vi 200) 7 := rfl
theorem k171_7 : CD 171 7 = o_ild 1 8 := rfl
theorem k171_8 : CD 171 8 = o_imul 9 := rfl
theorem k171_9 : CD 171 9 = o_ald 0 10 := rfl
theorem k171_10 : CD 171 10 = o_getR 10 23 13 := rfl
theorem k171_13 : CD 171 13 = o_ild 1 14 := rfl
theorem k171_14 : CD 171 14 = o_iald 15 := rfl
theorem k171_15 : CD 171 15 = o_iadd 16 := rfl
theorem k171_16 : CD 171 16 = o_ild 2 17 := rfl
theorem k171_17 : CD 171 17 = o_iast 18 := rfl
theorem k171_18 : CD 171 18 = o_ald 0 19 := rfl
theorem k171_19 : CD 171 19 = o_getR 10 25 22 := rfl
theorem k171_22 : CD 171 22 = o_push (vi 200) 25 := rfl
theorem k171_25 : CD 171 25 = o_ild 1 26 := rfl
theorem k171_26 : CD 171 26 = o_imul 27 := rfl
theorem k171_27 : CD 171 27 = o_ald 0 28 := rfl
theorem k171_28 : CD 171 28 = o_getR 10 23 31 := rfl
theorem k171_31 : CD 171 31 = o_ild 1 32 := rfl
theorem k171_32 : CD 171 32 = o_iald 33 := rfl
theorem k171_33 : CD 171 33 = o_iadd 34 := rfl
theorem k171_34 : CD 171 34 = o_ild 2 35 := rfl
theorem k171_35 : CD 171 35 = o_ild 2 36 := rfl
theorem k171_36 : CD 171 36 = o_push (vi 1) 37 := rfl
theorem k171_37 : CD 171 37 = o_ishl 38 := rfl
theorem k171_38 : CD 171 38 = o_ior 39 := rfl
theorem k171_39 : CD 171 39 = o_ild 2 40 := rfl
theorem k171_40 : CD 171 40 = o_push (vi 1) 41 := rfl
theorem k171_41 : CD 171 41 = o_ishr 42 := rfl
theorem k171_42 : CD 171 42 = o_ior 43 := rfl
theorem k171_43 : CD 171 43 = o_push (vi 1) 44 := rfl
theorem k171_44 : CD 171 44 = o_ald 0 45 := rfl
theorem k171_45 : CD 171 45 = o_getI 10 0 48 := rfl
theorem k171_48 : CD 171 48 = o_ishl 49 := rfl
theorem k171_49 : CD 171 49 = o_push (vi 1) 50 := rfl
theorem k171_50 : CD 171 50 = o_isub 51 := rfl
theorem k171_51 : CD 171 51 = o_iand 52 := rfl
theorem k171_52 : CD 171 52 = o_iast 53 := rfl
theorem k171_53 : CD 171 53 = o_ald 0 54 := rfl
theorem k171_54 : CD 171 54 = o_getR 10 23 57 := rfl
theorem k171_57 : CD 171 57 = o_ild 1 58 := rfl
theorem k171_58 : CD 171 58 = o_dup2ir 59 := rfl
theorem k171_59 : CD 171 59 = o_iald 60 := rfl
theorem k171_60 : CD 171 60 = o_push (vi 1) 61 := rfl
theorem k171_61 : CD 171 61 = o_iadd 62 := rfl
theorem k171_62 : CD 171 62 = o_iast 63 := rfl
theorem k171_63 : CD 171 63 = o_vret := rfl
theorem k172_0 : CD 172 0 = o_ald 0 1 := rfl
theorem k172_1 : CD 172 1 = o_getR 10 23 4 := rfl
theorem k172_4 : CD 172 4 = o_ild 1 5 := rfl
theorem k172_5 : CD 172 5 = o_push (vi 0) 6 := rfl
theorem k172_6 : CD 172 6 = o_iast 7 := rfl
theorem k172_7 : CD 172 7 = o_push (vi 0) 8 := rfl
theorem k172_8 : CD 172 8 = o_ist 2 9 := rfl
theorem k172_9 : CD 172 9 = o_ild 2 10 := rfl
theorem k172_10 : CD 172 10 = o_ald 0 11 := rfl
theorem k172_11 : CD 172 11 = o_getI 10 0 14 := rfl
theorem k172_14 : CD 172 14 = o_icge 252 17 := rfl
theorem k172_17 : CD 172 17 = o_ald 0 18 := rfl
theorem k172_18 : CD 172 18 = o_ild 1 19 := rfl
theorem k172_19 : CD 172 19 = o_push (vi 0) 20 := rfl
theorem k172_20 : CD 172 20 = o_ild 2 21 := rfl
theorem k172_21 : CD 172 21 = o_inv 10 170 3 24 := rfl
theorem k172_24 : CD 172 24 = o_ist 3 25 := rfl
theorem k172_25 : CD 172 25 = o_ild 3 26 := rfl
theorem k172_26 : CD 172 26 = o_ifeq 44 29 := rfl
theorem k172_29 : CD 172 29 = o_ald 0 30 := rfl
theorem k172_30 : CD 172 30 = o_ild 1 31 := rfl
theorem k172_31 : CD 172 31 = o_inv 10 166 1 34 := rfl
theorem k172_34 : CD 172 34 = o_push (vi 1) 35 := rfl
theorem k172_35 : CD 172 35 = o_icne 44 38 := rfl
theorem k172_38 : CD 172 38 = o_ald 0 39 := rfl
theorem k172_39 : CD 172 39 = o_ild 1 40 := rfl
theorem k172_40 : CD 172 40 = o_ild 3 41 := rfl
theorem k172_41 : CD 172 41 = o_inv 10 171 2 44 := rfl
theorem k172_44 : CD 172 44 = o_ild 2 45 := rfl
theorem k172_45 : CD 172 45 = o_ald 0 46 := rfl
theorem k172_46 : CD 172 46 = o_ild 1 47 := rfl
theorem k172_47 : CD 172 47 = o_push (vi 0) 48 := rfl
theorem k172_48 : CD 172 48 = o_push (vi 0) 49 := rfl
theorem k172_49 : CD 172 49 = o_inv 10 167 3 52 := rfl
theorem k172_52 : CD 172 52 = o_iadd 53 := rfl
theorem k172_53 : CD 172 53 = o_ist 4 55 := rfl
theorem k172_55 : CD 172 55 = o_ild 4 57 := rfl
theorem k172_57 : CD 172 57 = o_ald 0 58 := rfl
theorem k172_58 : CD 172 58 = o_ild 1 59 := rfl
theorem k172_59 : CD 172 59 = o_inv 10 166 1 62 := rfl
theorem k172_62 : CD 172 62 = o_push (vi 1) 63 := rfl
theorem k172_63 : CD 172 63 = o_icle 76 66 := rfl
theorem k172_66 : CD 172 66 = o_ald 0 67 := rfl
theorem k172_67 : CD 172 67 = o_ild 1 68 := rfl
theorem k172_68 : CD 172 68 = o_push (vi 1) 69 := rfl
theorem k172_69 : CD 172 69 = o_push (vi 4) 70 := rfl
theorem k172_70 : CD 172 70 = o_inv 10 167 3 73 := rfl
theorem k172_73 : CD 172 73 = o_goto 77 := rfl
theorem k172_76 : CD 172 76 = o_push (vi 0) 77 := rfl
theorem k172_77 : CD 172 77 = o_iadd 78 := rfl
theorem k172_78 : CD 172 78 = o_ist 5 80 := rfl
theorem k172_80 : CD 172 80 = o_ild 3 81 := rfl
theorem k172_81 : CD 172 81 = o_ifeq 246 84 := rfl
theorem k172_84 : CD 172 84 = o_ald 0 85 := rfl
theorem k172_85 : CD 172 85 = o_ild 1 86 := rfl
theorem k172_86 : CD 172 86 = o_inv 10 166 1 89 := rfl
theorem k172_89 : CD 172 89 = o_push (vi 1) 90 := rfl
theorem k172_90 : CD 172 90 = o_icle 246 93 := rfl
theorem k172_93 : CD 172 93 = o_ild 5 95 := rfl
theorem k172_95 : CD 172 95 = o_ild 4 97 := rfl
theorem k172_97 : CD 172 97 = o_ald 0 98 := rfl
theorem k172_98 : CD 172 98 = o_ild 1 99 := rfl
theorem k172_99 : CD 172 99 = o_push (vi 1) 100 := rfl
theorem k172_100 : CD 172 100 = o_push (vi 5) 101 := rfl
theorem k172_101 : CD 172 101 = o_inv 10 167 3 104 := rfl
theorem k172_104 : CD 172 104 = o_iadd 105 := rfl
theorem k172_105 : CD 172 105 = o_icgt 246 108 := rfl
theorem k172_108 : CD 172 108 = o_ald 0 109 := rfl
theorem k172_109 : CD 172 109 = o_ild 1 110 := rfl
theorem k172_110 : CD 172 110 = o_push (vi 1) 111 := rfl
theorem k172_111 : CD 172 111 = o_ild 5 113 := rfl
theorem k172_113 : CD 172 113 = o_inv 10 170 3 116 := rfl
theorem k172_116 : CD 172 116 = o_ist 6 118 := rfl
theorem k172_118 : CD 172 118 = o_ild 6 120 := rfl
theorem k172_120 : CD 172 120 = o_ifeq 141 123 := rfl
theorem k172_123 : CD 172 123 = o_ald 0 124 := rfl
theorem k172_124 : CD 172 124 = o_ild 1 125 := rfl
theorem k172_125 : CD 172 125 = o_inv 10 166 1 128 := rfl
theorem k172_128 : CD 172 128 = o_push (vi 2) 129 := rfl
theorem k172_129 : CD 172 129 = o_icne 141 132 := rfl
theorem k172_132 : CD 172 132 = o_ald 0 133 := rfl
theorem k172_133 : CD 172 133 = o_ild 1 134 := rfl
theorem k172_134 : CD 172 134 = o_ild 3 135 := rfl
theorem k172_135 : CD 172 135 = o_ild 6 137 := rfl
theorem k172_137 : CD 172 137 = o_ior 138 := rfl
theorem k172_138 : CD 172 138 = o_inv 10 171 2 141 := rfl
theorem k172_141 : CD 172 141 = o_ild 5 143 := rfl
theorem k172_143 : CD 172 143 = o_ald 0 144 := rfl
theorem k172_144 : CD 172 144 = o_ild 1 145 := rfl
theorem k172_145 : CD 172 145 = o_push (vi 1) 146 := rfl
theorem k172_146 : CD 172 146 = o_push (vi 0) 147 := rfl
theorem k172_147 : CD 172 147 = o_inv 10 167 3 150 := rfl
theorem k172_150 : CD 172 150 = o_iadd 151 := rfl
theorem k172_151 : CD 172 151 = o_ist 7 153 := rfl
theorem k172_153 : CD 172 153 = o_ild 7 155 := rfl
theorem k172_155 : CD 172 155 = o_ald 0 156 := rfl
theorem k172_156 : CD 172 156 = o_ild 1 157 := rfl
theorem k172_157 : CD 172 157 = o_inv 10 166 1 160 := rfl
theorem k172_160 : CD 172 160 = o_push (vi 2) 161 := rfl
theorem k172_161 : CD 172 161 = o_icle 174 164 := rfl
theorem k172_164 : CD 172 164 = o_ald 0 165 := rfl
theorem k172_165 : CD 172 165 = o_ild 1 166 := rfl
theorem k172_166 : CD 172 166 = o_push (vi 2) 167 := rfl
theorem k172_167 : CD 172 167 = o_push (vi 4) 168 := rfl
theorem k172_168 : CD 172 168 = o_inv 10 167 3 171 := rfl
theorem k172_171 : CD 172 171 = o_goto 175 := rfl
theorem k172_174 : CD 172 174 = o_push (vi 0) 175 := rfl
theorem k172_175 : CD 172 175 = o_iadd 176 := rfl
theorem k172_176 : CD 172 176 = o_ist 8 178 := rfl
theorem k172_178 : CD 172 178 = o_ild 6 180 := rfl
theorem k172_180 : CD 172 180 = o_ifeq 240 183 := rfl
theorem k172_183 : CD 172 183 = o_ald 0 184 := rfl
theorem k172_184 : CD 172 184 = o_ild 1 185 := rfl
theorem k172_185 : CD 172 185 = o_inv 10 166 1 188 := rfl
theorem k172_188 : CD 172 188 = o_push (vi 2) 189 := rfl
theorem k172_189 : CD 172 189 = o_icle 240 192 := rfl
theorem k172_192 : CD 172 192 = o_ild 8 194 := rfl
theorem k172_194 : CD 172 194 = o_ild 7 196 := rfl
theorem k172_196 : CD 172 196 = o_ald 0 197 := rfl
theorem k172_197 : CD 172 197 = o_ild 1 198 := rfl
theorem k172_198 : CD 172 198 = o_push (vi 2) 199 := rfl
theorem k172_199 : CD 172 199 = o_push (vi 5) 200 := rfl
theorem k172_200 : CD 172 200 = o_inv 10 167 3 203 := rfl
theorem k172_203 : CD 172 203 = o_iadd 204 := rfl
theorem k172_204 : CD 172 204 = o_icgt 240 207 := rfl
theorem k172_207 : CD 172 207 = o_ald 0 208 := rfl
theorem k172_208 : CD 172 208 = o_ild 1 209 := rfl
theorem k172_209 : CD 172 209 = o_push (vi 2) 210 := rfl
theorem k172_210 : CD 172 210 = o_ild 8 212 := rfl
theorem k172_212 : CD 172 212 = o_inv 10 170 3 215 := rfl
theorem k172_215 : CD 172 215 = o_ist 9 217 := rfl
theorem k172_217 : CD 172 217 = o_ild 9 219 := rfl
theorem k172_219 : CD 172 219 = o_ifeq 234 222 := rfl
theorem k172_222 : CD 172 222 = o_ald 0 223 := rfl
theorem k172_223 : CD 172 223 = o_ild 1 224 := rfl
theorem k172_224 : CD 172 224 = o_ild 3 225 := rfl
theorem k172_225 : CD 172 225 = o_ild 6 227 := rfl
theorem k172_227 : CD 172 227 = o_ior 228 := rfl
theorem k172_228 : CD 172 228 = o_ild 9 230 := rfl
theorem k172_230 : CD 172 230 = o_ior 231 := rfl
theorem k172_231 : CD 172 231 = o_inv 10 171 2 234 := rfl
theorem k172_234 : CD 172 234 = o_iinc 8 1 237 := rfl
theorem k172_237 : CD 172 237 = o_goto 178 := rfl
theorem k172_240 : CD 172 240 = o_iinc 5 1 243 := rfl
theorem k172_243 : CD 172 243 = o_goto 80 := rfl
theorem k172_246 : CD 172 246 = o_iinc 2 1 249 := rfl
theorem k172_249 : CD 172 249 = o_goto 9 := rfl
theorem k172_252 : CD 172 252 = o_vret := rfl
theorem k173_0 : CD 173 0 = o_ald 0 1 := rfl
theorem k173_1 : CD 173 1 = o_ild 1 2 := rfl
theorem k173_2 : CD 173 2 = o_inv 10 139 1 5 := rfl
theorem k173_5 : CD 173 5 = o_ifne 11 8 := rfl
theorem k173_8 : CD 173 8 = o_push (vi (-2)) 10 := rfl
theorem k173_10 : CD 173 10 = o_iret := rfl
theorem k173_11 : CD 173 11 = o_ald 0 12 := rfl
theorem k173_12 : CD 173 12 = o_ild 1 13 := rfl
theorem k173_13 : CD 173 13 = o_inv 10 172 1 16 := rfl
theorem k173_16 : CD 173 16 = o_ald 0 17 := rfl
theorem k173_17 : CD 173 17 = o_getR 10 23 20 := rfl
theorem k173_20 : CD 173 20 = o_ild 1 21 := rfl
theorem k173_21 : CD 173 21 = o_iald 22 := rfl
theorem k173_22 : CD 173 22 = o_iret := rfl
theorem k174_0 : CD 174 0 = o_ald 0 1 := rfl
theorem k174_1 : CD 174 1 = o_ild 1 2 := rfl
theorem k174_2 : CD 174 2 = o_inv 10 139 1 5 := rfl
theorem k174_5 : CD 174 5 = o_ifne 11 8 := rfl
theorem k174_8 : CD 174 8 = o_push (vi (-2)) 10 := rfl
theorem k174_10 : CD 174 10 = o_iret := rfl
theorem k174_11 : CD 174 11 = o_ald 0 12 := rfl
theorem k174_12 : CD 174 12 = o_ild 1 13 := rfl
theorem k174_13 : CD 174 13 = o_inv 10 172 1 16 := rfl
theorem k174_16 : CD 174 16 = o_ild 2 17 := rfl
theorem k174_17 : CD 174 17 = o_push (vi 0) 18 := rfl
theorem k174_18 : CD 174 18 = o_ald 0 19 := rfl
theorem k174_19 : CD 174 19 = o_getR 10 23 22 := rfl
theorem k174_22 : CD 174 22 = o_ild 1 23 := rfl
theorem k174_23 : CD 174 23 = o_iald 24 := rfl
theorem k174_24 : CD 174 24 = o_push (vi 1) 25 := rfl
theorem k174_25 : CD 174 25 = o_isub 26 := rfl
theorem k174_26 : CD 174 26 = o_sta 136 3 29 := rfl
theorem k174_29 : CD 174 29 = o_ifeq 47 32 := rfl
theorem k174_32 : CD 174 32 = o_ald 0 33 := rfl
theorem k174_33 : CD 174 33 = o_getR 10 24 36 := rfl
theorem k174_36 : CD 174 36 = o_push (vi 200) 39 := rfl
theorem k174_39 : CD 174 39 = o_ild 1 40 := rfl
theorem k174_40 : CD 174 40 = o_imul 41 := rfl
theorem k174_41 : CD 174 41 = o_ild 2 42 := rfl
theorem k174_42 : CD 174 42 = o_iadd 43 := rfl
theorem k174_43 : CD 174 43 = o_iald 44 := rfl
theorem k174_44 : CD 174 44 = o_goto 49 := rfl
theorem k174_47 : CD 174 47 = o_push (vi (-3)) 49 := rfl
theorem k174_49 : CD 174 49 = o_iret := rfl
theorem k175_0 : CD 175 0 = o_ald 0 1 := rfl
theorem k175_1 : CD 175 1 = o_getR 10 22 4 := rfl
theorem k175_4 : CD 175 4 = o_push (vi 23) 6 := rfl
theorem k175_6 : CD 175 6 = o_ild 1 7 := rfl
theorem k175_7 : CD 175 7 = o_imul 8 := rfl
theorem k175_8 : CD 175 8 = o_push (vi 1) 9 := rfl
theorem k175_9 : CD 175 9 = o_iadd 10 := rfl
theorem k175_10 : CD 175 10 = o_iald 11 := rfl
theorem k175_11 : CD 175 11 = o_ild 4 13 := rfl
theorem k175_13 : CD 175 13 = o_icne 31 16 := rfl
theorem k175_16 : CD 175 16 = o_ald 0 17 := rfl
theorem k175_17 : CD 175 17 = o_getR 10 24 20 := rfl
theorem k175_20 : CD 175 20 = o_push (vi 200) 23 := rfl
theorem k175_23 : CD 175 23 = o_ild 1 24 := rfl
theorem k175_24 : CD 175 24 = o_imul 25 := rfl
theorem k175_25 : CD 175 25 = o_ild 2 26 := rfl
theorem k175_26 : CD 175 26 = o_iadd 27 := rfl
theorem k175_27 : CD 175 27 = o_iald 28 := rfl
theorem k175_28 : CD 175 28 = o_goto 43 := rfl
theorem k175_31 : CD 175 31 = o_ald 0 32 := rfl
theorem k175_32 : CD 175 32 = o_getR 10 25 35 := rfl
theorem k175_35 : CD 175 35 = o_push (vi 200) 38 := rfl
theorem k175_38 : CD 175 38 = o_ild 1 39 := rfl
theorem k175_39 : CD 175 39 = o_imul 40 := rfl
theorem k175_40 : CD 175 40 = o_ild 2 41 := rfl
theorem k175_41 : CD 175 41 = o_iadd 42 := rfl
theorem k175_42 : CD 175 42 = o_iald 43 := rfl
theorem k175_43 : CD 175 43 = o_ild 3 44 := rfl
theorem k175_44 : CD 175 44 = o_iand 45 := rfl
theorem k175_45 : CD 175 45 = o_ifne 52 48 := rfl
theorem k175_48 : CD 175 48 = o_push (vi 1) 49 := rfl
theorem k175_49 : CD 175 49 = o_goto 53 := rfl
theorem k175_52 : CD 175 52 = o_push (vi 0) 53 := rfl
theorem k175_53 : CD 175 53 = o_zret := rfl
theorem k176_0 : CD 176 0 = o_ald 0 1 := rfl
theorem k176_1 : CD 176 1 = o_getR 10 26 4 := rfl
theorem k176_4 : CD 176 4 = o_push (vi 200) 7 := rfl
theorem k176_7 : CD 176 7 = o_ild 1 8 := rfl
theorem k176_8 : CD 176 8 = o_imul 9 := rfl
theorem k176_9 : CD 176 9 = o_ild 2 10 := rfl
theorem k176_10 : CD 176 10 = o_iadd 11 := rfl
theorem k176_11 : CD 176 11 = o_bald 12 := rfl
theorem k176_12 : CD 176 12 = o_ifne 19 15 := rfl
theorem k176_15 : CD 176 15 = o_push (vi 1) 16 := rfl
theorem k176_16 : CD 176 16 = o_goto 20 := rfl
theorem k176_19 : CD 176 19 = o_push (vi 0) 20 := rfl
theorem k176_20 : CD 176 20 = o_ist 3 21 := rfl
theorem k176_21 : CD 176 21 = o_push (vi 0) 22 := rfl
theorem k176_22 : CD 176 22 = o_ist 4 24 := rfl
theorem k176_24 : CD 176 24 = o_ild 4 26 := rfl
theorem k176_26 : CD 176 26 = o_ild 1 27 := rfl
theorem k176_27 : CD 176 27 = o_icge 103 30 := rfl
theorem k176_30 : CD 176 30 = o_ild 3 31 := rfl
theorem k176_31 : CD 176 31 = o_ifeq 103 34 := rfl
theorem k176_34 : CD 176 34 = o_ald 0 35 := rfl
theorem k176_35 : CD 176 35 = o_getR 10 29 38 := rfl
theorem k176_38 : CD 176 38 = o_ild 4 40 := rfl
theorem k176_40 : CD 176 40 = o_iald 41 := rfl
theorem k176_41 : CD 176 41 = o_ald 0 42 := rfl
theorem k176_42 : CD 176 42 = o_getR 10 23 45 := rfl
theorem k176_45 : CD 176 45 = o_ild 4 47 := rfl
theorem k176_47 : CD 176 47 = o_iald 48 := rfl
theorem k176_48 : CD 176 48 = o_icge 91 51 := rfl
theorem k176_51 : CD 176 51 = o_ald 0 52 := rfl
theorem k176_52 : CD 176 52 = o_ild 1 53 := rfl
theorem k176_53 : CD 176 53 = o_ild 2 54 := rfl
theorem k176_54 : CD 176 54 = o_ald 0 55 := rfl
theorem k176_55 : CD 176 55 = o_getR 10 24 58 := rfl
theorem k176_58 : CD 176 58 = o_push (vi 200) 61 := rfl
theorem k176_61 : CD 176 61 = o_ild 4 63 := rfl
theorem k176_63 : CD 176 63 = o_imul 64 := rfl
theorem k176_64 : CD 176 64 = o_ald 0 65 := rfl
theorem k176_65 : CD 176 65 = o_getR 10 29 68 := rfl
theorem k176_68 : CD 176 68 = o_ild 4 70 := rfl
theorem k176_70 : CD 176 70 = o_iald 71 := rfl
theorem k176_71 : CD 176 71 = o_iadd 72 := rfl
theorem k176_72 : CD 176 72 = o_iald 73 := rfl
theorem k176_73 : CD 176 73 = o_ald 0 74 := rfl
theorem k176_74 : CD 176 74 = o_getR 10 22 77 := rfl
theorem k176_77 : CD 176 77 = o_push (vi 23) 79 := rfl
theorem k176_79 : CD 176 79 = o_ild 4 81 := rfl
theorem k176_81 : CD 176 81 = o_imul 82 := rfl
theorem k176_82 : CD 176 82 = o_push (vi 1) 83 := rfl
theorem k176_83 : CD 176 83 = o_iadd 84 := rfl
theorem k176_84 : CD 176 84 = o_iald 85 := rfl
theorem k176_85 : CD 176 85 = o_inv 10 175 4 88 := rfl
theorem k176_88 : CD 176 88 = o_ifeq 95 91 := rfl
theorem k176_91 : CD 176 91 = o_push (vi 1) 92 := rfl
theorem k176_92 : CD 176 92 = o_goto 96 := rfl
theorem k176_95 : CD 176 95 = o_push (vi 0) 96 := rfl
theorem k176_96 : CD 176 96 = o_ist 3 97 := rfl
theorem k176_97 : CD 176 97 = o_iinc 4 1 100 := rfl
theorem k176_100 : CD 176 100 = o_goto 24 := rfl
theorem k176_103 : CD 176 103 = o_ild 3 104 := rfl
theorem k176_104 : CD 176 104 = o_zret := rfl
theorem k177_0 : CD 177 0 = o_push (vi 0) 1 := rfl
theorem k177_1 : CD 177 1 = o_ist 1 2 := rfl
theorem k177_2 : CD 177 2 = o_ild 1 3 := rfl
theorem k177_3 : CD 177 3 = o_ald 0 4 := rfl
theorem k177_4 : CD 177 4 = o_getI 10 21 7 := rfl
theorem k177_7 : CD 177 7 = o_icge 52 10 := rfl
theorem k177_10 : CD 177 10 = o_ald 0 11 := rfl
theorem k177_11 : CD 177 11 = o_ild 1 12 := rfl
theorem k177_12 : CD 177 12 = o_inv 10 172 1 15 := rfl
theorem k177_15 : CD 177 15 = o_push (vi 0) 16 := rfl
theorem k177_16 : CD 177 16 = o_ist 2 17 := rfl
theorem k177_17 : CD 177 17 = o_ild 2 18 := rfl
theorem k177_18 : CD 177 18 = o_ald 0 19 := rfl
theorem k177_19 : CD 177 19 = o_getR 10 23 22 := rfl
theorem k177_22 : CD 177 22 = o_ild 1 23 := rfl
theorem k177_23 : CD 177 23 = o_iald 24 := rfl
theorem k177_24 : CD 177 24 = o_icge 46 27 := rfl
theorem k177_27 : CD 177 27 = o_ald 0 28 := rfl
theorem k177_28 : CD 177 28 = o_getR 10 26 31 := rfl
theorem k177_31 : CD 177 31 = o_push (vi 200) 34 := rfl
theorem k177_34 : CD 177 34 = o_ild 1 35 := rfl
theorem k177_35 : CD 177 35 = o_imul 36 := rfl
theorem k177_36 : CD 177 36 = o_ild 2 37 := rfl
theorem k177_37 : CD 177 37 = o_iadd 38 := rfl
theorem k177_38 : CD 177 38 = o_push (vi 0) 39 := rfl
theorem k177_39 : CD 177 39 = o_bast 40 := rfl
theorem k177_40 : CD 177 40 = o_iinc 2 1 43 := rfl
theorem k177_43 : CD 177 43 = o_goto 17 := rfl
theorem k177_46 : CD 177 46 = o_iinc 1 1 49 := rfl
theorem k177_49 : CD 177 49 = o_goto 2 := rfl
theorem k177_52 : CD 177 52 = o_vret := rfl
theorem k178_0 : CD 178 0 = o_push (vi 0) 1 := rfl
theorem k178_1 : CD 178 1 = o_ist 1 2 := rfl
theorem k178_2 : CD 178 2 = o_push (vi 0) 3 := rfl
theorem k178_3 : CD 178 3 = o_ist 2 4 := rfl
theorem k178_4 : CD 178 4 = o_push (vi 0) 5 := rfl
theorem k178_5 : CD 178 5 = o_ist 3 6 := rfl
theorem k178_6 : CD 178 6 = o_ild 3 7 := rfl
theorem k178_7 : CD 178 7 = o_ald 0 8 := rfl
theorem k178_8 : CD 178 8 = o_getI 10 21 11 := rfl
theorem k178_11 : CD 178 11 = o_icge 50 14 := rfl
theorem k178_14 : CD 178 14 = o_ald 0 15 := rfl
theorem k178_15 : CD 178 15 = o_getR 10 29 18 := rfl
theorem k178_18 : CD 178 18 = o_ild 3 19 := rfl
theorem k178_19 : CD 178 19 = o_push (vi (-1)) 20 := rfl
theorem k178_20 : CD 178 20 = o_iast 21 := rfl
theorem k178_21 : CD 178 21 = o_ald 0 22 := rfl
theorem k178_22 : CD 178 22 = o_getR 10 30 25 := rfl
theorem k178_25 : CD 178 25 = o_ild 3 26 := rfl
theorem k178_26 : CD 178 26 = o_push (vi (-1)) 27 := rfl
theorem k178_27 : CD 178 27 = o_iast 28 := rfl
theorem k178_28 : CD 178 28 = o_ild 1 29 := rfl
theorem k178_29 : CD 178 29 = o_ald 0 30 := rfl
theorem k178_30 : CD 178 30 = o_ild 3 31 := rfl
theorem k178_31 : CD 178 31 = o_inv 10 165 1 34 := rfl
theorem k178_34 : CD 178 34 = o_iadd 35 := rfl
theorem k178_35 : CD 178 35 = o_ist 1 36 := rfl
theorem k178_36 : CD 178 36 = o_ild 2 37 := rfl
theorem k178_37 : CD 178 37 = o_ald 0 38 := rfl
theorem k178_38 : CD 178 38 = o_ild 3 39 := rfl
theorem k178_39 : CD 178 39 = o_inv 10 179 1 42 := rfl
theorem k178_42 : CD 178 42 = o_iadd 43 := rfl
theorem k178_43 : CD 178 43 = o_ist 2 44 := rfl
theorem k178_44 : CD 178 44 = o_iinc 3 1 47 := rfl
theorem k178_47 : CD 178 47 = o_goto 6 := rfl
theorem k178_50 : CD 178 50 = o_ald 0 51 := rfl
theorem k178_51 : CD 178 51 = o_push (vi (-1)) 52 := rfl
theorem k178_52 : CD 178 52 = o_putI 10 27 55 := rfl
theorem k178_55 : CD 178 55 = o_ald 0 56 := rfl
theorem k178_56 : CD 178 56 = o_push (vi 0) 57 := rfl
theorem k178_57 : CD 178 57 = o_putI 10 28 60 := rfl
theorem k178_60 : CD 178 60 = o_push (vi 0) 61 := rfl
theorem k178_61 : CD 178 61 = o_ist 3 62 := rfl
theorem k178_62 : CD 178 62 = o_push (vi 0) 63 := rfl
theorem k178_63 : CD 178 63 = o_ist 4 65 := rfl
theorem k178_65 : CD 178 65 = o_push (vi 0) 66 := rfl
theorem k178_66 : CD 178 66 = o_ist 5 68 := rfl
theorem k178_68 : CD 178 68 = o_ild 5 70 := rfl
theorem k178_70 : CD 178 70 = o_iflt 584 73 := rfl
theorem k178_73 : CD 178 73 = o_ild 5 75 := rfl
theorem k178_75 : CD 178 75 = o_ald 0 76 := rfl
theorem k178_76 : CD 178 76 = o_getI 10 21 79 := rfl
theorem k178_79 : CD 178 79 = o_icne 86 82 := rfl
theorem k178_82 : CD 178 82 = o_push (vi 1) 83 := rfl
theorem k178_83 : CD 178 83 = o_goto 87 := rfl
theorem k178_86 : CD 178 86 = o_push (vi 0) 87 := rfl
theorem k178_87 : CD 178 87 = o_ist 6 89 := rfl
theorem k178_89 : CD 178 89 = o_ild 6 91 := rfl
theorem k178_91 : CD 178 91 = o_ifeq 186 94 := rfl
theorem k178_94 : CD 178 94 = o_ild 3 95 := rfl
theorem k178_95 : CD 178 95 = o_ald 0 96 := rfl
theorem k178_96 : CD 178 96 = o_getI 10 27 99 := rfl
theorem k178_99 : CD 178 99 = o_icgt 119 102 := rfl
theorem k178_102 : CD 178 102 = o_ild 3 103 := rfl
theorem k178_103 : CD 178 103 = o_ald 0 104 := rfl
theorem k178_104 : CD 178 104 = o_getI 10 27 107 := rfl
theorem k178_107 : CD 178 107 = o_icne 566 110 := rfl
theorem k178_110 : CD 178 110 = o_ild 4 112 := rfl
theorem k178_112 : CD 178 112 = o_ald 0 113 := rfl
theorem k178_113 : CD 178 113 = o_getI 10 28 116 := rfl
theorem k178_116 : CD 178 116 = o_icge 566 119 := rfl
theorem k178_119 : CD 178 119 = o_ald 0 120 := rfl
theorem k178_120 : CD 178 120 = o_ild 3 121 := rfl
theorem k178_121 : CD 178 121 = o_putI 10 27 124 := rfl
theorem k178_124 : CD 178 124 = o_ald 0 125 := rfl
theorem k178_125 : CD 178 125 = o_ild 4 127 := rfl
theorem k178_127 : CD 178 127 = o_putI 10 28 130 := rfl
theorem k178_130 : CD 178 130 = o_push (vi 0) 131 := rfl
theorem k178_131 : CD 178 131 = o_ist 7 133 := rfl
theorem k178_133 : CD 178 133 = o_ild 7 135 := rfl
theorem k178_135 : CD 178 135 = o_ald 0 136 := rfl
theorem k178_136 : CD 178 136 = o_getI 10 21 139 := rfl
theorem k178_139 : CD 178 139 = o_icge 183 142 := rfl
theorem k178_142 : CD 178 142 = o_ald 0 143 := rfl
theorem k178_143 : CD 178 143 = o_getR 10 30 146 := rfl
theorem k178_146 : CD 178 146 = o_ild 7 148 := rfl
theorem k178_148 : CD 178 148 = o_ald 0 149 := rfl
theorem k178_149 : CD 178 149 = o_getR 10 29 152 := rfl
theorem k178_152 : CD 178 152 = o_ild 7 154 := rfl
theorem k178_154 : CD 178 154 = o_iald 155 := rfl
theorem k178_155 : CD 178 155 = o_ald 0 156 := rfl
theorem k178_156 : CD 178 156 = o_getR 10 23 159 := rfl
theorem k178_159 : CD 178 159 = o_ild 7 161 := rfl
theorem k178_161 : CD 178 161 = o_iald 162 := rfl
theorem k178_162 : CD 178 162 = o_icge 175 165 := rfl
theorem k178_165 : CD 178 165 = o_ald 0 166 := rfl
theorem k178_166 : CD 178 166 = o_getR 10 29 169 := rfl
theorem k178_169 : CD 178 169 = o_ild 7 171 := rfl
theorem k178_171 : CD 178 171 = o_iald 172 := rfl
theorem k178_172 : CD 178 172 = o_goto 176 := rfl
theorem k178_175 : CD 178 175 = o_push (vi (-1)) 176 := rfl
theorem k178_176 : CD 178 176 = o_iast 177 := rfl
theorem k178_177 : CD 178 177 = o_iinc 7 1 180 := rfl
theorem k178_180 : CD 178 180 = o_goto 133 := rfl
theorem k178_183 : CD 178 183 = o_goto 566 := rfl
theorem k178_186 : CD 178 186 = o_ald 0 187 := rfl
theorem k178_187 : CD 178 187 = o_getR 10 29 190 := rfl
theorem k178_190 : CD 178 190 = o_ild 5 192 := rfl
theorem k178_192 : CD 178 192 = o_iald 193 := rfl
theorem k178_193 : CD 178 193 = o_ist 7 195 := rfl
theorem k178_195 : CD 178 195 = o_ild 7 197 := rfl
theorem k178_197 : CD 178 197 = o_push (vi (-1)) 198 := rfl
theorem k178_198 : CD 178 198 = o_icne 222 201 := rfl
theorem k178_201 : CD 178 201 = o_ild 1 202 := rfl
theorem k178_202 : CD 178 202 = o_ald 0 203 := rfl
theorem k178_203 : CD 178 203 = o_ild 5 205 := rfl
theorem k178_205 : CD 178 205 = o_inv 10 165 1 208 := rfl
theorem k178_208 : CD 178 208 = o_isub 209 := rfl
theorem k178_209 : CD 178 209 = o_ist 1 210 := rfl
theorem k178_210 : CD 178 210 = o_ild 2 211 := rfl
theorem k178_211 : CD 178 211 = o_ald 0 212 := rfl
theorem k178_212 : CD 178 212 = o_ild 5 214 := rfl
theorem k178_214 : CD 178 214 = o_inv 10 179 1 217 := rfl
theorem k178_217 : CD 178 217 = o_isub 218 := rfl
theorem k178_218 : CD 178 218 = o_ist 2 219 := rfl
theorem k178_219 : CD 178 219 = o_goto 254 := rfl
theorem k178_222 : CD 178 222 = o_ild 7 224 := rfl
theorem k178_224 : CD 178 224 = o_ald 0 225 := rfl
theorem k178_225 : CD 178 225 = o_getR 10 23 228 := rfl
theorem k178_228 : CD 178 228 = o_ild 5 230 := rfl
theorem k178_230 : CD 178 230 = o_iald 231 := rfl
theorem k178_231 : CD 178 231 = o_icge 254 234 := rfl
theorem k178_234 : CD 178 234 = o_ild 3 235 := rfl
theorem k178_235 : CD 178 235 = o_ald 0 236 := rfl
theorem k178_236 : CD 178 236 = o_ild 5 238 := rfl
theorem k178_238 : CD 178 238 = o_inv 10 165 1 241 := rfl
theorem k178_241 : CD 178 241 = o_isub 242 := rfl
theorem k178_242 : CD 178 242 = o_ist 3 243 := rfl
theorem k178_243 : CD 178 243 = o_ild 4 245 := rfl
theorem k178_245 : CD 178 245 = o_ald 0 246 := rfl
theorem k178_246 : CD 178 246 = o_ild 5 248 := rfl
theorem k178_248 : CD 178 248 = o_inv 10 179 1 251 := rfl
theorem k178_251 : CD 178 251 = o_isub 252 := rfl
theorem k178_252 : CD 178 252 = o_ist 4 254 := rfl
theorem k178_254 : CD 178 254 = o_ild 7 256 := rfl
theorem k178_256 : CD 178 256 = o_push (vi 1) 257 := rfl
theorem k178_257 : CD 178 257 = o_iadd 258 := rfl
theorem k178_258 : CD 178 258 = o_ist 8 260 := rfl
theorem k178_260 : CD 178 260 = o_ild 3 261 := rfl
theorem k178_261 : CD 178 261 = o_ald 0 262 := rfl
theorem k178_262 : CD 178 262 = o_ild 5 264 := rfl
theorem k178_264 : CD 178 264 = o_inv 10 165 1 267 := rfl
theorem k178_267 : CD 178 267 = o_iadd 268 := rfl
theorem k178_268 : CD 178 268 = o_ild 1 269 := rfl
theorem k178_269 : CD 178 269 = o_iadd 270 := rfl
theorem k178_270 : CD 178 270 = o_ald 0 271 := rfl
theorem k178_271 : CD 178 271 = o_getI 10 27 274 := rfl
theorem k178_274 : CD 178 274 = o_iclt 319 277 := rfl
theorem k178_277 : CD 178 277 = o_ild 3 278 := rfl
theorem k178_278 : CD 178 278 = o_ald 0 279 := rfl
theorem k178_279 : CD 178 279 = o_ild 5 281 := rfl
theorem k178_281 : CD 178 281 = o_inv 10 165 1 284 := rfl
theorem k178_284 : CD 178 284 = o_iadd 285 := rfl
theorem k178_285 : CD 178 285 = o_ild 1 286 := rfl
theorem k178_286 : CD 178 286 = o_iadd 287 := rfl
theorem k178_287 : CD 178 287 = o_ald 0 288 := rfl
theorem k178_288 : CD 178 288 = o_getI 10 27 291 := rfl
theorem k178_291 : CD 178 291 = o_icne 323 294 := rfl
theorem k178_294 : CD 178 294 = o_ild 4 296 := rfl
theorem k178_296 : CD 178 296 = o_ald 0 297 := rfl
theorem k178_297 : CD 178 297 = o_ild 5 299 := rfl
theorem k178_299 : CD 178 299 = o_inv 10 179 1 302 := rfl
theorem k178_302 : CD 178 302 = o_iadd 303 := rfl
theorem k178_303 : CD 178 303 = o_ild 2 304 := rfl
theorem k178_304 : CD 178 304 = o_iadd 305 := rfl
theorem k178_305 : CD 178 305 = o_ald 0 306 := rfl
theorem k178_306 : CD 178 306 = o_getI 10 28 309 := rfl
theorem k178_309 : CD 178 309 = o_iclt 323 312 := rfl
theorem k178_312 : CD 178 312 = o_ald 0 313 := rfl
theorem k178_313 : CD 178 313 = o_getI 10 27 316 := rfl
theorem k178_316 : CD 178 316 = o_iflt 323 319 := rfl
theorem k178_319 : CD 178 319 = o_push (vi 1) 320 := rfl
theorem k178_320 : CD 178 320 = o_goto 324 := rfl
theorem k178_323 : CD 178 323 = o_push (vi 0) 324 := rfl
theorem k178_324 : CD 178 324 = o_ist 9 326 := rfl
theorem k178_326 : CD 178 326 = o_ild 3 327 := rfl
theorem k178_327 : CD 178 327 = o_ild 1 328 := rfl
theorem k178_328 : CD 178 328 = o_iadd 329 := rfl
theorem k178_329 : CD 178 329 = o_ald 0 330 := rfl
theorem k178_330 : CD 178 330 = o_getI 10 27 333 := rfl
theorem k178_333 : CD 178 333 = o_iclt 364 336 := rfl
theorem k178_336 : CD 178 336 = o_ild 3 337 := rfl
theorem k178_337 : CD 178 337 = o_ild 1 338 := rfl
theorem k178_338 : CD 178 338 = o_iadd 339 := rfl
theorem k178_339 : CD 178 339 = o_ald 0 340 := rfl
theorem k178_340 : CD 178 340 = o_getI 10 27 343 := rfl
theorem k178_343 : CD 178 343 = o_icne 368 346 := rfl
theorem k178_346 : CD 178 346 = o_ild 4 348 := rfl
theorem k178_348 : CD 178 348 = o_ild 2 349 := rfl
theorem k178_349 : CD 178 349 = o_iadd 350 := rfl
theorem k178_350 : CD 178 350 = o_ald 0 351 := rfl
theorem k178_351 : CD 178 351 = o_getI 10 28 354 := rfl
theorem k178_354 : CD 178 354 = o_iclt 368 357 := rfl
theorem k178_357 : CD 178 357 = o_ald 0 358 := rfl
theorem k178_358 : CD 178 358 = o_getI 10 27 361 := rfl
theorem k178_361 : CD 178 361 = o_iflt 368 364 := rfl
theorem k178_364 : CD 178 364 = o_push (vi 1) 365 := rfl
theorem k178_365 : CD 178 365 = o_goto 369 := rfl
theorem k178_368 : CD 178 368 = o_push (vi 0) 369 := rfl
theorem k178_369 : CD 178 369 = o_ist 10 371 := rfl
theorem k178_371 : CD 178 371 = o_ild 9 373 := rfl
theorem k178_373 : CD 178 373 = o_ifeq 398 376 := rfl
theorem k178_376 : CD 178 376 = o_ild 8 378 := rfl
theorem k178_378 : CD 178 378 = o_ald 0 379 := rfl
theorem k178_379 : CD 178 379 = o_getR 10 23 382 := rfl
theorem k178_382 : CD 178 382 = o_ild 5 384 := rfl
theorem k178_384 : CD 178 384 = o_iald 385 := rfl
theorem k178_385 : CD 178 385 = o_icge 398 388 := rfl
theorem k178_388 : CD 178 388 = o_ald 0 389 := rfl
theorem k178_389 : CD 178 389 = o_getR 10 23 392 := rfl
theorem k178_392 : CD 178 392 = o_ild 5 394 := rfl
theorem k178_394 : CD 178 394 = o_iald 395 := rfl
theorem k178_395 : CD 178 395 = o_goto 400 := rfl
theorem k178_398 : CD 178 398 = o_ild 8 400 := rfl
theorem k178_400 : CD 178 400 = o_ist 8 402 := rfl
theorem k178_402 : CD 178 402 = o_ild 8 404 := rfl
theorem k178_404 : CD 178 404 = o_ald 0 405 := rfl
theorem k178_405 : CD 178 405 = o_getR 10 23 408 := rfl
theorem k178_408 : CD 178 408 = o_ild 5 410 := rfl
theorem k178_410 : CD 178 410 = o_iald 411 := rfl
theorem k178_411 : CD 178 411 = o_icge 431 414 := rfl
theorem k178_414 : CD 178 414 = o_ald 0 415 := rfl
theorem k178_415 : CD 178 415 = o_ild 5 417 := rfl
theorem k178_417 : CD 178 417 = o_ild 8 419 := rfl
theorem k178_419 : CD 178 419 = o_inv 10 176 2 422 := rfl
theorem k178_422 : CD 178 422 = o_ifne 431 425 := rfl
theorem k178_425 : CD 178 425 = o_iinc 8 1 428 := rfl
theorem k178_428 : CD 178 428 = o_goto 402 := rfl
theorem k178_431 : CD 178 431 = o_ild 8 433 := rfl
theorem k178_433 : CD 178 433 = o_ald 0 434 := rfl
theorem k178_434 : CD 178 434 = o_getR 10 23 437 := rfl
theorem k178_437 : CD 178 437 = o_ild 5 439 := rfl
theorem k178_439 : CD 178 439 = o_iald 440 := rfl
theorem k178_440 : CD 178 440 = o_icgt 460 443 := rfl
theorem k178_443 : CD 178 443 = o_ild 8 445 := rfl
theorem k178_445 : CD 178 445 = o_ald 0 446 := rfl
theorem k178_446 : CD 178 446 = o_getR 10 23 449 := rfl
theorem k178_449 : CD 178 449 = o_ild 5 451 := rfl
theorem k178_451 : CD 178 451 = o_iald 452 := rfl
theorem k178_452 : CD 178 452 = o_icne 464 455 := rfl
theorem k178_455 : CD 178 455 = o_ild 10 457 := rfl
theorem k178_457 : CD 178 457 = o_ifeq 464 460 := rfl
theorem k178_460 : CD 178 460 = o_push (vi 1) 461 := rfl
theorem k178_461 : CD 178 461 = o_goto 465 := rfl
theorem k178_464 : CD 178 464 = o_push (vi 0) 465 := rfl
theorem k178_465 : CD 178 465 = o_ist 6 467 := rfl
theorem k178_467 : CD 178 467 = o_ald 0 468 := rfl
theorem k178_468 : CD 178 468 = o_getR 10 29 471 := rfl
theorem k178_471 : CD 178 471 = o_ild 5 473 := rfl
theorem k178_473 : CD 178 473 = o_ild 6 475 := rfl
theorem k178_475 : CD 178 475 = o_ifeq 482 478 := rfl
theorem k178_478 : CD 178 478 = o_push (vi (-1)) 479 := rfl
theorem k178_479 : CD 178 479 = o_goto 484 := rfl
theorem k178_482 : CD 178 482 = o_ild 8 484 := rfl
theorem k178_484 : CD 178 484 = o_iast 485 := rfl
theorem k178_485 : CD 178 485 = o_ild 6 487 := rfl
theorem k178_487 : CD 178 487 = o_ifeq 511 490 := rfl
theorem k178_490 : CD 178 490 = o_ild 1 491 := rfl
theorem k178_491 : CD 178 491 = o_ald 0 492 := rfl
theorem k178_492 : CD 178 492 = o_ild 5 494 := rfl
theorem k178_494 : CD 178 494 = o_inv 10 165 1 497 := rfl
theorem k178_497 : CD 178 497 = o_iadd 498 := rfl
theorem k178_498 : CD 178 498 = o_ist 1 499 := rfl
theorem k178_499 : CD 178 499 = o_ild 2 500 := rfl
theorem k178_500 : CD 178 500 = o_ald 0 501 := rfl
theorem k178_501 : CD 178 501 = o_ild 5 503 := rfl
theorem k178_503 : CD 178 503 = o_inv 10 179 1 506 := rfl
theorem k178_506 : CD 178 506 = o_iadd 507 := rfl
theorem k178_507 : CD 178 507 = o_ist 2 508 := rfl
theorem k178_508 : CD 178 508 = o_goto 566 := rfl
theorem k178_511 : CD 178 511 = o_ild 3 512 := rfl
theorem k178_512 : CD 178 512 = o_ild 8 514 := rfl
theorem k178_514 : CD 178 514 = o_ald 0 515 := rfl
theorem k178_515 : CD 178 515 = o_getR 10 23 518 := rfl
theorem k178_518 : CD 178 518 = o_ild 5 520 := rfl
theorem k178_520 : CD 178 520 = o_iald 521 := rfl
theorem k178_521 : CD 178 521 = o_icge 533 524 := rfl
theorem k178_524 : CD 178 524 = o_ald 0 525 := rfl
theorem k178_525 : CD 178 525 = o_ild 5 527 := rfl
theorem k178_527 : CD 178 527 = o_inv 10 165 1 530 := rfl
theorem k178_530 : CD 178 530 = o_goto 534 := rfl
theorem k178_533 : CD 178 533 = o_push (vi 0) 534 := rfl
theorem k178_534 : CD 178 534 = o_iadd 535 := rfl
theorem k178_535 : CD 178 535 = o_ist 3 536 := rfl
theorem k178_536 : CD 178 536 = o_ild 4 538 := rfl
theorem k178_538 : CD 178 538 = o_ild 8 540 := rfl
theorem k178_540 : CD 178 540 = o_ald 0 541 := rfl
theorem k178_541 : CD 178 541 = o_getR 10 23 544 := rfl
theorem k178_544 : CD 178 544 = o_ild 5 546 := rfl
theorem k178_546 : CD 178 546 = o_iald 547 := rfl
theorem k178_547 : CD 178 547 = o_icge 559 550 := rfl
theorem k178_550 : CD 178 550 = o_ald 0 551 := rfl
theorem k178_551 : CD 178 551 = o_ild 5 553 := rfl
theorem k178_553 : CD 178 553 = o_inv 10 179 1 556 := rfl
theorem k178_556 : CD 178 556 = o_goto 560 := rfl
theorem k178_559 : CD 178 559 = o_push (vi 0) 560 := rfl
theorem k178_560 : CD 178 560 = o_iadd 561 := rfl
theorem k178_561 : CD 178 561 = o_ist 4 563 := rfl
theorem k178_563 : CD 178 563 = o_iinc 5 1 566 := rfl
theorem k178_566 : CD 178 566 = o_ild 5 568 := rfl
theorem k178_568 : CD 178 568 = o_ild 6 570 := rfl
theorem k178_570 : CD 178 570 = o_ifeq 577 573 := rfl
theorem k178_573 : CD 178 573 = o_push (vi 1) 574 := rfl
theorem k178_574 : CD 178 574 = o_goto 578 := rfl
theorem k178_577 : CD 178 577 = o_push (vi 0) 578 := rfl
theorem k178_578 : CD 178 578 = o_isub 579 := rfl
theorem k178_579 : CD 178 579 = o_ist 5 581 := rfl
theorem k178_581 : CD 178 581 = o_goto 68 := rfl
theorem k178_584 : CD 178 584 = o_vret := rfl
theorem k179_0 : CD 179 0 = o_push (vi 0) 1 := rfl
theorem k179_1 : CD 179 1 = o_ist 2 2 := rfl
theorem k179_2 : CD 179 2 = o_push (vi 0) 3 := rfl
theorem k179_3 : CD 179 3 = o_ist 3 4 := rfl
theorem k179_4 : CD 179 4 = o_ild 3 5 := rfl
theorem k179_5 : CD 179 5 = o_ald 0 6 := rfl
theorem k179_6 : CD 179 6 = o_ild 1 7 := rfl
theorem k179_7 : CD 179 7 = o_inv 10 166 1 10 := rfl
theorem k179_10 : CD 179 10 = o_icge 29 13 := rfl
theorem k179_13 : CD 179 13 = o_ild 2 14 := rfl
theorem k179_14 : CD 179 14 = o_ald 0 15 := rfl
theorem k179_15 : CD 179 15 = o_ild 1 16 := rfl
theorem k179_16 : CD 179 16 = o_ild 3 17 := rfl
theorem k179_17 : CD 179 17 = o_push (vi 0) 18 := rfl
theorem k179_18 : CD 179 18 = o_inv 10 167 3 21 := rfl
theorem k179_21 : CD 179 21 = o_iadd 22 := rfl
theorem k179_22 : CD 179 22 = o_ist 2 23 := rfl
theorem k179_23 : CD 179 23 = o_iinc 3 1 26 := rfl
theorem k179_26 : CD 179 26 = o_goto 4 := rfl
theorem k179_29 : CD 179 29 = o_ild 2 30 := rfl
theorem k179_30 : CD 179 30 = o_iret := rfl
theorem k180_0 : CD 180 0 = o_push (vi 0) 1 := rfl
theorem k180_1 : CD 180 1 = o_ist 1 2 := rfl
theorem k180_2 : CD 180 2 = o_push (vi 0) 3 := rfl
theorem k180_3 : CD 180 3 = o_ist 2 4 := rfl
theorem k180_4 : CD 180 4 = o_ild 2 5 := rfl
theorem k180_5 : CD 180 5 = o_ald 0 6 := rfl
theorem k180_6 : CD 180 6 = o_getI 10 21 9 := rfl
theorem k180_9 : CD 180 9 = o_icge 52 12 := rfl
theorem k180_12 : CD 180 12 = o_ild 1 13 := rfl
theorem k180_13 : CD 180 13 = o_ald 0 14 := rfl
theorem k180_14 : CD 180 14 = o_getR 10 30 17 := rfl
theorem k180_17 : CD 180 17 = o_ild 2 18 := rfl
theorem k180_18 : CD 180 18 = o_iald 19 := rfl
theorem k180_19 : CD 180 19 = o_push (vi (-1)) 20 := rfl
theorem k180_20 : CD 180 20 = o_icne 27 23 := rfl
theorem k180_23 : CD 180 23 = o_push (vi 0) 24 := rfl
theorem k180_24 : CD 180 24 = o_goto 44 := rfl
theorem k180_27 : CD 180 27 = o_ald 0 28 := rfl
theorem k180_28 : CD 180 28 = o_getR 10 24 31 := rfl
theorem k180_31 : CD 180 31 = o_push (vi 200) 34 := rfl
theorem k180_34 : CD 180 34 = o_ild 2 35 := rfl
theorem k180_35 : CD 180 35 = o_imul 36 := rfl
theorem k180_36 : CD 180 36 = o_ald 0 37 := rfl
theorem k180_37 : CD 180 37 = o_getR 10 30 40 := rfl
theorem k180_40 : CD 180 40 = o_ild 2 41 := rfl
theorem k180_41 : CD 180 41 = o_iald 42 := rfl
theorem k180_42 : CD 180 42 = o_iadd 43 := rfl
theorem k180_43 : CD 180 43 = o_iald 44 := rfl
theorem k180_44 : CD 180 44 = o_ior 45 := rfl
theorem k180_45 : CD 180 45 = o_ist 1 46 := rfl
theorem k180_46 : CD 180 46 = o_iinc 2 1 49 := rfl
theorem k180_49 : CD 180 49 = o_goto 4 := rfl
theorem k180_52 : CD 180 52 = o_ild 1 53 := rfl
theorem k180_53 : CD 180 53 = o_iret := rfl
theorem k181_0 : CD 181 0 = o_ild 1 1 := rfl
theorem k181_1 : CD 181 1 = o_push (vi 0) 2 := rfl
theorem k181_2 : CD 181 2 = o_push (vi 1) 3 := rfl
theorem k181_3 : CD 181 3 = o_sta 136 3 6 := rfl
theorem k181_6 : CD 181 6 = o_ifne 12 9 := rfl
theorem k181_9 : CD 181 9 = o_push (vi (-3)) 11 := rfl
theorem k181_11 : CD 181 11 = o_iret := rfl
theorem k181_12 : CD 181 12 = o_ald 0 13 := rfl
theorem k181_13 : CD 181 13 = o_inv 10 177 0 16 := rfl
theorem k181_16 : CD 181 16 = o_ald 0 17 := rfl
theorem k181_17 : CD 181 17 = o_inv 10 178 0 20 := rfl
theorem k181_20 : CD 181 20 = o_ild 1 21 := rfl
theorem k181_21 : CD 181 21 = o_ifne 31 24 := rfl
theorem k181_24 : CD 181 24 = o_ald 0 25 := rfl
theorem k181_25 : CD 181 25 = o_getI 10 27 28 := rfl
theorem k181_28 : CD 181 28 = o_goto 35 := rfl
theorem k181_31 : CD 181 31 = o_ald 0 32 := rfl
theorem k181_32 : CD 181 32 = o_inv 10 180 0 35 := rfl
theorem k181_35 : CD 181 35 = o_iret := rfl
theorem k182_0 : CD 182 0 = o_ald 0 1 := rfl
theorem k182_1 : CD 182 1 = o_ild 1 2 := rfl
theorem k182_2 : CD 182 2 = o_inv 10 139 1 5 := rfl
theorem k182_5 : CD 182 5 = o_ifne 11 8 := rfl
theorem k182_8 : CD 182 8 = o_push (vi (-2)) 10 := rfl
theorem k182_10 : CD 182 10 = o_iret := rfl
theorem k182_11 : CD 182 11 = o_ald 0 12 := rfl
theorem k182_12 : CD 182 12 = o_inv 10 177 0 15 := rfl
theorem k182_15 : CD 182 15 = o_ald 0 16 := rfl
theorem k182_16 : CD 182 16 = o_inv 10 178 0 19 := rfl
theorem k182_19 : CD 182 19 = o_ald 0 20 := rfl
theorem k182_20 : CD 182 20 = o_getR 10 30 23 := rfl
theorem k182_23 : CD 182 23 = o_ild 1 24 := rfl
theorem k182_24 : CD 182 24 = o_iald 25 := rfl
theorem k182_25 : CD 182 25 = o_iret := rfl
theorem k183_0 : CD 183 0 = o_ald 0 1 := rfl
theorem k183_1 : CD 183 1 = o_getR 10 22 4 := rfl
theorem k183_4 : CD 183 4 = o_push (vi 23) 6 := rfl
theorem k183_6 : CD 183 6 = o_ild 1 7 := rfl
theorem k183_7 : CD 183 7 = o_imul 8 := rfl
theorem k183_8 : CD 183 8 = o_push (vi 3) 9 := rfl
theorem k183_9 : CD 183 9 = o_iadd 10 := rfl
theorem k183_10 : CD 183 10 = o_iald 11 := rfl
theorem k183_11 : CD 183 11 = o_ist 3 12 := rfl
theorem k183_12 : CD 183 12 = o_ald 0 13 := rfl
theorem k183_13 : CD 183 13 = o_getR 10 22 16 := rfl
theorem k183_16 : CD 183 16 = o_push (vi 23) 18 := rfl
theorem k183_18 : CD 183 18 = o_ild 1 19 := rfl
theorem k183_19 : CD 183 19 = o_imul 20 := rfl
theorem k183_20 : CD 183 20 = o_push (vi 3) 21 := rfl
theorem k183_21 : CD 183 21 = o_iadd 22 := rfl
theorem k183_22 : CD 183 22 = o_ild 2 23 := rfl
theorem k183_23 : CD 183 23 = o_iast 24 := rfl
theorem k183_24 : CD 183 24 = o_ald 0 25 := rfl
theorem k183_25 : CD 183 25 = o_inv 10 178 0 28 := rfl
theorem k183_28 : CD 183 28 = o_ald 0 29 := rfl
theorem k183_29 : CD 183 29 = o_getR 10 22 32 := rfl
theorem k183_32 : CD 183 32 = o_push (vi 23) 34 := rfl
theorem k183_34 : CD 183 34 = o_ild 1 35 := rfl
theorem k183_35 : CD 183 35 = o_imul 36 := rfl
theorem k183_36 : CD 183 36 = o_push (vi 3) 37 := rfl
theorem k183_37 : CD 183 37 = o_iadd 38 := rfl
theorem k183_38 : CD 183 38 = o_ild 3 39 := rfl
theorem k183_39 : CD 183 39 = o_iast 40 := rfl
theorem k183_40 : CD 183 40 = o_ald 0 41 := rfl
theorem k183_41 : CD 183 41 = o_getR 10 30 44 := rfl
theorem k183_44 : CD 183 44 = o_ild 1 45 := rfl
theorem k183_45 : CD 183 45 = o_iald 46 := rfl
theorem k183_46 : CD 183 46 = o_push (vi (-1)) 47 := rfl
theorem k183_47 : CD 183 47 = o_iceq 54 50 := rfl
theorem k183_50 : CD 183 50 = o_push (vi 1) 51 := rfl
theorem k183_51 : CD 183 51 = o_goto 55 := rfl
theorem k183_54 : CD 183 54 = o_push (vi 0) 55 := rfl
theorem k183_55 : CD 183 55 = o_zret := rfl
theorem k184_0 : CD 184 0 = o_ald 0 1 := rfl
theorem k184_1 : CD 184 1 = o_ild 1 2 := rfl
theorem k184_2 : CD 184 2 = o_inv 10 139 1 5 := rfl
theorem k184_5 : CD 184 5 = o_ifne 11 8 := rfl
theorem k184_8 : CD 184 8 = o_push (vi (-2)) 10 := rfl
theorem k184_10 : CD 184 10 = o_iret := rfl
theorem k184_11 : CD 184 11 = o_ald 0 12 := rfl
theorem k184_12 : CD 184 12 = o_inv 10 177 0 15 := rfl
theorem k184_15 : CD 184 15 = o_ald 0 16 := rfl
theorem k184_16 : CD 184 16 = o_ild 1 17 := rfl
theorem k184_17 : CD 184 17 = o_push (vi 99) 19 := rfl
theorem k184_19 : CD 184 19 = o_inv 10 183 2 22 := rfl
theorem k184_22 : CD 184 22 = o_ifne 27 25 := rfl
theorem k184_25 : CD 184 25 = o_push (vi (-1)) 26 := rfl
theorem k184_26 : CD 184 26 = o_iret := rfl
theorem k184_27 : CD 184 27 = o_push (vi 1) 28 := rfl
theorem k184_28 : CD 184 28 = o_ist 2 29 := rfl
theorem k184_29 : CD 184 29 = o_push (vi 99) 31 := rfl
theorem k184_31 : CD 184 31 = o_ist 3 32 := rfl
theorem k184_32 : CD 184 32 = o_ild 2 33 := rfl
theorem k184_33 : CD 184 33 = o_ild 3 34 := rfl
theorem k184_34 : CD 184 34 = o_icge 68 37 := rfl
theorem k184_37 : CD 184 37 = o_ild 2 38 := rfl
theorem k184_38 : CD 184 38 = o_ild 3 39 := rfl
theorem k184_39 : CD 184 39 = o_iadd 40 := rfl
theorem k184_40 : CD 184 40 = o_push (vi 2) 41 := rfl
theorem k184_41 : CD 184 41 = o_idiv 42 := rfl
theorem k184_42 : CD 184 42 = o_ist 4 44 := rfl
theorem k184_44 : CD 184 44 = o_ald 0 45 := rfl
theorem k184_45 : CD 184 45 = o_ild 1 46 := rfl
theorem k184_46 : CD 184 46 = o_ild 4 48 := rfl
theorem k184_48 : CD 184 48 = o_inv 10 183 2 51 := rfl
theorem k184_51 : CD 184 51 = o_ifeq 60 54 := rfl
theorem k184_54 : CD 184 54 = o_ild 4 56 := rfl
theorem k184_56 : CD 184 56 = o_ist 3 57 := rfl
theorem k184_57 : CD 184 57 = o_goto 65 := rfl
theorem k184_60 : CD 184 60 = o_ild 4 62 := rfl
theorem k184_62 : CD 184 62 = o_push (vi 1) 63 := rfl
theorem k184_63 : CD 184 63 = o_iadd 64 := rfl
theorem k184_64 : CD 184 64 = o_ist 2 65 := rfl
theorem k184_65 : CD 184 65 = o_goto 32 := rfl
theorem k184_68 : CD 184 68 = o_ild 2 69 := rfl
theorem k184_69 : CD 184 69 = o_iret := rfl
theorem k185_0 : CD 185 0 = o_ald 0 1 := rfl
theorem k185_1 : CD 185 1 = o_ild 1 2 := rfl
theorem k185_2 : CD 185 2 = o_inv 10 137 1 5 := rfl
theorem k185_5 : CD 185 5 = o_ifne 11 8 := rfl
theorem k185_8 : CD 185 8 = o_push (vi (-2)) 10 := rfl
theorem k185_10 : CD 185 10 = o_iret := rfl
theorem k185_11 : CD 185 11 = o_ald 0 12 := rfl
theorem k185_12 : CD 185 12 = o_inv 10 177 0 15 := rfl
theorem k185_15 : CD 185 15 = o_ald 0 16 := rfl
theorem k185_16 : CD 185 16 = o_inv 10 178 0 19 := rfl
theorem k185_19 : CD 185 19 = o_ald 0 20 := rfl
theorem k185_20 : CD 185 20 = o_inv 10 180 0 23 := rfl
theorem k185_23 : CD 185 23 = o_ild 1 24 := rfl
theorem k185_24 : CD 185 24 = o_ishr 25 := rfl
theorem k185_25 : CD 185 25 = o_push (vi 1) 26 := rfl
theorem k185_26 : CD 185 26 = o_iand 27 := rfl
theorem k185_27 : CD 185 27 = o_push (vi 1) 28 := rfl
theorem k185_28 : CD 185 28 = o_icne 33 31 := rfl
theorem k185_31 : CD 185 31 = o_push (vi 0) 32 := rfl
theorem k185_32 : CD 185 32 = o_iret := rfl
theorem k185_33 : CD 185 33 = o_push (vi 1) 34 := rfl
theorem k185_34 : CD 185 34 = o_ist 2 35 := rfl
theorem k185_35 : CD 185 35 = o_push (vi 0) 36 := rfl
theorem k185_36 : CD 185 36 = o_ist 3 37 := rfl
theorem k185_37 : CD 185 37 = o_ild 3 38 := rfl
theorem k185_38 : CD 185 38 = o_ald 0 39 := rfl
theorem k185_39 : CD 185 39 = o_getI 10 21 42 := rfl
theorem k185_42 : CD 185 42 = o_icge 207 45 := rfl
theorem k185_45 : CD 185 45 = o_push (vi 0) 46 := rfl
theorem k185_46 : CD 185 46 = o_ist 4 48 := rfl
theorem k185_48 : CD 185 48 = o_ild 4 50 := rfl
theorem k185_50 : CD 185 50 = o_ald 0 51 := rfl
theorem k185_51 : CD 185 51 = o_getR 10 23 54 := rfl
theorem k185_54 : CD 185 54 = o_ild 3 55 := rfl
theorem k185_55 : CD 185 55 = o_iald 56 := rfl
theorem k185_56 : CD 185 56 = o_icge 201 59 := rfl
theorem k185_59 : CD 185 59 = o_ald 0 60 := rfl
theorem k185_60 : CD 185 60 = o_getR 10 30 63 := rfl
theorem k185_63 : CD 185 63 = o_ild 3 64 := rfl
theorem k185_64 : CD 185 64 = o_iald 65 := rfl
theorem k185_65 : CD 185 65 = o_push (vi (-1)) 66 := rfl
theorem k185_66 : CD 185 66 = o_icne 201 69 := rfl
theorem k185_69 : CD 185 69 = o_ald 0 70 := rfl
theorem k185_70 : CD 185 70 = o_getR 10 24 73 := rfl
theorem k185_73 : CD 185 73 = o_push (vi 200) 76 := rfl
theorem k185_76 : CD 185 76 = o_ild 3 77 := rfl
theorem k185_77 : CD 185 77 = o_imul 78 := rfl
theorem k185_78 : CD 185 78 = o_ild 4 80 := rfl
theorem k185_80 : CD 185 80 = o_iadd 81 := rfl
theorem k185_81 : CD 185 81 = o_iald 82 := rfl
theorem k185_82 : CD 185 82 = o_ild 1 83 := rfl
theorem k185_83 : CD 185 83 = o_ishr 84 := rfl
theorem k185_84 : CD 185 84 = o_push (vi 1) 85 := rfl
theorem k185_85 : CD 185 85 = o_iand 86 := rfl
theorem k185_86 : CD 185 86 = o_push (vi 1) 87 := rfl
theorem k185_87 : CD 185 87 = o_icne 195 90 := rfl
theorem k185_90 : CD 185 90 = o_push (vi 1) 91 := rfl
theorem k185_91 : CD 185 91 = o_ist 5 93 := rfl
theorem k185_93 : CD 185 93 = o_push (vi 0) 94 := rfl
theorem k185_94 : CD 185 94 = o_ist 6 96 := rfl
theorem k185_96 : CD 185 96 = o_ild 6 98 := rfl
theorem k185_98 : CD 185 98 = o_ald 0 99 := rfl
theorem k185_99 : CD 185 99 = o_getI 10 21 102 := rfl
theorem k185_102 : CD 185 102 = o_icge 175 105 := rfl
theorem k185_105 : CD 185 105 = o_ild 5 107 := rfl
theorem k185_107 : CD 185 107 = o_ifeq 166 110 := rfl
theorem k185_110 : CD 185 110 = o_ald 0 111 := rfl
theorem k185_111 : CD 185 111 = o_getR 10 30 114 := rfl
theorem k185_114 : CD 185 114 = o_ild 6 116 := rfl
theorem k185_116 : CD 185 116 = o_iald 117 := rfl
theorem k185_117 : CD 185 117 = o_push (vi (-1)) 118 := rfl
theorem k185_118 : CD 185 118 = o_iceq 162 121 := rfl
theorem k185_121 : CD 185 121 = o_ald 0 122 := rfl
theorem k185_122 : CD 185 122 = o_ild 3 123 := rfl
theorem k185_123 : CD 185 123 = o_ild 4 125 := rfl
theorem k185_125 : CD 185 125 = o_ald 0 126 := rfl
theorem k185_126 : CD 185 126 = o_getR 10 24 129 := rfl
theorem k185_129 : CD 185 129 = o_push (vi 200) 132 := rfl
theorem k185_132 : CD 185 132 = o_ild 6 134 := rfl
theorem k185_134 : CD 185 134 = o_imul 135 := rfl
theorem k185_135 : CD 185 135 = o_ald 0 136 := rfl
theorem k185_136 : CD 185 136 = o_getR 10 30 139 := rfl
theorem k185_139 : CD 185 139 = o_ild 6 141 := rfl
theorem k185_141 : CD 185 141 = o_iald 142 := rfl
theorem k185_142 : CD 185 142 = o_iadd 143 := rfl
theorem k185_143 : CD 185 143 = o_iald 144 := rfl
theorem k185_144 : CD 185 144 = o_ald 0 145 := rfl
theorem k185_145 : CD 185 145 = o_getR 10 22 148 := rfl
theorem k185_148 : CD 185 148 = o_push (vi 23) 150 := rfl
theorem k185_150 : CD 185 150 = o_ild 6 152 := rfl
theorem k185_152 : CD 185 152 = o_imul 153 := rfl
theorem k185_153 : CD 185 153 = o_push (vi 1) 154 := rfl
theorem k185_154 : CD 185 154 = o_iadd 155 := rfl
theorem k185_155 : CD 185 155 = o_iald 156 := rfl
theorem k185_156 : CD 185 156 = o_inv 10 175 4 159 := rfl
theorem k185_159 : CD 185 159 = o_ifeq 166 162 := rfl
theorem k185_162 : CD 185 162 = o_push (vi 1) 163 := rfl
theorem k185_163 : CD 185 163 = o_goto 167 := rfl
theorem k185_166 : CD 185 166 = o_push (vi 0) 167 := rfl
theorem k185_167 : CD 185 167 = o_ist 5 169 := rfl
theorem k185_169 : CD 185 169 = o_iinc 6 1 172 := rfl
theorem k185_172 : CD 185 172 = o_goto 96 := rfl
theorem k185_175 : CD 185 175 = o_ild 5 177 := rfl
theorem k185_177 : CD 185 177 = o_ifeq 184 180 := rfl
theorem k185_180 : CD 185 180 = o_push (vi 3) 181 := rfl
theorem k185_181 : CD 185 181 = o_goto 194 := rfl
theorem k185_184 : CD 185 184 = o_ild 2 185 := rfl
theorem k185_185 : CD 185 185 = o_push (vi 1) 186 := rfl
theorem k185_186 : CD 185 186 = o_icne 193 189 := rfl
theorem k185_189 : CD 185 189 = o_push (vi 2) 190 := rfl
theorem k185_190 : CD 185 190 = o_goto 194 := rfl
theorem k185_193 : CD 185 193 = o_ild 2 194 := rfl
theorem k185_194 : CD 185 194 = o_ist 2 195 := rfl
theorem k185_195 : CD 185 195 = o_iinc 4 1 198 := rfl
theorem k185_198 : CD 185 198 = o_goto 48 := rfl
theorem k185_201 : CD 185 201 = o_iinc 3 1 204 := rfl
theorem k185_204 : CD 185 204 = o_goto 37 := rfl
theorem k185_207 : CD 185 207 = o_ild 2 208 := rfl
theorem k185_208 : CD 185 208 = o_iret := rfl
theorem k186_0 : CD 186 0 = o_ild 1 1 := rfl
theorem k186_1 : CD 186 1 = o_push (vi 0) 2 := rfl
theorem k186_2 : CD 186 2 = o_push (vi 1) 3 := rfl
theorem k186_3 : CD 186 3 = o_sta 136 3 6 := rfl
theorem k186_6 : CD 186 6 = o_ifne 12 9 := rfl
theorem k186_9 : CD 186 9 = o_push (vi (-3)) 11 := rfl
theorem k186_11 : CD 186 11 = o_iret := rfl
theorem k186_12 : CD 186 12 = o_ald 0 13 := rfl
theorem k186_13 : CD 186 13 = o_getI 10 31 16 := rfl
theorem k186_16 : CD 186 16 = o_ist 2 17 := rfl
theorem k186_17 : CD 186 17 = o_ald 0 18 := rfl
theorem k186_18 : CD 186 18 = o_ild 1 19 := rfl
theorem k186_19 : CD 186 19 = o_putI 10 31 22 := rfl
theorem k186_22 : CD 186 22 = o_ild 2 23 := rfl
theorem k186_23 : CD 186 23 = o_iret := rfl
theorem k187_0 : CD 187 0 = o_ald 0 1 := rfl
theorem k187_1 : CD 187 1 = o_getI 10 31 4 := rfl
theorem k187_4 : CD 187 4 = o_push (vi 1) 5 := rfl
theorem k187_5 : CD 187 5 = o_icne 21 8 := rfl
theorem k187_8 : CD 187 8 = o_ald 0 9 := rfl
theorem k187_9 : CD 187 9 = o_getR 10 34 12 := rfl
theorem k187_12 : CD 187 12 = o_ild 1 13 := rfl
theorem k187_13 : CD 187 13 = o_bald 14 := rfl
theorem k187_14 : CD 187 14 = o_ifne 21 17 := rfl
theorem k187_17 : CD 187 17 = o_push (vi 1) 18 := rfl
theorem k187_18 : CD 187 18 = o_goto 22 := rfl
theorem k187_21 : CD 187 21 = o_push (vi 0) 22 := rfl
theorem k187_22 : CD 187 22 = o_ist 2 23 := rfl
theorem k187_23 : CD 187 23 = o_ald 0 24 := rfl
theorem k187_24 : CD 187 24 = o_getR 10 34 27 := rfl
theorem k187_27 : CD 187 27 = o_ild 1 28 := rfl
theorem k187_28 : CD 187 28 = o_push (vi 1) 29 := rfl
theorem k187_29 : CD 187 29 = o_bast 30 := rfl
theorem k187_30 : CD 187 30 = o_ald 0 31 := rfl
theorem k187_31 : CD 187 31 = o_getR 10 32 34 := rfl
theorem k187_34 : CD 187 34 = o_ild 1 35 := rfl
theorem k187_35 : CD 187 35 = o_ild 2 36 := rfl
theorem k187_36 : CD 187 36 = o_ifeq 43 39 := rfl
theorem k187_39 : CD 187 39 = o_push (vi 0) 40 := rfl
theorem k187_40 : CD 187 40 = o_goto 45 := rfl
theorem k187_43 : CD 187 43 = o_push (vi 9) 45 := rfl
theorem k187_45 : CD 187 45 = o_iast 46 := rfl
theorem k187_46 : CD 187 46 = o_vret := rfl
theorem k188_0 : CD 188 0 = o_push (vi (-1)) 1 := rfl
theorem k188_1 : CD 188 1 = o_ist 2 2 := rfl
theorem k188_2 : CD 188 2 = o_push (vi 0) 3 := rfl
theorem k188_3 : CD 188 3 = o_ist 3 4 := rfl
theorem k188_4 : CD 188 4 = o_ild 3 5 := rfl
theorem k188_5 : CD 188 5 = o_ald 0 6 := rfl
theorem k188_6 : CD 188 6 = o_getI 10 0 9 := rfl
theorem k188_9 : CD 188 9 = o_icge 43 12 := rfl
theorem k188_12 : CD 188 12 = o_ald 0 13 := rfl
theorem k188_13 : CD 188 13 = o_ald 0 14 := rfl
theorem k188_14 : CD 188 14 = o_getR 10 22 17 := rfl
theorem k188_17 : CD 188 17 = o_push (vi 23) 19 := rfl
theorem k188_19 : CD 188 19 = o_ild 1 20 := rfl
theorem k188_20 : CD 188 20 = o_imul 21 := rfl
theorem k188_21 : CD 188 21 = o_push (vi 2) 22 := rfl
theorem k188_22 : CD 188 22 = o_iadd 23 := rfl
theorem k188_23 : CD 188 23 = o_iald 24 := rfl
theorem k188_24 : CD 188 24 = o_ild 3 25 := rfl
theorem k188_25 : CD 188 25 = o_inv 10 144 2 28 := rfl
theorem k188_28 : CD 188 28 = o_ifeq 35 31 := rfl
theorem k188_31 : CD 188 31 = o_ild 3 32 := rfl
theorem k188_32 : CD 188 32 = o_goto 36 := rfl
theorem k188_35 : CD 188 35 = o_ild 2 36 := rfl
theorem k188_36 : CD 188 36 = o_ist 2 37 := rfl
theorem k188_37 : CD 188 37 = o_iinc 3 1 40 := rfl
theorem k188_40 : CD 188 40 = o_goto 4 := rfl
theorem k188_43 : CD 188 43 = o_ild 2 44 := rfl
theorem k188_44 : CD 188 44 = o_iret := rfl
theorem k189_0 : CD 189 0 = o_ald 0 1 := rfl
theorem k189_1 : CD 189 1 = o_getR 10 32 4 := rfl
theorem k189_4 : CD 189 4 = o_ild 1 5 := rfl
theorem k189_5 : CD 189 5 = o_iald 6 := rfl
theorem k189_6 : CD 189 6 = o_push (vi 2) 7 := rfl
theorem k189_7 : CD 189 7 = o_icgt 47 10 := rfl
theorem k189_10 : CD 189 10 = o_ild 2 11 := rfl
theorem k189_11 : CD 189 11 = o_ald 0 12 := rfl
theorem k189_12 : CD 189 12 = o_ild 1 13 := rfl
theorem k189_13 : CD 189 13 = o_ald 0 14 := rfl
theorem k189_14 : CD 189 14 = o_getR 10 32 17 := rfl
theorem k189_17 : CD 189 17 = o_ild 1 18 := rfl
theorem k189_18 : CD 189 18 = o_iald 19 := rfl
theorem k189_19 : CD 189 19 = o_push (vi 0) 20 := rfl
theorem k189_20 : CD 189 20 = o_inv 10 167 3 23 := rfl
theorem k189_23 : CD 189 23 = o_iadd 24 := rfl
theorem k189_24 : CD 189 24 = o_ald 0 25 := rfl
theorem k189_25 : CD 189 25 = o_getI 10 0 28 := rfl
theorem k189_28 : CD 189 28 = o_icgt 47 31 := rfl
theorem k189_31 : CD 189 31 = o_ald 0 32 := rfl
theorem k189_32 : CD 189 32 = o_ild 1 33 := rfl
theorem k189_33 : CD 189 33 = o_ald 0 34 := rfl
theorem k189_34 : CD 189 34 = o_getR 10 32 37 := rfl
theorem k189_37 : CD 189 37 = o_ild 1 38 := rfl
theorem k189_38 : CD 189 38 = o_iald 39 := rfl
theorem k189_39 : CD 189 39 = o_ild 2 40 := rfl
theorem k189_40 : CD 189 40 = o_ild 3 41 := rfl
theorem k189_41 : CD 189 41 = o_inv 10 169 4 44 := rfl
theorem k189_44 : CD 189 44 = o_ifne 49 47 := rfl
theorem k189_47 : CD 189 47 = o_push (vi 0) 48 := rfl
theorem k189_48 : CD 189 48 = o_zret := rfl
theorem k189_49 : CD 189 49 = o_ald 0 50 := rfl
theorem k189_50 : CD 189 50 = o_getR 10 32 53 := rfl
theorem k189_53 : CD 189 53 = o_ild 1 54 := rfl
theorem k189_54 : CD 189 54 = o_iald 55 := rfl
theorem k189_55 : CD 189 55 = o_ifeq 81 58 := rfl
theorem k189_58 : CD 189 58 = o_ild 2 59 := rfl
theorem k189_59 : CD 189 59 = o_ald 0 60 := rfl
theorem k189_60 : CD 189 60 = o_getR 10 33 63 := rfl
theorem k189_63 : CD 189 63 = o_ild 1 64 := rfl
theorem k189_64 : CD 189 64 = o_iald 65 := rfl
theorem k189_65 : CD 189 65 = o_isub 66 := rfl
theorem k189_66 : CD 189 66 = o_ald 0 67 := rfl
theorem k189_67 : CD 189 67 = o_ild 1 68 := rfl
theorem k189_68 : CD 189 68 = o_ald 0 69 := rfl
theorem k189_69 : CD 189 69 = o_getR 10 32 72 := rfl
theorem k189_72 : CD 189 72 = o_ild 1 73 := rfl
theorem k189_73 : CD 189 73 = o_iald 74 := rfl
theorem k189_74 : CD 189 74 = o_push (vi 4) 75 := rfl
theorem k189_75 : CD 189 75 = o_inv 10 167 3 78 := rfl
theorem k189_78 : CD 189 78 = o_iclt 85 81 := rfl
theorem k189_81 : CD 189 81 = o_push (vi 1) 82 := rfl
theorem k189_82 : CD 189 82 = o_goto 86 := rfl
theorem k189_85 : CD 189 85 = o_push (vi 0) 86 := rfl
theorem k189_86 : CD 189 86 = o_zret := rfl
theorem k190_0 : CD 190 0 = o_ild 1 1 := rfl
theorem k190_1 : CD 190 1 = o_ifne 23 4 := rfl
theorem k190_4 : CD 190 4 = o_ald 0 5 := rfl
theorem k190_5 : CD 190 5 = o_ild 2 6 := rfl
theorem k190_6 : CD 190 6 = o_inv 10 165 1 9 := rfl
theorem k190_9 : CD 190 9 = o_ald 0 10 := rfl
theorem k190_10 : CD 190 10 = o_ild 3 11 := rfl
theorem k190_11 : CD 190 11 = o_inv 10 165 1 14 := rfl
theorem k190_14 : CD 190 14 = o_icle 21 17 := rfl
theorem k190_17 : CD 190 17 = o_push (vi 1) 18 := rfl
theorem k190_18 : CD 190 18 = o_goto 22 := rfl
theorem k190_21 : CD 190 21 = o_push (vi 0) 22 := rfl
theorem k190_22 : CD 190 22 = o_zret := rfl
theorem k190_23 : CD 190 23 = o_ild 1 24 := rfl
theorem k190_24 : CD 190 24 = o_push (vi 1) 25 := rfl
theorem k190_25 : CD 190 25 = o_icne 71 28 := rfl
theorem k190_28 : CD 190 28 = o_ald 0 29 := rfl
theorem k190_29 : CD 190 29 = o_ald 0 30 := rfl
theorem k190_30 : CD 190 30 = o_getR 10 22 33 := rfl
theorem k190_33 : CD 190 33 = o_push (vi 23) 35 := rfl
theorem k190_35 : CD 190 35 = o_ild 2 36 := rfl
theorem k190_36 : CD 190 36 = o_imul 37 := rfl
theorem k190_37 : CD 190 37 = o_push (vi 2) 38 := rfl
theorem k190_38 : CD 190 38 = o_iadd 39 := rfl
theorem k190_39 : CD 190 39 = o_iald 40 := rfl
theorem k190_40 : CD 190 40 = o_ild 4 42 := rfl
theorem k190_42 : CD 190 42 = o_inv 10 143 2 45 := rfl
theorem k190_45 : CD 190 45 = o_ald 0 46 := rfl
theorem k190_46 : CD 190 46 = o_ald 0 47 := rfl
theorem k190_47 : CD 190 47 = o_getR 10 22 50 := rfl
theorem k190_50 : CD 190 50 = o_push (vi 23) 52 := rfl
theorem k190_52 : CD 190 52 = o_ild 3 53 := rfl
theorem k190_53 : CD 190 53 = o_imul 54 := rfl
theorem k190_54 : CD 190 54 = o_push (vi 2) 55 := rfl
theorem k190_55 : CD 190 55 = o_iadd 56 := rfl
theorem k190_56 : CD 190 56 = o_iald 57 := rfl
theorem k190_57 : CD 190 57 = o_ild 4 59 := rfl
theorem k190_59 : CD 190 59 = o_inv 10 143 2 62 := rfl
theorem k190_62 : CD 190 62 = o_icge 69 65 := rfl
theorem k190_65 : CD 190 65 = o_push (vi 1) 66 := rfl
theorem k190_66 : CD 190 66 = o_goto 70 := rfl
theorem k190_69 : CD 190 69 = o_push (vi 0) 70 := rfl
theorem k190_70 : CD 190 70 = o_zret := rfl
theorem k190_71 : CD 190 71 = o_ald 0 72 := rfl
theorem k190_72 : CD 190 72 = o_ild 2 73 := rfl
theorem k190_73 : CD 190 73 = o_inv 10 188 1 76 := rfl
theorem k190_76 : CD 190 76 = o_ald 0 77 := rfl
theorem k190_77 : CD 190 77 = o_ild 3 78 := rfl
theorem k190_78 : CD 190 78 = o_inv 10 188 1 81 := rfl
theorem k190_81 : CD 190 81 = o_icge 88 84 := rfl
theorem k190_84 : CD 190 84 = o_push (vi 1) 85 := rfl
theorem k190_85 : CD 190 85 = o_goto 89 := rfl
theorem k190_88 : CD 190 88 = o_push (vi 0) 89 := rfl
theorem k190_89 : CD 190 89 = o_zret := rfl
theorem k191_0 : CD 191 0 = o_push (vi 0) 1 := rfl
theorem k191_1 : CD 191 1 = o_ist 4 3 := rfl
theorem k191_3 : CD 191 3 = o_ild 4 5 := rfl
theorem k191_5 : CD 191 5 = o_ald 0 6 := rfl
theorem k191_6 : CD 191 6 = o_getI 10 21 9 := rfl
theorem k191_9 : CD 191 9 = o_icge 42 12 := rfl
theorem k191_12 : CD 191 12 = o_ald 0 13 := rfl
theorem k191_13 : CD 191 13 = o_getR 10 32 16 := rfl
theorem k191_16 : CD 191 16 = o_ild 4 18 := rfl
theorem k191_18 : CD 191 18 = o_push (vi 0) 19 := rfl
theorem k191_19 : CD 191 19 = o_iast 20 := rfl
theorem k191_20 : CD 191 20 = o_ald 0 21 := rfl
theorem k191_21 : CD 191 21 = o_getR 10 33 24 := rfl
theorem k191_24 : CD 191 24 = o_ild 4 26 := rfl
theorem k191_26 : CD 191 26 = o_push (vi 0) 27 := rfl
theorem k191_27 : CD 191 27 = o_iast 28 := rfl
theorem k191_28 : CD 191 28 = o_ald 0 29 := rfl
theorem k191_29 : CD 191 29 = o_getR 10 34 32 := rfl
theorem k191_32 : CD 191 32 = o_ild 4 34 := rfl
theorem k191_34 : CD 191 34 = o_push (vi 0) 35 := rfl
theorem k191_35 : CD 191 35 = o_bast 36 := rfl
theorem k191_36 : CD 191 36 = o_iinc 4 1 39 := rfl
theorem k191_39 : CD 191 39 = o_goto 3 := rfl
theorem k191_42 : CD 191 42 = o_ald 0 43 := rfl
theorem k191_43 : CD 191 43 = o_push (vi 0) 44 := rfl
theorem k191_44 : CD 191 44 = o_putI 10 36 47 := rfl
theorem k191_47 : CD 191 47 = o_push (vi 0) 48 := rfl
theorem k191_48 : CD 191 48 = o_ist 4 50 := rfl
theorem k191_50 : CD 191 50 = o_push (vi (-1)) 51 := rfl
theorem k191_51 : CD 191 51 = o_ist 5 53 := rfl
theorem k191_53 : CD 191 53 = o_push (vi 0) 54 := rfl
theorem k191_54 : CD 191 54 = o_ist 6 56 := rfl
theorem k191_56 : CD 191 56 = o_push (vi 0) 57 := rfl
theorem k191_57 : CD 191 57 = o_ist 7 59 := rfl
theorem k191_59 : CD 191 59 = o_ild 7 61 := rfl
theorem k191_61 : CD 191 61 = o_ild 3 62 := rfl
theorem k191_62 : CD 191 62 = o_icge 457 65 := rfl
theorem k191_65 : CD 191 65 = o_ild 5 67 := rfl
theorem k191_67 : CD 191 67 = o_push (vi (-1)) 68 := rfl
theorem k191_68 : CD 191 68 = o_icne 301 71 := rfl
theorem k191_71 : CD 191 71 = o_push (vi 0) 72 := rfl
theorem k191_72 : CD 191 72 = o_ist 8 74 := rfl
theorem k191_74 : CD 191 74 = o_ild 8 76 := rfl
theorem k191_76 : CD 191 76 = o_ald 0 77 := rfl
theorem k191_77 : CD 191 77 = o_getI 10 21 80 := rfl
theorem k191_80 : CD 191 80 = o_icge 137 83 := rfl
theorem k191_83 : CD 191 83 = o_ald 0 84 := rfl
theorem k191_84 : CD 191 84 = o_getR 10 32 87 := rfl
theorem k191_87 : CD 191 87 = o_ild 8 89 := rfl
theorem k191_89 : CD 191 89 = o_iald 90 := rfl
theorem k191_90 : CD 191 90 = o_push (vi 1) 91 := rfl
theorem k191_91 : CD 191 91 = o_push (vi 2) 92 := rfl
theorem k191_92 : CD 191 92 = o_sta 136 3 95 := rfl
theorem k191_95 : CD 191 95 = o_ifeq 131 98 := rfl
theorem k191_98 : CD 191 98 = o_ild 7 100 := rfl
theorem k191_100 : CD 191 100 = o_ald 0 101 := rfl
theorem k191_101 : CD 191 101 = o_getR 10 33 104 := rfl
theorem k191_104 : CD 191 104 = o_ild 8 106 := rfl
theorem k191_106 : CD 191 106 = o_iald 107 := rfl
theorem k191_107 : CD 191 107 = o_isub 108 := rfl
theorem k191_108 : CD 191 108 = o_ald 0 109 := rfl
theorem k191_109 : CD 191 109 = o_ild 8 111 := rfl
theorem k191_111 : CD 191 111 = o_ald 0 112 := rfl
theorem k191_112 : CD 191 112 = o_getR 10 32 115 := rfl
theorem k191_115 : CD 191 115 = o_ild 8 117 := rfl
theorem k191_117 : CD 191 117 = o_iald 118 := rfl
theorem k191_118 : CD 191 118 = o_push (vi 5) 119 := rfl
theorem k191_119 : CD 191 119 = o_inv 10 167 3 122 := rfl
theorem k191_122 : CD 191 122 = o_icle 131 125 := rfl
theorem k191_125 : CD 191 125 = o_ald 0 126 := rfl
theorem k191_126 : CD 191 126 = o_ild 8 128 := rfl
theorem k191_128 : CD 191 128 = o_inv 10 187 1 131 := rfl
theorem k191_131 : CD 191 131 = o_iinc 8 1 134 := rfl
theorem k191_134 : CD 191 134 = o_goto 74 := rfl
theorem k191_137 : CD 191 137 = o_push (vi (-1)) 138 := rfl
theorem k191_138 : CD 191 138 = o_ist 8 140 := rfl
theorem k191_140 : CD 191 140 = o_push (vi 0) 141 := rfl
theorem k191_141 : CD 191 141 = o_ist 9 143 := rfl
theorem k191_143 : CD 191 143 = o_ild 9 145 := rfl
theorem k191_145 : CD 191 145 = o_ald 0 146 := rfl
theorem k191_146 : CD 191 146 = o_getI 10 21 149 := rfl
theorem k191_149 : CD 191 149 = o_icge 199 152 := rfl
theorem k191_152 : CD 191 152 = o_ald 0 153 := rfl
theorem k191_153 : CD 191 153 = o_ild 9 155 := rfl
theorem k191_155 : CD 191 155 = o_ild 7 157 := rfl
theorem k191_157 : CD 191 157 = o_ild 2 158 := rfl
theorem k191_158 : CD 191 158 = o_inv 10 189 3 161 := rfl
theorem k191_161 : CD 191 161 = o_ifeq 189 164 := rfl
theorem k191_164 : CD 191 164 = o_ild 8 166 := rfl
theorem k191_166 : CD 191 166 = o_push (vi (-1)) 167 := rfl
theorem k191_167 : CD 191 167 = o_iceq 184 170 := rfl
theorem k191_170 : CD 191 170 = o_ald 0 171 := rfl
theorem k191_171 : CD 191 171 = o_ild 1 172 := rfl
theorem k191_172 : CD 191 172 = o_ild 9 174 := rfl
theorem k191_174 : CD 191 174 = o_ild 8 176 := rfl
theorem k191_176 : CD 191 176 = o_ild 7 178 := rfl
theorem k191_178 : CD 191 178 = o_inv 10 190 4 181 := rfl
theorem k191_181 : CD 191 181 = o_ifeq 189 184 := rfl
theorem k191_184 : CD 191 184 = o_ild 9 186 := rfl
theorem k191_186 : CD 191 186 = o_goto 191 := rfl
theorem k191_189 : CD 191 189 = o_ild 8 191 := rfl
theorem k191_191 : CD 191 191 = o_ist 8 193 := rfl
theorem k191_193 : CD 191 193 = o_iinc 9 1 196 := rfl
theorem k191_196 : CD 191 196 = o_goto 143 := rfl
theorem k191_199 : CD 191 199 = o_ild 8 201 := rfl
theorem k191_201 : CD 191 201 = o_push (vi (-1)) 202 := rfl
theorem k191_202 : CD 191 202 = o_icne 238 205 := rfl
theorem k191_205 : CD 191 205 = o_ald 0 206 := rfl
theorem k191_206 : CD 191 206 = o_getR 10 35 209 := rfl
theorem k191_209 : CD 191 209 = o_ild 7 211 := rfl
theorem k191_211 : CD 191 211 = o_ald 0 212 := rfl
theorem k191_212 : CD 191 212 = o_getR 10 9 215 := rfl
theorem k191_215 : CD 191 215 = o_push (vi 12) 217 := rfl
theorem k191_217 : CD 191 217 = o_ild 2 218 := rfl
theorem k191_218 : CD 191 218 = o_imul 219 := rfl
theorem k191_219 : CD 191 219 = o_ild 7 221 := rfl
theorem k191_221 : CD 191 221 = o_iadd 222 := rfl
theorem k191_222 : CD 191 222 = o_iald 223 := rfl
theorem k191_223 : CD 191 223 = o_push (vi 4) 224 := rfl
theorem k191_224 : CD 191 224 = o_icne 232 227 := rfl
theorem k191_227 : CD 191 227 = o_push (vi 21) 229 := rfl
theorem k191_229 : CD 191 229 = o_goto 234 := rfl
theorem k191_232 : CD 191 232 = o_push (vi 22) 234 := rfl
theorem k191_234 : CD 191 234 = o_iast 235 := rfl
theorem k191_235 : CD 191 235 = o_goto 301 := rfl
theorem k191_238 : CD 191 238 = o_ald 0 239 := rfl
theorem k191_239 : CD 191 239 = o_getR 10 22 242 := rfl
theorem k191_242 : CD 191 242 = o_push (vi 23) 244 := rfl
theorem k191_244 : CD 191 244 = o_ild 8 246 := rfl
theorem k191_246 : CD 191 246 = o_imul 247 := rfl
theorem k191_247 : CD 191 247 = o_push (vi 1) 248 := rfl
theorem k191_248 : CD 191 248 = o_iadd 249 := rfl
theorem k191_249 : CD 191 249 = o_iald 250 := rfl
theorem k191_250 : CD 191 250 = o_ild 4 252 := rfl
theorem k191_252 : CD 191 252 = o_iceq 281 255 := rfl
theorem k191_255 : CD 191 255 = o_ald 0 256 := rfl
theorem k191_256 : CD 191 256 = o_getR 10 22 259 := rfl
theorem k191_259 : CD 191 259 = o_push (vi 23) 261 := rfl
theorem k191_261 : CD 191 261 = o_ild 8 263 := rfl
theorem k191_263 : CD 191 263 = o_imul 264 := rfl
theorem k191_264 : CD 191 264 = o_push (vi 1) 265 := rfl
theorem k191_265 : CD 191 265 = o_iadd 266 := rfl
theorem k191_266 : CD 191 266 = o_iald 267 := rfl
theorem k191_267 : CD 191 267 = o_ist 4 269 := rfl
theorem k191_269 : CD 191 269 = o_ald 0 270 := rfl
theorem k191_270 : CD 191 270 = o_getR 10 35 273 := rfl
theorem k191_273 : CD 191 273 = o_ild 7 275 := rfl
theorem k191_275 : CD 191 275 = o_push (vi 20) 277 := rfl
theorem k191_277 : CD 191 277 = o_iast 278 := rfl
theorem k191_278 : CD 191 278 = o_goto 301 := rfl
theorem k191_281 : CD 191 281 = o_ild 8 283 := rfl
theorem k191_283 : CD 191 283 = o_ist 5 285 := rfl
theorem k191_285 : CD 191 285 = o_ald 0 286 := rfl
theorem k191_286 : CD 191 286 = o_ild 8 288 := rfl
theorem k191_288 : CD 191 288 = o_ald 0 289 := rfl
theorem k191_289 : CD 191 289 = o_getR 10 32 292 := rfl
theorem k191_292 : CD 191 292 = o_ild 8 294 := rfl
theorem k191_294 : CD 191 294 = o_iald 295 := rfl
theorem k191_295 : CD 191 295 = o_push (vi 0) 296 := rfl
theorem k191_296 : CD 191 296 = o_inv 10 167 3 299 := rfl
theorem k191_299 : CD 191 299 = o_ist 6 301 := rfl
theorem k191_301 : CD 191 301 = o_ild 5 303 := rfl
theorem k191_303 : CD 191 303 = o_push (vi (-1)) 304 := rfl
theorem k191_304 : CD 191 304 = o_iceq 451 307 := rfl
theorem k191_307 : CD 191 307 = o_ald 0 308 := rfl
theorem k191_308 : CD 191 308 = o_ild 5 310 := rfl
theorem k191_310 : CD 191 310 = o_ald 0 311 := rfl
theorem k191_311 : CD 191 311 = o_getR 10 32 314 := rfl
theorem k191_314 : CD 191 314 = o_ild 5 316 := rfl
theorem k191_316 : CD 191 316 = o_iald 317 := rfl
theorem k191_317 : CD 191 317 = o_ild 7 319 := rfl
theorem k191_319 : CD 191 319 = o_ild 2 320 := rfl
theorem k191_320 : CD 191 320 = o_inv 10 169 4 323 := rfl
theorem k191_323 : CD 191 323 = o_ifeq 430 326 := rfl
theorem k191_326 : CD 191 326 = o_ald 0 327 := rfl
theorem k191_327 : CD 191 327 = o_getR 10 35 330 := rfl
theorem k191_330 : CD 191 330 = o_ild 7 332 := rfl
theorem k191_332 : CD 191 332 = o_ild 5 334 := rfl
theorem k191_334 : CD 191 334 = o_iast 335 := rfl
theorem k191_335 : CD 191 335 = o_iinc 6 (-1) 338 := rfl
theorem k191_338 : CD 191 338 = o_ild 6 340 := rfl
theorem k191_340 : CD 191 340 = o_ifne 451 343 := rfl
theorem k191_343 : CD 191 343 = o_ald 0 344 := rfl
theorem k191_344 : CD 191 344 = o_getR 10 33 347 := rfl
theorem k191_347 : CD 191 347 = o_ild 5 349 := rfl
theorem k191_349 : CD 191 349 = o_ild 7 351 := rfl
theorem k191_351 : CD 191 351 = o_push (vi 1) 352 := rfl
theorem k191_352 : CD 191 352 = o_iadd 353 := rfl
theorem k191_353 : CD 191 353 = o_iast 354 := rfl
theorem k191_354 : CD 191 354 = o_ald 0 355 := rfl
theorem k191_355 : CD 191 355 = o_getR 10 32 358 := rfl
theorem k191_358 : CD 191 358 = o_ild 5 360 := rfl
theorem k191_360 : CD 191 360 = o_ald 0 361 := rfl
theorem k191_361 : CD 191 361 = o_getR 10 32 364 := rfl
theorem k191_364 : CD 191 364 = o_ild 5 366 := rfl
theorem k191_366 : CD 191 366 = o_iald 367 := rfl
theorem k191_367 : CD 191 367 = o_push (vi 1) 368 := rfl
theorem k191_368 : CD 191 368 = o_iadd 369 := rfl
theorem k191_369 : CD 191 369 = o_ald 0 370 := rfl
theorem k191_370 : CD 191 370 = o_ild 5 372 := rfl
theorem k191_372 : CD 191 372 = o_inv 10 166 1 375 := rfl
theorem k191_375 : CD 191 375 = o_icne 383 378 := rfl
theorem k191_378 : CD 191 378 = o_push (vi 8) 380 := rfl
theorem k191_380 : CD 191 380 = o_goto 392 := rfl
theorem k191_383 : CD 191 383 = o_ald 0 384 := rfl
theorem k191_384 : CD 191 384 = o_getR 10 32 387 := rfl
theorem k191_387 : CD 191 387 = o_ild 5 389 := rfl
theorem k191_389 : CD 191 389 = o_iald 390 := rfl
theorem k191_390 : CD 191 390 = o_push (vi 1) 391 := rfl
theorem k191_391 : CD 191 391 = o_iadd 392 := rfl
theorem k191_392 : CD 191 392 = o_iast 393 := rfl
theorem k191_393 : CD 191 393 = o_ald 0 394 := rfl
theorem k191_394 : CD 191 394 = o_dupr 395 := rfl
theorem k191_395 : CD 191 395 = o_getI 10 36 398 := rfl
theorem k191_398 : CD 191 398 = o_ald 0 399 := rfl
theorem k191_399 : CD 191 399 = o_getR 10 32 402 := rfl
theorem k191_402 : CD 191 402 = o_ild 5 404 := rfl
theorem k191_404 : CD 191 404 = o_iald 405 := rfl
theorem k191_405 : CD 191 405 = o_push (vi 8) 407 := rfl
theorem k191_407 : CD 191 407 = o_icne 419 410 := rfl
theorem k191_410 : CD 191 410 = o_ald 0 411 := rfl
theorem k191_411 : CD 191 411 = o_ild 5 413 := rfl
theorem k191_413 : CD 191 413 = o_inv 10 165 1 416 := rfl
theorem k191_416 : CD 191 416 = o_goto 420 := rfl
theorem k191_419 : CD 191 419 = o_push (vi 0) 420 := rfl
theorem k191_420 : CD 191 420 = o_iadd 421 := rfl
theorem k191_421 : CD 191 421 = o_putI 10 36 424 := rfl
theorem k191_424 : CD 191 424 = o_push (vi (-1)) 425 := rfl
theorem k191_425 : CD 191 425 = o_ist 5 427 := rfl
theorem k191_427 : CD 191 427 = o_goto 451 := rfl
theorem k191_430 : CD 191 430 = o_ald 0 431 := rfl
theorem k191_431 : CD 191 431 = o_getR 10 35 434 := rfl
theorem k191_434 : CD 191 434 = o_ild 7 436 := rfl
theorem k191_436 : CD 191 436 = o_push (vi 10) 438 := rfl
theorem k191_438 : CD 191 438 = o_ild 5 440 := rfl
theorem k191_440 : CD 191 440 = o_iadd 441 := rfl
theorem k191_441 : CD 191 441 = o_iast 442 := rfl
theorem k191_442 : CD 191 442 = o_ald 0 443 := rfl
theorem k191_443 : CD 191 443 = o_ild 5 445 := rfl
theorem k191_445 : CD 191 445 = o_inv 10 187 1 448 := rfl
theorem k191_448 : CD 191 448 = o_push (vi (-1)) 449 := rfl
theorem k191_449 : CD 191 449 = o_ist 5 451 := rfl
theorem k191_451 : CD 191 451 = o_iinc 7 1 454 := rfl
theorem k191_454 : CD 191 454 = o_goto 59 := rfl
theorem k191_457 : CD 191 457 = o_vret := rfl
theorem k192_0 : CD 192 0 = o_ald 0 1 := rfl
theorem k192_1 : CD 192 1 = o_ild 2 2 := rfl
theorem k192_2 : CD 192 2 = o_inv 10 140 1 5 := rfl
theorem k192_5 : CD 192 5 = o_ifne 11 8 := rfl
theorem k192_8 : CD 192 8 = o_push (vi (-2)) 10 := rfl
theorem k192_10 : CD 192 10 = o_iret := rfl
theorem k192_11 : CD 192 11 = o_ild 1 12 := rfl
theorem k192_12 : CD 192 12 = o_push (vi 0) 13 := rfl
theorem k192_13 : CD 192 13 = o_push (vi 2) 14 := rfl
theorem k192_14 : CD 192 14 = o_sta 136 3 17 := rfl
theorem k192_17 : CD 192 17 = o_ifne 23 20 := rfl
theorem k192_20 : CD 192 20 = o_push (vi (-3)) 22 := rfl
theorem k192_22 : CD 192 22 = o_iret := rfl
theorem k192_23 : CD 192 23 = o_ald 0 24 := rfl
theorem k192_24 : CD 192 24 = o_ild 1 25 := rfl
theorem k192_25 : CD 192 25 = o_ild 2 26 := rfl
theorem k192_26 : CD 192 26 = o_ald 0 27 := rfl
theorem k192_27 : CD 192 27 = o_getI 10 0 30 := rfl
theorem k192_30 : CD 192 30 = o_inv 10 191 3 33 := rfl
theorem k192_33 : CD 192 33 = o_ald 0 34 := rfl
theorem k192_34 : CD 192 34 = o_getI 10 36 37 := rfl
theorem k192_37 : CD 192 37 = o_iret := rfl
theorem k193_0 : CD 193 0 = o_ald 0 1 := rfl
theorem k193_1 : CD 193 1 = o_ild 2 2 := rfl
theorem k193_2 : CD 193 2 = o_inv 10 140 1 5 := rfl
theorem k193_5 : CD 193 5 = o_ifeq 16 8 := rfl
theorem k193_8 : CD 193 8 = o_ald 0 9 := rfl
theorem k193_9 : CD 193 9 = o_ild 3 10 := rfl
theorem k193_10 : CD 193 10 = o_inv 10 137 1 13 := rfl
theorem k193_13 : CD 193 13 = o_ifne 19 16 := rfl
theorem k193_16 : CD 193 16 = o_push (vi (-2)) 18 := rfl
theorem k193_18 : CD 193 18 = o_iret := rfl
theorem k193_19 : CD 193 19 = o_ild 1 20 := rfl
theorem k193_20 : CD 193 20 = o_push (vi 0) 21 := rfl
theorem k193_21 : CD 193 21 = o_push (vi 2) 22 := rfl
theorem k193_22 : CD 193 22 = o_sta 136 3 25 := rfl
theorem k193_25 : CD 193 25 = o_ifne 31 28 := rfl
theorem k193_28 : CD 193 28 = o_push (vi (-3)) 30 := rfl
theorem k193_30 : CD 193 30 = o_iret := rfl
theorem k193_31 : CD 193 31 = o_ald 0 32 := rfl
theorem k193_32 : CD 193 32 = o_ild 1 33 := rfl
theorem k193_33 : CD 193 33 = o_ild 2 34 := rfl
theorem k193_34 : CD 193 34 = o_ald 0 35 := rfl
theorem k193_35 : CD 193 35 = o_getI 10 0 38 := rfl
theorem k193_38 : CD 193 38 = o_inv 10 191 3 41 := rfl
theorem k193_41 : CD 193 41 = o_ald 0 42 := rfl
theorem k193_42 : CD 193 42 = o_getR 10 35 45 := rfl
theorem k193_45 : CD 193 45 = o_ild 3 46 := rfl
theorem k193_46 : CD 193 46 = o_iald 47 := rfl
theorem k193_47 : CD 193 47 = o_iret := rfl
theorem k194_0 : CD 194 0 = o_ald 0 1 := rfl
theorem k194_1 : CD 194 1 = o_ild 2 2 := rfl
theorem k194_2 : CD 194 2 = o_inv 10 140 1 5 := rfl
theorem k194_5 : CD 194 5 = o_ifeq 16 8 := rfl
theorem k194_8 : CD 194 8 = o_ald 0 9 := rfl
theorem k194_9 : CD 194 9 = o_ild 3 10 := rfl
theorem k194_10 : CD 194 10 = o_inv 10 139 1 13 := rfl
theorem k194_13 : CD 194 13 = o_ifne 19 16 := rfl
theorem k194_16 : CD 194 16 = o_push (vi (-2)) 18 := rfl
theorem k194_18 : CD 194 18 = o_iret := rfl
theorem k194_19 : CD 194 19 = o_ild 1 20 := rfl
theorem k194_20 : CD 194 20 = o_push (vi 0) 21 := rfl
theorem k194_21 : CD 194 21 = o_push (vi 2) 22 := rfl
theorem k194_22 : CD 194 22 = o_sta 136 3 25 := rfl
theorem k194_25 : CD 194 25 = o_ifeq 41 28 := rfl
theorem k194_28 : CD 194 28 = o_ild 4 30 := rfl
theorem k194_30 : CD 194 30 = o_push (vi 0) 31 := rfl
theorem k194_31 : CD 194 31 = o_ald 0 32 := rfl
theorem k194_32 : CD 194 32 = o_getI 10 0 35 := rfl
theorem k194_35 : CD 194 35 = o_sta 136 3 38 := rfl
theorem k194_38 : CD 194 38 = o_ifne 44 41 := rfl
theorem k194_41 : CD 194 41 = o_push (vi (-3)) 43 := rfl
theorem k194_43 : CD 194 43 = o_iret := rfl
theorem k194_44 : CD 194 44 = o_ald 0 45 := rfl
theorem k194_45 : CD 194 45 = o_ild 1 46 := rfl
theorem k194_46 : CD 194 46 = o_ild 2 47 := rfl
theorem k194_47 : CD 194 47 = o_ild 4 49 := rfl
theorem k194_49 : CD 194 49 = o_inv 10 191 3 52 := rfl
theorem k194_52 : CD 194 52 = o_ald 0 53 := rfl
theorem k194_53 : CD 194 53 = o_getR 10 32 56 := rfl
theorem k194_56 : CD 194 56 = o_ild 3 57 := rfl
theorem k194_57 : CD 194 57 = o_iald 58 := rfl
theorem k194_58 : CD 194 58 = o_iret := rfl
theorem k195_0 : CD 195 0 = o_lld 0 1 := rfl
theorem k195_1 : CD 195 1 = o_lst 4 3 := rfl
theorem k195_3 : CD 195 3 = o_lld 2 4 := rfl
theorem k195_4 : CD 195 4 = o_lst 6 6 := rfl
theorem k195_6 : CD 195 6 = o_lld 6 8 := rfl
theorem k195_8 : CD 195 8 = o_push (vl (0 : Nat)) 9 := rfl
theorem k195_9 : CD 195 9 = o_lcmp 10 := rfl
theorem k195_10 : CD 195 10 = o_ifeq 31 13 := rfl
theorem k195_13 : CD 195 13 = o_lld 4 15 := rfl
theorem k195_15 : CD 195 15 = o_lld 6 17 := rfl
theorem k195_17 : CD 195 17 = o_lrem 18 := rfl
theorem k195_18 : CD 195 18 = o_lst 8 20 := rfl
theorem k195_20 : CD 195 20 = o_lld 6 22 := rfl
theorem k195_22 : CD 195 22 = o_lst 4 24 := rfl
theorem k195_24 : CD 195 24 = o_lld 8 26 := rfl
theorem k195_26 : CD 195 26 = o_lst 6 28 := rfl
theorem k195_28 : CD 195 28 = o_goto 6 := rfl
theorem k195_31 : CD 195 31 = o_lld 4 33 := rfl
theorem k195_33 : CD 195 33 = o_lret := rfl
theorem k196_0 : CD 196 0 = o_ald 0 1 := rfl
theorem k196_1 : CD 196 1 = o_push (vl (0 : Nat)) 2 := rfl
theorem k196_2 : CD 196 2 = o_putL 10 42 5 := rfl
theorem k196_5 : CD 196 5 = o_ald 0 6 := rfl
theorem k196_6 : CD 196 6 = o_push (vl (0 : Nat)) 7 := rfl
theorem k196_7 : CD 196 7 = o_putL 10 43 10 := rfl
theorem k196_10 : CD 196 10 = o_push (vi 0) 11 := rfl
theorem k196_11 : CD 196 11 = o_ist 2 12 := rfl
theorem k196_12 : CD 196 12 = o_ild 2 13 := rfl
theorem k196_13 : CD 196 13 = o_ald 0 14 := rfl
theorem k196_14 : CD 196 14 = o_getI 10 10 17 := rfl
theorem k196_17 : CD 196 17 = o_icge 75 20 := rfl
theorem k196_20 : CD 196 20 = o_ald 0 21 := rfl
theorem k196_21 : CD 196 21 = o_ild 1 22 := rfl
theorem k196_22 : CD 196 22 = o_push (vi 2) 23 := rfl
theorem k196_23 : CD 196 23 = o_ild 2 24 := rfl
theorem k196_24 : CD 196 24 = o_iadd 25 := rfl
theorem k196_25 : CD 196 25 = o_ald 0 26 := rfl
theorem k196_26 : CD 196 26 = o_getI 10 0 29 := rfl
theorem k196_29 : CD 196 29 = o_inv 10 191 3 32 := rfl
theorem k196_32 : CD 196 32 = o_ald 0 33 := rfl
theorem k196_33 : CD 196 33 = o_dupr 34 := rfl
theorem k196_34 : CD 196 34 = o_getL 10 42 37 := rfl
theorem k196_37 : CD 196 37 = o_ald 0 38 := rfl
theorem k196_38 : CD 196 38 = o_getR 10 11 41 := rfl
theorem k196_41 : CD 196 41 = o_ild 2 42 := rfl
theorem k196_42 : CD 196 42 = o_iald 43 := rfl
theorem k196_43 : CD 196 43 = o_ald 0 44 := rfl
theorem k196_44 : CD 196 44 = o_getI 10 36 47 := rfl
theorem k196_47 : CD 196 47 = o_imul 48 := rfl
theorem k196_48 : CD 196 48 = o_i2l 49 := rfl
theorem k196_49 : CD 196 49 = o_ladd 50 := rfl
theorem k196_50 : CD 196 50 = o_putL 10 42 53 := rfl
theorem k196_53 : CD 196 53 = o_ald 0 54 := rfl
theorem k196_54 : CD 196 54 = o_dupr 55 := rfl
theorem k196_55 : CD 196 55 = o_getL 10 43 58 := rfl
theorem k196_58 : CD 196 58 = o_ald 0 59 := rfl
theorem k196_59 : CD 196 59 = o_getR 10 11 62 := rfl
theorem k196_62 : CD 196 62 = o_ild 2 63 := rfl
theorem k196_63 : CD 196 63 = o_iald 64 := rfl
theorem k196_64 : CD 196 64 = o_i2l 65 := rfl
theorem k196_65 : CD 196 65 = o_ladd 66 := rfl
theorem k196_66 : CD 196 66 = o_putL 10 43 69 := rfl
theorem k196_69 : CD 196 69 = o_iinc 2 1 72 := rfl
theorem k196_72 : CD 196 72 = o_goto 12 := rfl
theorem k196_75 : CD 196 75 = o_vret := rfl
theorem k197_0 : CD 197 0 = o_ild 1 1 := rfl
theorem k197_1 : CD 197 1 = o_push (vi 0) 2 := rfl
theorem k197_2 : CD 197 2 = o_push (vi 2) 3 := rfl
theorem k197_3 : CD 197 3 = o_sta 136 3 6 := rfl
theorem k197_6 : CD 197 6 = o_ifeq 18 9 := rfl
theorem k197_9 : CD 197 9 = o_ild 2 10 := rfl
theorem k197_10 : CD 197 10 = o_push (vi 0) 11 := rfl
theorem k197_11 : CD 197 11 = o_push (vi 1) 12 := rfl
theorem k197_12 : CD 197 12 = o_sta 136 3 15 := rfl
theorem k197_15 : CD 197 15 = o_ifne 21 18 := rfl
theorem k197_18 : CD 197 18 = o_push (vi (-3)) 20 := rfl
theorem k197_20 : CD 197 20 = o_iret := rfl
theorem k197_21 : CD 197 21 = o_ald 0 22 := rfl
theorem k197_22 : CD 197 22 = o_getI 10 10 25 := rfl
theorem k197_25 : CD 197 25 = o_ifne 30 28 := rfl
theorem k197_28 : CD 197 28 = o_push (vi (-1)) 29 := rfl
theorem k197_29 : CD 197 29 = o_iret := rfl
theorem k197_30 : CD 197 30 = o_ald 0 31 := rfl
theorem k197_31 : CD 197 31 = o_ild 1 32 := rfl
theorem k197_32 : CD 197 32 = o_inv 10 196 1 35 := rfl
theorem k197_35 : CD 197 35 = o_ald 0 36 := rfl
theorem k197_36 : CD 197 36 = o_getL 10 42 39 := rfl
theorem k197_39 : CD 197 39 = o_ald 0 40 := rfl
theorem k197_40 : CD 197 40 = o_getL 10 43 43 := rfl
theorem k197_43 : CD 197 43 = o_sta 195 2 46 := rfl
theorem k197_46 : CD 197 46 = o_lst 3 47 := rfl
theorem k197_47 : CD 197 47 = o_ild 2 48 := rfl
theorem k197_48 : CD 197 48 = o_ifne 58 51 := rfl
theorem k197_51 : CD 197 51 = o_ald 0 52 := rfl
theorem k197_52 : CD 197 52 = o_getL 10 42 55 := rfl
theorem k197_55 : CD 197 55 = o_goto 62 := rfl
theorem k197_58 : CD 197 58 = o_ald 0 59 := rfl
theorem k197_59 : CD 197 59 = o_getL 10 43 62 := rfl
theorem k197_62 : CD 197 62 = o_lld 3 63 := rfl
theorem k197_63 : CD 197 63 = o_ldiv 64 := rfl
theorem k197_64 : CD 197 64 = o_l2i 65 := rfl
theorem k197_65 : CD 197 65 = o_iret := rfl
theorem k198_0 : CD 198 0 = o_ild 1 1 := rfl
theorem k198_1 : CD 198 1 = o_push (vi 0) 2 := rfl
theorem k198_2 : CD 198 2 = o_push (vi 2) 3 := rfl
theorem k198_3 : CD 198 3 = o_sta 136 3 6 := rfl
theorem k198_6 : CD 198 6 = o_ifne 12 9 := rfl
theorem k198_9 : CD 198 9 = o_push (vi (-3)) 11 := rfl
theorem k198_11 : CD 198 11 = o_iret := rfl
theorem k198_12 : CD 198 12 = o_push (vi (-1)) 13 := rfl
theorem k198_13 : CD 198 13 = o_ist 2 14 := rfl
theorem k198_14 : CD 198 14 = o_push (vi 0) 15 := rfl
theorem k198_15 : CD 198 15 = o_ist 3 16 := rfl
theorem k198_16 : CD 198 16 = o_ild 3 17 := rfl
theorem k198_17 : CD 198 17 = o_ald 0 18 := rfl
theorem k198_18 : CD 198 18 = o_getI 10 10 21 := rfl
theorem k198_21 : CD 198 21 = o_icge 64 24 := rfl
theorem k198_24 : CD 198 24 = o_ald 0 25 := rfl
theorem k198_25 : CD 198 25 = o_ild 1 26 := rfl
theorem k198_26 : CD 198 26 = o_push (vi 2) 27 := rfl
theorem k198_27 : CD 198 27 = o_ild 3 28 := rfl
theorem k198_28 : CD 198 28 = o_iadd 29 := rfl
theorem k198_29 : CD 198 29 = o_ald 0 30 := rfl
theorem k198_30 : CD 198 30 = o_getI 10 0 33 := rfl
theorem k198_33 : CD 198 33 = o_inv 10 191 3 36 := rfl
theorem k198_36 : CD 198 36 = o_ild 2 37 := rfl
theorem k198_37 : CD 198 37 = o_push (vi (-1)) 38 := rfl
theorem k198_38 : CD 198 38 = o_iceq 49 41 := rfl
theorem k198_41 : CD 198 41 = o_ald 0 42 := rfl
theorem k198_42 : CD 198 42 = o_getI 10 36 45 := rfl
theorem k198_45 : CD 198 45 = o_ild 2 46 := rfl
theorem k198_46 : CD 198 46 = o_icge 56 49 := rfl
theorem k198_49 : CD 198 49 = o_ald 0 50 := rfl
theorem k198_50 : CD 198 50 = o_getI 10 36 53 := rfl
theorem k198_53 : CD 198 53 = o_goto 57 := rfl
theorem k198_56 : CD 198 56 = o_ild 2 57 := rfl
theorem k198_57 : CD 198 57 = o_ist 2 58 := rfl
theorem k198_58 : CD 198 58 = o_iinc 3 1 61 := rfl
theorem k198_61 : CD 198 61 = o_goto 16 := rfl
theorem k198_64 : CD 198 64 = o_ild 2 65 := rfl
theorem k198_65 : CD 198 65 = o_iret := rfl
theorem k199_0 : CD 199 0 = o_push (vi (-1)) 1 := rfl
theorem k199_1 : CD 199 1 = o_ist 1 2 := rfl
theorem k199_2 : CD 199 2 = o_push (vl (0 : Nat)) 3 := rfl
theorem k199_3 : CD 199 3 = o_lst 2 4 := rfl
theorem k199_4 : CD 199 4 = o_push (vi 0) 5 := rfl
theorem k199_5 : CD 199 5 = o_ist 4 7 := rfl
theorem k199_7 : CD 199 7 = o_ild 4 9 := rfl
theorem k199_9 : CD 199 9 = o_push (vi 3) 10 := rfl
theorem k199_10 : CD 199 10 = o_icge 71 13 := rfl
theorem k199_13 : CD 199 13 = o_ald 0 14 := rfl
theorem k199_14 : CD 199 14 = o_getI 10 10 17 := rfl
theorem k199_17 : CD 199 17 = o_ifle 71 20 := rfl
theorem k199_20 : CD 199 20 = o_ald 0 21 := rfl
theorem k199_21 : CD 199 21 = o_ild 4 23 := rfl
theorem k199_23 : CD 199 23 = o_inv 10 196 1 26 := rfl
theorem k199_26 : CD 199 26 = o_ild 1 27 := rfl
theorem k199_27 : CD 199 27 = o_push (vi (-1)) 28 := rfl
theorem k199_28 : CD 199 28 = o_iceq 40 31 := rfl
theorem k199_31 : CD 199 31 = o_ald 0 32 := rfl
theorem k199_32 : CD 199 32 = o_getL 10 42 35 := rfl
theorem k199_35 : CD 199 35 = o_lld 2 36 := rfl
theorem k199_36 : CD 199 36 = o_lcmp 37 := rfl
theorem k199_37 : CD 199 37 = o_ifle 45 40 := rfl
theorem k199_40 : CD 199 40 = o_ild 4 42 := rfl
theorem k199_42 : CD 199 42 = o_goto 46 := rfl
theorem k199_45 : CD 199 45 = o_ild 1 46 := rfl
theorem k199_46 : CD 199 46 = o_ist 1 47 := rfl
theorem k199_47 : CD 199 47 = o_ald 0 48 := rfl
theorem k199_48 : CD 199 48 = o_getL 10 42 51 := rfl
theorem k199_51 : CD 199 51 = o_lld 2 52 := rfl
theorem k199_52 : CD 199 52 = o_lcmp 53 := rfl
theorem k199_53 : CD 199 53 = o_ifle 63 56 := rfl
theorem k199_56 : CD 199 56 = o_ald 0 57 := rfl
theorem k199_57 : CD 199 57 = o_getL 10 42 60 := rfl
theorem k199_60 : CD 199 60 = o_goto 64 := rfl
theorem k199_63 : CD 199 63 = o_lld 2 64 := rfl
theorem k199_64 : CD 199 64 = o_lst 2 65 := rfl
theorem k199_65 : CD 199 65 = o_iinc 4 1 68 := rfl
theorem k199_68 : CD 199 68 = o_goto 7 := rfl
theorem k199_71 : CD 199 71 = o_ild 1 72 := rfl
theorem k199_72 : CD 199 72 = o_iret := rfl
theorem k200_0 : CD 200 0 = o_ald 0 1 := rfl
theorem k200_1 : CD 200 1 = o_inv 10 177 0 4 := rfl
theorem k200_4 : CD 200 4 = o_ald 0 5 := rfl
theorem k200_5 : CD 200 5 = o_inv 10 178 0 8 := rfl
theorem k200_8 : CD 200 8 = o_ald 0 9 := rfl
theorem k200_9 : CD 200 9 = o_getI 10 27 12 := rfl
theorem k200_12 : CD 200 12 = o_ist 6 14 := rfl
theorem k200_14 : CD 200 14 = o_ald 0 15 := rfl
theorem k200_15 : CD 200 15 = o_push (vi (-1)) 16 := rfl
theorem k200_16 : CD 200 16 = o_putI 10 40 19 := rfl
theorem k200_19 : CD 200 19 = o_ald 0 20 := rfl
theorem k200_20 : CD 200 20 = o_push (vi (-1)) 21 := rfl
theorem k200_21 : CD 200 21 = o_putI 10 41 24 := rfl
theorem k200_24 : CD 200 24 = o_ild 4 26 := rfl
theorem k200_26 : CD 200 26 = o_ist 7 28 := rfl
theorem k200_28 : CD 200 28 = o_ild 7 30 := rfl
theorem k200_30 : CD 200 30 = o_ild 5 32 := rfl
theorem k200_32 : CD 200 32 = o_icgt 251 35 := rfl
theorem k200_35 : CD 200 35 = o_push (vi 0) 36 := rfl
theorem k200_36 : CD 200 36 = o_ist 8 38 := rfl
theorem k200_38 : CD 200 38 = o_ild 7 40 := rfl
theorem k200_40 : CD 200 40 = o_ild 3 41 := rfl
theorem k200_41 : CD 200 41 = o_push (vi 1000) 44 := rfl
theorem k200_44 : CD 200 44 = o_idiv 45 := rfl
theorem k200_45 : CD 200 45 = o_iadd 46 := rfl
theorem k200_46 : CD 200 46 = o_ald 0 47 := rfl
theorem k200_47 : CD 200 47 = o_getI 10 0 50 := rfl
theorem k200_50 : CD 200 50 = o_icgt 57 53 := rfl
theorem k200_53 : CD 200 53 = o_push (vi 1) 54 := rfl
theorem k200_54 : CD 200 54 = o_goto 58 := rfl
theorem k200_57 : CD 200 57 = o_push (vi 0) 58 := rfl
theorem k200_58 : CD 200 58 = o_ist 9 60 := rfl
theorem k200_60 : CD 200 60 = o_ild 7 62 := rfl
theorem k200_62 : CD 200 62 = o_ist 10 64 := rfl
theorem k200_64 : CD 200 64 = o_ild 10 66 := rfl
theorem k200_66 : CD 200 66 = o_ild 7 68 := rfl
theorem k200_68 : CD 200 68 = o_ild 3 69 := rfl
theorem k200_69 : CD 200 69 = o_push (vi 1000) 72 := rfl
theorem k200_72 : CD 200 72 = o_idiv 73 := rfl
theorem k200_73 : CD 200 73 = o_iadd 74 := rfl
theorem k200_74 : CD 200 74 = o_icge 125 77 := rfl
theorem k200_77 : CD 200 77 = o_ild 9 79 := rfl
theorem k200_79 : CD 200 79 = o_ifeq 125 82 := rfl
theorem k200_82 : CD 200 82 = o_ald 0 83 := rfl
theorem k200_83 : CD 200 83 = o_ild 1 84 := rfl
theorem k200_84 : CD 200 84 = o_ild 10 86 := rfl
theorem k200_86 : CD 200 86 = o_push (vi 0) 87 := rfl
theorem k200_87 : CD 200 87 = o_ild 3 88 := rfl
theorem k200_88 : CD 200 88 = o_push (vi 100) 90 := rfl
theorem k200_90 : CD 200 90 = o_idiv 91 := rfl
theorem k200_91 : CD 200 91 = o_push (vi 10) 93 := rfl
theorem k200_93 : CD 200 93 = o_irem 94 := rfl
theorem k200_94 : CD 200 94 = o_ild 3 95 := rfl
theorem k200_95 : CD 200 95 = o_push (vi 10) 97 := rfl
theorem k200_97 : CD 200 97 = o_idiv 98 := rfl
theorem k200_98 : CD 200 98 = o_push (vi 10) 100 := rfl
theorem k200_100 : CD 200 100 = o_irem 101 := rfl
theorem k200_101 : CD 200 101 = o_ild 3 102 := rfl
theorem k200_102 : CD 200 102 = o_push (vi 10) 104 := rfl
theorem k200_104 : CD 200 104 = o_irem 105 := rfl
theorem k200_105 : CD 200 105 = o_inv 10 168 6 108 := rfl
theorem k200_108 : CD 200 108 = o_ist 9 110 := rfl
theorem k200_110 : CD 200 110 = o_ild 8 112 := rfl
theorem k200_112 : CD 200 112 = o_push (vi 1) 113 := rfl
theorem k200_113 : CD 200 113 = o_ild 10 115 := rfl
theorem k200_115 : CD 200 115 = o_ishl 116 := rfl
theorem k200_116 : CD 200 116 = o_ior 117 := rfl
theorem k200_117 : CD 200 117 = o_ist 8 119 := rfl
theorem k200_119 : CD 200 119 = o_iinc 10 1 122 := rfl
theorem k200_122 : CD 200 122 = o_goto 64 := rfl
theorem k200_125 : CD 200 125 = o_ild 9 127 := rfl
theorem k200_127 : CD 200 127 = o_ifeq 245 130 := rfl
theorem k200_130 : CD 200 130 = o_push (vi 0) 131 := rfl
theorem k200_131 : CD 200 131 = o_ist 10 133 := rfl
theorem k200_133 : CD 200 133 = o_ild 10 135 := rfl
theorem k200_135 : CD 200 135 = o_ald 0 136 := rfl
theorem k200_136 : CD 200 136 = o_getI 10 21 139 := rfl
theorem k200_139 : CD 200 139 = o_icge 202 142 := rfl
theorem k200_142 : CD 200 142 = o_push (vi 0) 143 := rfl
theorem k200_143 : CD 200 143 = o_ist 11 145 := rfl
theorem k200_145 : CD 200 145 = o_ild 11 147 := rfl
theorem k200_147 : CD 200 147 = o_ald 0 148 := rfl
theorem k200_148 : CD 200 148 = o_getR 10 23 151 := rfl
theorem k200_151 : CD 200 151 = o_ild 10 153 := rfl
theorem k200_153 : CD 200 153 = o_iald 154 := rfl
theorem k200_154 : CD 200 154 = o_icge 196 157 := rfl
theorem k200_157 : CD 200 157 = o_ald 0 158 := rfl
theorem k200_158 : CD 200 158 = o_getR 10 26 161 := rfl
theorem k200_161 : CD 200 161 = o_push (vi 200) 164 := rfl
theorem k200_164 : CD 200 164 = o_ild 10 166 := rfl
theorem k200_166 : CD 200 166 = o_imul 167 := rfl
theorem k200_167 : CD 200 167 = o_ild 11 169 := rfl
theorem k200_169 : CD 200 169 = o_iadd 170 := rfl
theorem k200_170 : CD 200 170 = o_ald 0 171 := rfl
theorem k200_171 : CD 200 171 = o_ild 10 173 := rfl
theorem k200_173 : CD 200 173 = o_ild 11 175 := rfl
theorem k200_175 : CD 200 175 = o_ild 8 177 := rfl
theorem k200_177 : CD 200 177 = o_ild 2 178 := rfl
theorem k200_178 : CD 200 178 = o_inv 10 175 4 181 := rfl
theorem k200_181 : CD 200 181 = o_ifne 188 184 := rfl
theorem k200_184 : CD 200 184 = o_push (vi 1) 185 := rfl
theorem k200_185 : CD 200 185 = o_goto 189 := rfl
theorem k200_188 : CD 200 188 = o_push (vi 0) 189 := rfl
theorem k200_189 : CD 200 189 = o_bast 190 := rfl
theorem k200_190 : CD 200 190 = o_iinc 11 1 193 := rfl
theorem k200_193 : CD 200 193 = o_goto 145 := rfl
theorem k200_196 : CD 200 196 = o_iinc 10 1 199 := rfl
theorem k200_199 : CD 200 199 = o_goto 133 := rfl
theorem k200_202 : CD 200 202 = o_ald 0 203 := rfl
theorem k200_203 : CD 200 203 = o_inv 10 178 0 206 := rfl
theorem k200_206 : CD 200 206 = o_ald 0 207 := rfl
theorem k200_207 : CD 200 207 = o_getI 10 40 210 := rfl
theorem k200_210 : CD 200 210 = o_push (vi (-1)) 211 := rfl
theorem k200_211 : CD 200 211 = o_iceq 228 214 := rfl
theorem k200_214 : CD 200 214 = o_ild 6 216 := rfl
theorem k200_216 : CD 200 216 = o_ald 0 217 := rfl
theorem k200_217 : CD 200 217 = o_getI 10 27 220 := rfl
theorem k200_220 : CD 200 220 = o_isub 221 := rfl
theorem k200_221 : CD 200 221 = o_ald 0 222 := rfl
theorem k200_222 : CD 200 222 = o_getI 10 41 225 := rfl
theorem k200_225 : CD 200 225 = o_icge 245 228 := rfl
theorem k200_228 : CD 200 228 = o_ald 0 229 := rfl
theorem k200_229 : CD 200 229 = o_ild 7 231 := rfl
theorem k200_231 : CD 200 231 = o_putI 10 40 234 := rfl
theorem k200_234 : CD 200 234 = o_ald 0 235 := rfl
theorem k200_235 : CD 200 235 = o_ild 6 237 := rfl
theorem k200_237 : CD 200 237 = o_ald 0 238 := rfl
theorem k200_238 : CD 200 238 = o_getI 10 27 241 := rfl
theorem k200_241 : CD 200 241 = o_isub 242 := rfl
theorem k200_242 : CD 200 242 = o_putI 10 41 245 := rfl
theorem k200_245 : CD 200 245 = o_iinc 7 1 248 := rfl
theorem k200_248 : CD 200 248 = o_goto 28 := rfl
theorem k200_251 : CD 200 251 = o_vret := rfl
theorem k201_0 : CD 201 0 = o_ald 0 1 := rfl
theorem k201_1 : CD 201 1 = o_ild 1 2 := rfl
theorem k201_2 : CD 201 2 = o_inv 10 138 1 5 := rfl
theorem k201_5 : CD 201 5 = o_ifne 11 8 := rfl
theorem k201_8 : CD 201 8 = o_push (vi (-2)) 10 := rfl
theorem k201_10 : CD 201 10 = o_iret := rfl
theorem k201_11 : CD 201 11 = o_ild 2 12 := rfl
theorem k201_12 : CD 201 12 = o_push (vi 0) 13 := rfl
theorem k201_13 : CD 201 13 = o_push (vi 2) 14 := rfl
theorem k201_14 : CD 201 14 = o_sta 136 3 17 := rfl
theorem k201_17 : CD 201 17 = o_ifeq 99 20 := rfl
theorem k201_20 : CD 201 20 = o_ild 3 21 := rfl
theorem k201_21 : CD 201 21 = o_push (vi 1000) 24 := rfl
theorem k201_24 : CD 201 24 = o_push (vi 4999) 27 := rfl
theorem k201_27 : CD 201 27 = o_sta 136 3 30 := rfl
theorem k201_30 : CD 201 30 = o_ifeq 99 33 := rfl
theorem k201_33 : CD 201 33 = o_ild 3 34 := rfl
theorem k201_34 : CD 201 34 = o_push (vi 100) 36 := rfl
theorem k201_36 : CD 201 36 = o_idiv 37 := rfl
theorem k201_37 : CD 201 37 = o_push (vi 10) 39 := rfl
theorem k201_39 : CD 201 39 = o_irem 40 := rfl
theorem k201_40 : CD 201 40 = o_push (vi 3) 41 := rfl
theorem k201_41 : CD 201 41 = o_icgt 99 44 := rfl
theorem k201_44 : CD 201 44 = o_ild 3 45 := rfl
theorem k201_45 : CD 201 45 = o_push (vi 10) 47 := rfl
theorem k201_47 : CD 201 47 = o_idiv 48 := rfl
theorem k201_48 : CD 201 48 = o_push (vi 10) 50 := rfl
theorem k201_50 : CD 201 50 = o_irem 51 := rfl
theorem k201_51 : CD 201 51 = o_push (vi 8) 53 := rfl
theorem k201_53 : CD 201 53 = o_icgt 99 56 := rfl
theorem k201_56 : CD 201 56 = o_ild 3 57 := rfl
theorem k201_57 : CD 201 57 = o_push (vi 10) 59 := rfl
theorem k201_59 : CD 201 59 = o_irem 60 := rfl
theorem k201_60 : CD 201 60 = o_push (vi 1) 61 := rfl
theorem k201_61 : CD 201 61 = o_icgt 99 64 := rfl
theorem k201_64 : CD 201 64 = o_ald 0 65 := rfl
theorem k201_65 : CD 201 65 = o_ild 4 67 := rfl
theorem k201_67 : CD 201 67 = o_inv 10 137 1 70 := rfl
theorem k201_70 : CD 201 70 = o_ifeq 99 73 := rfl
theorem k201_73 : CD 201 73 = o_ald 0 74 := rfl
theorem k201_74 : CD 201 74 = o_ild 5 76 := rfl
theorem k201_76 : CD 201 76 = o_inv 10 137 1 79 := rfl
theorem k201_79 : CD 201 79 = o_ifeq 99 82 := rfl
theorem k201_82 : CD 201 82 = o_ild 4 84 := rfl
theorem k201_84 : CD 201 84 = o_ild 5 86 := rfl
theorem k201_86 : CD 201 86 = o_icgt 99 89 := rfl
theorem k201_89 : CD 201 89 = o_ild 6 91 := rfl
theorem k201_91 : CD 201 91 = o_push (vi 0) 92 := rfl
theorem k201_92 : CD 201 92 = o_push (vi 1) 93 := rfl
theorem k201_93 : CD 201 93 = o_sta 136 3 96 := rfl
theorem k201_96 : CD 201 96 = o_ifne 102 99 := rfl
theorem k201_99 : CD 201 99 = o_push (vi (-3)) 101 := rfl
theorem k201_101 : CD 201 101 = o_iret := rfl
theorem k201_102 : CD 201 102 = o_ald 0 103 := rfl
theorem k201_103 : CD 201 103 = o_ild 1 104 := rfl
theorem k201_104 : CD 201 104 = o_ild 2 105 := rfl
theorem k201_105 : CD 201 105 = o_ild 3 106 := rfl
theorem k201_106 : CD 201 106 = o_ild 4 108 := rfl
theorem k201_108 : CD 201 108 = o_ild 5 110 := rfl
theorem k201_110 : CD 201 110 = o_inv 10 200 5 113 := rfl
theorem k201_113 : CD 201 113 = o_ild 6 115 := rfl
theorem k201_115 : CD 201 115 = o_ifne 125 118 := rfl
theorem k201_118 : CD 201 118 = o_ald 0 119 := rfl
theorem k201_119 : CD 201 119 = o_getI 10 40 122 := rfl
theorem k201_122 : CD 201 122 = o_goto 129 := rfl
theorem k201_125 : CD 201 125 = o_ald 0 126 := rfl
theorem k201_126 : CD 201 126 = o_getI 10 41 129 := rfl
theorem k201_129 : CD 201 129 = o_iret := rfl
theorem k202_0 : CD 202 0 = o_ild 1 1 := rfl
theorem k202_1 : CD 202 1 = o_push (vi 0) 2 := rfl
theorem k202_2 : CD 202 2 = o_push (vi 3) 3 := rfl
theorem k202_3 : CD 202 3 = o_sta 136 3 6 := rfl
theorem k202_6 : CD 202 6 = o_ifne 12 9 := rfl
theorem k202_9 : CD 202 9 = o_push (vi (-2)) 11 := rfl
theorem k202_11 : CD 202 11 = o_iret := rfl
theorem k202_12 : CD 202 12 = o_ild 2 13 := rfl
theorem k202_13 : CD 202 13 = o_push (vi 1) 14 := rfl
theorem k202_14 : CD 202 14 = o_push (vi 20) 16 := rfl
theorem k202_16 : CD 202 16 = o_sta 136 3 19 := rfl
theorem k202_19 : CD 202 19 = o_ifne 25 22 := rfl
theorem k202_22 : CD 202 22 = o_push (vi (-3)) 24 := rfl
theorem k202_24 : CD 202 24 = o_iret := rfl
theorem k202_25 : CD 202 25 = o_ald 0 26 := rfl
theorem k202_26 : CD 202 26 = o_getR 10 37 29 := rfl
theorem k202_29 : CD 202 29 = o_ild 1 30 := rfl
theorem k202_30 : CD 202 30 = o_iald 31 := rfl
theorem k202_31 : CD 202 31 = o_ist 3 32 := rfl
theorem k202_32 : CD 202 32 = o_ald 0 33 := rfl
theorem k202_33 : CD 202 33 = o_getR 10 37 36 := rfl
theorem k202_36 : CD 202 36 = o_ild 1 37 := rfl
theorem k202_37 : CD 202 37 = o_ild 2 38 := rfl
theorem k202_38 : CD 202 38 = o_iast 39 := rfl
theorem k202_39 : CD 202 39 = o_ild 3 40 := rfl
theorem k202_40 : CD 202 40 = o_iret := rfl
theorem k203_0 : CD 203 0 = o_ild 1 1 := rfl
theorem k203_1 : CD 203 1 = o_push (vi 0) 2 := rfl
theorem k203_2 : CD 203 2 = o_push (vi 2) 3 := rfl
theorem k203_3 : CD 203 3 = o_sta 136 3 6 := rfl
theorem k203_6 : CD 203 6 = o_ifne 12 9 := rfl
theorem k203_9 : CD 203 9 = o_push (vi (-3)) 11 := rfl
theorem k203_11 : CD 203 11 = o_iret := rfl
theorem k203_12 : CD 203 12 = o_ald 0 13 := rfl
theorem k203_13 : CD 203 13 = o_getI 10 1 16 := rfl
theorem k203_16 : CD 203 16 = o_push (vi 300) 19 := rfl
theorem k203_19 : CD 203 19 = o_icne 25 22 := rfl
theorem k203_22 : CD 203 22 = o_push (vi (-4)) 24 := rfl
theorem k203_24 : CD 203 24 = o_iret := rfl
theorem k203_25 : CD 203 25 = o_ald 0 26 := rfl
theorem k203_26 : CD 203 26 = o_ild 1 27 := rfl
theorem k203_27 : CD 203 27 = o_push (vi 1) 28 := rfl
theorem k203_28 : CD 203 28 = o_ald 0 29 := rfl
theorem k203_29 : CD 203 29 = o_getI 10 0 32 := rfl
theorem k203_32 : CD 203 32 = o_inv 10 191 3 35 := rfl
theorem k203_35 : CD 203 35 = o_push (vi 0) 36 := rfl
theorem k203_36 : CD 203 36 = o_ist 2 37 := rfl
theorem k203_37 : CD 203 37 = o_ild 2 38 := rfl
theorem k203_38 : CD 203 38 = o_ald 0 39 := rfl
theorem k203_39 : CD 203 39 = o_getI 10 0 42 := rfl
theorem k203_42 : CD 203 42 = o_icge 103 45 := rfl
theorem k203_45 : CD 203 45 = o_ald 0 46 := rfl
theorem k203_46 : CD 203 46 = o_getR 10 35 49 := rfl
theorem k203_49 : CD 203 49 = o_ild 2 50 := rfl
theorem k203_50 : CD 203 50 = o_iald 51 := rfl
theorem k203_51 : CD 203 51 = o_ist 3 52 := rfl
theorem k203_52 : CD 203 52 = o_ald 0 53 := rfl
theorem k203_53 : CD 203 53 = o_getR 10 38 56 := rfl
theorem k203_56 : CD 203 56 = o_ild 3 57 := rfl
theorem k203_57 : CD 203 57 = o_push (vi 20) 59 := rfl
theorem k203_59 : CD 203 59 = o_icge 77 62 := rfl
theorem k203_62 : CD 203 62 = o_ald 0 63 := rfl
theorem k203_63 : CD 203 63 = o_getR 10 22 66 := rfl
theorem k203_66 : CD 203 66 = o_push (vi 23) 68 := rfl
theorem k203_68 : CD 203 68 = o_ild 3 69 := rfl
theorem k203_69 : CD 203 69 = o_push (vi 10) 71 := rfl
theorem k203_71 : CD 203 71 = o_irem 72 := rfl
theorem k203_72 : CD 203 72 = o_imul 73 := rfl
theorem k203_73 : CD 203 73 = o_iald 74 := rfl
theorem k203_74 : CD 203 74 = o_goto 81 := rfl
theorem k203_77 : CD 203 77 = o_ild 3 78 := rfl
theorem k203_78 : CD 203 78 = o_push (vi 16) 80 := rfl
theorem k203_80 : CD 203 80 = o_isub 81 := rfl
theorem k203_81 : CD 203 81 = o_dup2ir 82 := rfl
theorem k203_82 : CD 203 82 = o_iald 83 := rfl
theorem k203_83 : CD 203 83 = o_push (vi 1) 84 := rfl
theorem k203_84 : CD 203 84 = o_iadd 85 := rfl
theorem k203_85 : CD 203 85 = o_iast 86 := rfl
theorem k203_86 : CD 203 86 = o_ald 0 87 := rfl
theorem k203_87 : CD 203 87 = o_getR 10 38 90 := rfl
theorem k203_90 : CD 203 90 = o_push (vi 7) 92 := rfl
theorem k203_92 : CD 203 92 = o_dup2ir 93 := rfl
theorem k203_93 : CD 203 93 = o_iald 94 := rfl
theorem k203_94 : CD 203 94 = o_push (vi 1) 95 := rfl
theorem k203_95 : CD 203 95 = o_iadd 96 := rfl
theorem k203_96 : CD 203 96 = o_iast 97 := rfl
theorem k203_97 : CD 203 97 = o_iinc 2 1 100 := rfl
theorem k203_100 : CD 203 100 = o_goto 37 := rfl
theorem k203_103 : CD 203 103 = o_ald 0 104 := rfl
theorem k203_104 : CD 203 104 = o_getI 10 21 107 := rfl
theorem k203_107 : CD 203 107 = o_push (vi 1) 108 := rfl
theorem k203_108 : CD 203 108 = o_isub 109 := rfl
theorem k203_109 : CD 203 109 = o_ist 2 110 := rfl
theorem k203_110 : CD 203 110 = o_ild 2 111 := rfl
theorem k203_111 : CD 203 111 = o_iflt 136 114 := rfl
theorem k203_114 : CD 203 114 = o_ald 0 115 := rfl
theorem k203_115 : CD 203 115 = o_getR 10 32 118 := rfl
theorem k203_118 : CD 203 118 = o_ild 2 119 := rfl
theorem k203_119 : CD 203 119 = o_iald 120 := rfl
theorem k203_120 : CD 203 120 = o_push (vi 8) 122 := rfl
theorem k203_122 : CD 203 122 = o_icne 130 125 := rfl
theorem k203_125 : CD 203 125 = o_ald 0 126 := rfl
theorem k203_126 : CD 203 126 = o_ild 2 127 := rfl
theorem k203_127 : CD 203 127 = o_inv 10 161 1 130 := rfl
theorem k203_130 : CD 203 130 = o_iinc 2 (-1) 133 := rfl
theorem k203_133 : CD 203 133 = o_goto 110 := rfl
theorem k203_136 : CD 203 136 = o_ald 0 137 := rfl
theorem k203_137 : CD 203 137 = o_dupr 138 := rfl
theorem k203_138 : CD 203 138 = o_getI 10 39 141 := rfl
theorem k203_141 : CD 203 141 = o_ald 0 142 := rfl
theorem k203_142 : CD 203 142 = o_getI 10 36 145 := rfl
theorem k203_145 : CD 203 145 = o_iadd 146 := rfl
theorem k203_146 : CD 203 146 = o_putI 10 39 149 := rfl
theorem k203_149 : CD 203 149 = o_ald 0 150 := rfl
theorem k203_150 : CD 203 150 = o_dupr 151 := rfl
theorem k203_151 : CD 203 151 = o_getI 10 1 154 := rfl
theorem k203_154 : CD 203 154 = o_push (vi 1) 155 := rfl
theorem k203_155 : CD 203 155 = o_iadd 156 := rfl
theorem k203_156 : CD 203 156 = o_putI 10 1 159 := rfl
theorem k203_159 : CD 203 159 = o_ald 0 160 := rfl
theorem k203_160 : CD 203 160 = o_push (vi (-1)) 161 := rfl
theorem k203_161 : CD 203 161 = o_putI 10 6 164 := rfl
theorem k203_164 : CD 203 164 = o_push (vi 0) 165 := rfl
theorem k203_165 : CD 203 165 = o_ist 2 166 := rfl
theorem k203_166 : CD 203 166 = o_ild 2 167 := rfl
theorem k203_167 : CD 203 167 = o_push (vi 24) 169 := rfl
theorem k203_169 : CD 203 169 = o_icge 185 172 := rfl
theorem k203_172 : CD 203 172 = o_ald 0 173 := rfl
theorem k203_173 : CD 203 173 = o_getR 10 9 176 := rfl
theorem k203_176 : CD 203 176 = o_ild 2 177 := rfl
theorem k203_177 : CD 203 177 = o_push (vi 1) 178 := rfl
theorem k203_178 : CD 203 178 = o_iast 179 := rfl
theorem k203_179 : CD 203 179 = o_iinc 2 1 182 := rfl
theorem k203_182 : CD 203 182 = o_goto 166 := rfl
theorem k203_185 : CD 203 185 = o_ald 0 186 := rfl
theorem k203_186 : CD 203 186 = o_getI 10 36 189 := rfl
theorem k203_189 : CD 203 189 = o_iret := rfl
theorem k204_0 : CD 204 0 = o_ild 1 1 := rfl
theorem k204_1 : CD 204 1 = o_push (vi 0) 2 := rfl
theorem k204_2 : CD 204 2 = o_push (vi 7) 4 := rfl
theorem k204_4 : CD 204 4 = o_sta 136 3 7 := rfl
theorem k204_7 : CD 204 7 = o_ifeq 19 10 := rfl
theorem k204_10 : CD 204 10 = o_ald 0 11 := rfl
theorem k204_11 : CD 204 11 = o_getR 10 38 14 := rfl
theorem k204_14 : CD 204 14 = o_ild 1 15 := rfl
theorem k204_15 : CD 204 15 = o_iald 16 := rfl
theorem k204_16 : CD 204 16 = o_goto 21 := rfl
theorem k204_19 : CD 204 19 = o_push (vi (-3)) 21 := rfl
theorem k204_21 : CD 204 21 = o_iret := rfl
theorem k205_0 : CD 205 0 = o_push (vi 0) 1 := rfl
theorem k205_1 : CD 205 1 = o_ist 2 2 := rfl
theorem k205_2 : CD 205 2 = o_push (vi 0) 3 := rfl
theorem k205_3 : CD 205 3 = o_ist 3 4 := rfl
theorem k205_4 : CD 205 4 = o_push (vi 0) 5 := rfl
theorem k205_5 : CD 205 5 = o_ist 4 7 := rfl
theorem k205_7 : CD 205 7 = o_ild 4 9 := rfl
theorem k205_9 : CD 205 9 = o_push (vi 4) 10 := rfl
theorem k205_10 : CD 205 10 = o_icge 39 13 := rfl
theorem k205_13 : CD 205 13 = o_ild 2 14 := rfl
theorem k205_14 : CD 205 14 = o_ald 0 15 := rfl
theorem k205_15 : CD 205 15 = o_getR 10 38 18 := rfl
theorem k205_18 : CD 205 18 = o_ild 4 20 := rfl
theorem k205_20 : CD 205 20 = o_iald 21 := rfl
theorem k205_21 : CD 205 21 = o_iadd 22 := rfl
theorem k205_22 : CD 205 22 = o_ist 2 23 := rfl
theorem k205_23 : CD 205 23 = o_ild 3 24 := rfl
theorem k205_24 : CD 205 24 = o_ald 0 25 := rfl
theorem k205_25 : CD 205 25 = o_getR 10 37 28 := rfl
theorem k205_28 : CD 205 28 = o_ild 4 30 := rfl
theorem k205_30 : CD 205 30 = o_iald 31 := rfl
theorem k205_31 : CD 205 31 = o_iadd 32 := rfl
theorem k205_32 : CD 205 32 = o_ist 3 33 := rfl
theorem k205_33 : CD 205 33 = o_iinc 4 1 36 := rfl
theorem k205_36 : CD 205 36 = o_goto 7 := rfl
theorem k205_39 : CD 205 39 = o_ald 0 40 := rfl
theorem k205_40 : CD 205 40 = o_getR 10 37 43 := rfl
theorem k205_43 : CD 205 43 = o_ild 1 44 := rfl
theorem k205_44 : CD 205 44 = o_iald 45 := rfl
theorem k205_45 : CD 205 45 = o_ild 2 46 := rfl
theorem k205_46 : CD 205 46 = o_imul 47 := rfl
theorem k205_47 : CD 205 47 = o_ild 3 48 := rfl
theorem k205_48 : CD 205 48 = o_ald 0 49 := rfl
theorem k205_49 : CD 205 49 = o_getR 10 38 52 := rfl
theorem k205_52 : CD 205 52 = o_ild 1 53 := rfl
theorem k205_53 : CD 205 53 = o_iald 54 := rfl
theorem k205_54 : CD 205 54 = o_imul 55 := rfl
theorem k205_55 : CD 205 55 = o_isub 56 := rfl
theorem k205_56 : CD 205 56 = o_iret := rfl
theorem k206_0 : CD 206 0 = o_ild 1 1 := rfl
theorem k206_1 : CD 206 1 = o_push (vi 0) 2 := rfl
theorem k206_2 : CD 206 2 = o_push (vi 3) 3 := rfl
theorem k206_3 : CD 206 3 = o_sta 136 3 6 := rfl
theorem k206_6 : CD 206 6 = o_ifeq 17 9 := rfl
theorem k206_9 : CD 206 9 = o_ald 0 10 := rfl
theorem k206_10 : CD 206 10 = o_ild 1 11 := rfl
theorem k206_11 : CD 206 11 = o_inv 10 205 1 14 := rfl
theorem k206_14 : CD 206 14 = o_goto 20 := rfl
theorem k206_17 : CD 206 17 = o_push (vi (-2147483648)) 20 := rfl
theorem k206_20 : CD 206 20 = o_iret := rfl
theorem k207_0 : CD 207 0 = o_push (vi 0) 1 := rfl
theorem k207_1 : CD 207 1 = o_ist 1 2 := rfl
theorem k207_2 : CD 207 2 = o_push (vi 1) 3 := rfl
theorem k207_3 : CD 207 3 = o_ist 2 4 := rfl
theorem k207_4 : CD 207 4 = o_ild 2 5 := rfl
theorem k207_5 : CD 207 5 = o_push (vi 4) 6 := rfl
theorem k207_6 : CD 207 6 = o_icge 34 9 := rfl
theorem k207_9 : CD 207 9 = o_ald 0 10 := rfl
theorem k207_10 : CD 207 10 = o_ild 2 11 := rfl
theorem k207_11 : CD 207 11 = o_inv 10 205 1 14 := rfl
theorem k207_14 : CD 207 14 = o_ald 0 15 := rfl
theorem k207_15 : CD 207 15 = o_ild 1 16 := rfl
theorem k207_16 : CD 207 16 = o_inv 10 205 1 19 := rfl
theorem k207_19 : CD 207 19 = o_icle 26 22 := rfl
theorem k207_22 : CD 207 22 = o_ild 2 23 := rfl
theorem k207_23 : CD 207 23 = o_goto 27 := rfl
theorem k207_26 : CD 207 26 = o_ild 1 27 := rfl
theorem k207_27 : CD 207 27 = o_ist 1 28 := rfl
theorem k207_28 : CD 207 28 = o_iinc 2 1 31 := rfl
theorem k207_31 : CD 207 31 = o_goto 4 := rfl
theorem k207_34 : CD 207 34 = o_ild 1 35 := rfl
theorem k207_35 : CD 207 35 = o_iret := rfl
