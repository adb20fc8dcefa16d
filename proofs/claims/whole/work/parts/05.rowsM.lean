theorem dX7_init_0 : decode cX7_init 0 = .ok (.aload_n 0, 1) := by decide +kernel
theorem dX7_init_1 : decode cX7_init 1 = .ok (.invokespecial 3, 3) := by decide +kernel
theorem dX7_init_4 : decode cX7_init 4 = .ok (.aload_n 0, 1) := by decide +kernel
theorem dX7_init_5 : decode cX7_init 5 = .ok (.iconst 2, 1) := by decide +kernel
theorem dX7_init_6 : decode cX7_init 6 = .ok (.putfield 9, 3) := by decide +kernel
theorem dX7_init_9 : decode cX7_init 9 = .ok (.aload_n 0, 1) := by decide +kernel
theorem dX7_init_10 : decode cX7_init 10 = .ok (.iconst 4, 1) := by decide +kernel
theorem dX7_init_11 : decode cX7_init 11 = .ok (.newarray .int, 2) := by decide +kernel
theorem dX7_init_13 : decode cX7_init 13 = .ok (.dup, 1) := by decide +kernel
theorem dX7_init_14 : decode cX7_init 14 = .ok (.iconst 0, 1) := by decide +kernel
theorem dX7_init_15 : decode cX7_init 15 = .ok (.iconst 2, 1) := by decide +kernel
theorem dX7_init_16 : decode cX7_init 16 = .ok (.iastore, 1) := by decide +kernel
theorem dX7_init_17 : decode cX7_init 17 = .ok (.dup, 1) := by decide +kernel
theorem dX7_init_18 : decode cX7_init 18 = .ok (.iconst 1, 1) := by decide +kernel
theorem dX7_init_19 : decode cX7_init 19 = .ok (.iconst 2, 1) := by decide +kernel
theorem dX7_init_20 : decode cX7_init 20 = .ok (.iastore, 1) := by decide +kernel
theorem dX7_init_21 : decode cX7_init 21 = .ok (.dup, 1) := by decide +kernel
theorem dX7_init_22 : decode cX7_init 22 = .ok (.iconst 2, 1) := by decide +kernel
theorem dX7_init_23 : decode cX7_init 23 = .ok (.iconst 0, 1) := by decide +kernel
theorem dX7_init_24 : decode cX7_init 24 = .ok (.iastore, 1) := by decide +kernel
theorem dX7_init_25 : decode cX7_init 25 = .ok (.dup, 1) := by decide +kernel
theorem dX7_init_26 : decode cX7_init 26 = .ok (.iconst 3, 1) := by decide +kernel
theorem dX7_init_27 : decode cX7_init 27 = .ok (.iconst 0, 1) := by decide +kernel
theorem dX7_init_28 : decode cX7_init 28 = .ok (.iastore, 1) := by decide +kernel
theorem dX7_init_29 : decode cX7_init 29 = .ok (.putfield 15, 3) := by decide +kernel
theorem dX7_init_32 : decode cX7_init 32 = .ok (.aload_n 0, 1) := by decide +kernel
theorem dX7_init_33 : decode cX7_init 33 = .ok (.bipush 20, 2) := by decide +kernel
theorem dX7_init_35 : decode cX7_init 35 = .ok (.newarray .int, 2) := by decide +kernel
theorem dX7_init_37 : decode cX7_init 37 = .ok (.dup, 1) := by decide +kernel
theorem dX7_init_38 : decode cX7_init 38 = .ok (.iconst 0, 1) := by decide +kernel
theorem dX7_init_39 : decode cX7_init 39 = .ok (.iconst 1, 1) := by decide +kernel
theorem dX7_init_40 : decode cX7_init 40 = .ok (.iastore, 1) := by decide +kernel
theorem dX7_init_41 : decode cX7_init 41 = .ok (.dup, 1) := by decide +kernel
theorem dX7_init_42 : decode cX7_init 42 = .ok (.iconst 1, 1) := by decide +kernel
theorem dX7_init_43 : decode cX7_init 43 = .ok (.iconst 1, 1) := by decide +kernel
theorem dX7_init_44 : decode cX7_init 44 = .ok (.iastore, 1) := by decide +kernel
theorem dX7_init_45 : decode cX7_init 45 = .ok (.dup, 1) := by decide +kernel
theorem dX7_init_46 : decode cX7_init 46 = .ok (.iconst 2, 1) := by decide +kernel
theorem dX7_init_47 : decode cX7_init 47 = .ok (.iconst 1, 1) := by decide +kernel
theorem dX7_init_48 : decode cX7_init 48 = .ok (.iastore, 1) := by decide +kernel
theorem dX7_init_49 : decode cX7_init 49 = .ok (.dup, 1) := by decide +kernel
theorem dX7_init_50 : decode cX7_init 50 = .ok (.iconst 3, 1) := by decide +kernel
theorem dX7_init_51 : decode cX7_init 51 = .ok (.iconst 1, 1) := by decide +kernel
theorem dX7_init_52 : decode cX7_init 52 = .ok (.iastore, 1) := by decide +kernel
theorem dX7_init_53 : decode cX7_init 53 = .ok (.dup, 1) := by decide +kernel
theorem dX7_init_54 : decode cX7_init 54 = .ok (.iconst 4, 1) := by decide +kernel
theorem dX7_init_55 : decode cX7_init 55 = .ok (.iconst 1, 1) := by decide +kernel
theorem dX7_init_56 : decode cX7_init 56 = .ok (.iastore, 1) := by decide +kernel
theorem dX7_init_57 : decode cX7_init 57 = .ok (.dup, 1) := by decide +kernel
theorem dX7_init_58 : decode cX7_init 58 = .ok (.iconst 5, 1) := by decide +kernel
theorem dX7_init_59 : decode cX7_init 59 = .ok (.iconst 1, 1) := by decide +kernel
theorem dX7_init_60 : decode cX7_init 60 = .ok (.iastore, 1) := by decide +kernel
theorem dX7_init_61 : decode cX7_init 61 = .ok (.dup, 1) := by decide +kernel
theorem dX7_init_62 : decode cX7_init 62 = .ok (.bipush 6, 2) := by decide +kernel
theorem dX7_init_64 : decode cX7_init 64 = .ok (.iconst 1, 1) := by decide +kernel
theorem dX7_init_65 : decode cX7_init 65 = .ok (.iastore, 1) := by decide +kernel
theorem dX7_init_66 : decode cX7_init 66 = .ok (.dup, 1) := by decide +kernel
theorem dX7_init_67 : decode cX7_init 67 = .ok (.bipush 7, 2) := by decide +kernel
theorem dX7_init_69 : decode cX7_init 69 = .ok (.iconst 1, 1) := by decide +kernel
theorem dX7_init_70 : decode cX7_init 70 = .ok (.iastore, 1) := by decide +kernel
theorem dX7_init_71 : decode cX7_init 71 = .ok (.dup, 1) := by decide +kernel
theorem dX7_init_72 : decode cX7_init 72 = .ok (.bipush 8, 2) := by decide +kernel
theorem dX7_init_74 : decode cX7_init 74 = .ok (.iconst 1, 1) := by decide +kernel
theorem dX7_init_75 : decode cX7_init 75 = .ok (.iastore, 1) := by decide +kernel
theorem dX7_init_76 : decode cX7_init 76 = .ok (.dup, 1) := by decide +kernel
theorem dX7_init_77 : decode cX7_init 77 = .ok (.bipush 9, 2) := by decide +kernel
theorem dX7_init_79 : decode cX7_init 79 = .ok (.iconst 1, 1) := by decide +kernel
theorem dX7_init_80 : decode cX7_init 80 = .ok (.iastore, 1) := by decide +kernel
theorem dX7_init_81 : decode cX7_init 81 = .ok (.dup, 1) := by decide +kernel
theorem dX7_init_82 : decode cX7_init 82 = .ok (.bipush 10, 2) := by decide +kernel
theorem dX7_init_84 : decode cX7_init 84 = .ok (.iconst 1, 1) := by decide +kernel
theorem dX7_init_85 : decode cX7_init 85 = .ok (.iastore, 1) := by decide +kernel
theorem dX7_init_86 : decode cX7_init 86 = .ok (.dup, 1) := by decide +kernel
theorem dX7_init_87 : decode cX7_init 87 = .ok (.bipush 11, 2) := by decide +kernel
theorem dX7_init_89 : decode cX7_init 89 = .ok (.iconst 1, 1) := by decide +kernel
theorem dX7_init_90 : decode cX7_init 90 = .ok (.iastore, 1) := by decide +kernel
theorem dX7_init_91 : decode cX7_init 91 = .ok (.dup, 1) := by decide +kernel
theorem dX7_init_92 : decode cX7_init 92 = .ok (.bipush 12, 2) := by decide +kernel
theorem dX7_init_94 : decode cX7_init 94 = .ok (.iconst 1, 1) := by decide +kernel
theorem dX7_init_95 : decode cX7_init 95 = .ok (.iastore, 1) := by decide +kernel
theorem dX7_init_96 : decode cX7_init 96 = .ok (.dup, 1) := by decide +kernel
theorem dX7_init_97 : decode cX7_init 97 = .ok (.bipush 13, 2) := by decide +kernel
theorem dX7_init_99 : decode cX7_init 99 = .ok (.iconst 1, 1) := by decide +kernel
theorem dX7_init_100 : decode cX7_init 100 = .ok (.iastore, 1) := by decide +kernel
theorem dX7_init_101 : decode cX7_init 101 = .ok (.dup, 1) := by decide +kernel
theorem dX7_init_102 : decode cX7_init 102 = .ok (.bipush 14, 2) := by decide +kernel
theorem dX7_init_104 : decode cX7_init 104 = .ok (.iconst 1, 1) := by decide +kernel
theorem dX7_init_105 : decode cX7_init 105 = .ok (.iastore, 1) := by decide +kernel
theorem dX7_init_106 : decode cX7_init 106 = .ok (.dup, 1) := by decide +kernel
theorem dX7_init_107 : decode cX7_init 107 = .ok (.bipush 15, 2) := by decide +kernel
theorem dX7_init_109 : decode cX7_init 109 = .ok (.iconst 1, 1) := by decide +kernel
theorem dX7_init_110 : decode cX7_init 110 = .ok (.iastore, 1) := by decide +kernel
theorem dX7_init_111 : decode cX7_init 111 = .ok (.dup, 1) := by decide +kernel
theorem dX7_init_112 : decode cX7_init 112 = .ok (.bipush 16, 2) := by decide +kernel
theorem dX7_init_114 : decode cX7_init 114 = .ok (.iconst 1, 1) := by decide +kernel
theorem dX7_init_115 : decode cX7_init 115 = .ok (.iastore, 1) := by decide +kernel
theorem dX7_init_116 : decode cX7_init 116 = .ok (.dup, 1) := by decide +kernel
theorem dX7_init_117 : decode cX7_init 117 = .ok (.bipush 17, 2) := by decide +kernel
theorem dX7_init_119 : decode cX7_init 119 = .ok (.iconst 1, 1) := by decide +kernel
theorem dX7_init_120 : decode cX7_init 120 = .ok (.iastore, 1) := by decide +kernel
theorem dX7_init_121 : decode cX7_init 121 = .ok (.dup, 1) := by decide +kernel
theorem dX7_init_122 : decode cX7_init 122 = .ok (.bipush 18, 2) := by decide +kernel
theorem dX7_init_124 : decode cX7_init 124 = .ok (.iconst 1, 1) := by decide +kernel
theorem dX7_init_125 : decode cX7_init 125 = .ok (.iastore, 1) := by decide +kernel
theorem dX7_init_126 : decode cX7_init 126 = .ok (.dup, 1) := by decide +kernel
theorem dX7_init_127 : decode cX7_init 127 = .ok (.bipush 19, 2) := by decide +kernel
theorem dX7_init_129 : decode cX7_init 129 = .ok (.iconst 1, 1) := by decide +kernel
theorem dX7_init_130 : decode cX7_init 130 = .ok (.iastore, 1) := by decide +kernel
theorem dX7_init_131 : decode cX7_init 131 = .ok (.putfield 19, 3) := by decide +kernel
theorem dX7_init_134 : decode cX7_init 134 = .ok (.aload_n 0, 1) := by decide +kernel
theorem dX7_init_135 : decode cX7_init 135 = .ok (.iconst 4, 1) := by decide +kernel
theorem dX7_init_136 : decode cX7_init 136 = .ok (.newarray .int, 2) := by decide +kernel
theorem dX7_init_138 : decode cX7_init 138 = .ok (.dup, 1) := by decide +kernel
theorem dX7_init_139 : decode cX7_init 139 = .ok (.iconst 0, 1) := by decide +kernel
theorem dX7_init_140 : decode cX7_init 140 = .ok (.iconst 1, 1) := by decide +kernel
theorem dX7_init_141 : decode cX7_init 141 = .ok (.iastore, 1) := by decide +kernel
theorem dX7_init_142 : decode cX7_init 142 = .ok (.dup, 1) := by decide +kernel
theorem dX7_init_143 : decode cX7_init 143 = .ok (.iconst 1, 1) := by decide +kernel
theorem dX7_init_144 : decode cX7_init 144 = .ok (.iconst 1, 1) := by decide +kernel
theorem dX7_init_145 : decode cX7_init 145 = .ok (.iastore, 1) := by decide +kernel
theorem dX7_init_146 : decode cX7_init 146 = .ok (.dup, 1) := by decide +kernel
theorem dX7_init_147 : decode cX7_init 147 = .ok (.iconst 2, 1) := by decide +kernel
theorem dX7_init_148 : decode cX7_init 148 = .ok (.iconst 1, 1) := by decide +kernel
theorem dX7_init_149 : decode cX7_init 149 = .ok (.iastore, 1) := by decide +kernel
theorem dX7_init_150 : decode cX7_init 150 = .ok (.dup, 1) := by decide +kernel
theorem dX7_init_151 : decode cX7_init 151 = .ok (.iconst 3, 1) := by decide +kernel
theorem dX7_init_152 : decode cX7_init 152 = .ok (.iconst 1, 1) := by decide +kernel
theorem dX7_init_153 : decode cX7_init 153 = .ok (.iastore, 1) := by decide +kernel
theorem dX7_init_154 : decode cX7_init 154 = .ok (.putfield 22, 3) := by decide +kernel
theorem dX7_init_157 : decode cX7_init 157 = .ok (.aload_n 0, 1) := by decide +kernel
theorem dX7_init_158 : decode cX7_init 158 = .ok (.bipush 48, 2) := by decide +kernel
theorem dX7_init_160 : decode cX7_init 160 = .ok (.newarray .int, 2) := by decide +kernel
theorem dX7_init_162 : decode cX7_init 162 = .ok (.putfield 25, 3) := by decide +kernel
theorem dX7_init_165 : decode cX7_init 165 = .ok (.aload_n 0, 1) := by decide +kernel
theorem dX7_init_166 : decode cX7_init 166 = .ok (.bipush 12, 2) := by decide +kernel
theorem dX7_init_168 : decode cX7_init 168 = .ok (.newarray .int, 2) := by decide +kernel
theorem dX7_init_170 : decode cX7_init 170 = .ok (.putfield 28, 3) := by decide +kernel
theorem dX7_init_173 : decode cX7_init 173 = .ok (.aload_n 0, 1) := by decide +kernel
theorem dX7_init_174 : decode cX7_init 174 = .ok (.iconst (-1), 1) := by decide +kernel
theorem dX7_init_175 : decode cX7_init 175 = .ok (.putfield 31, 3) := by decide +kernel
theorem dX7_init_178 : decode cX7_init 178 = .ok (.aload_n 0, 1) := by decide +kernel
theorem dX7_init_179 : decode cX7_init 179 = .ok (.bipush 40, 2) := by decide +kernel
theorem dX7_init_181 : decode cX7_init 181 = .ok (.newarray .int, 2) := by decide +kernel
theorem dX7_init_183 : decode cX7_init 183 = .ok (.putfield 34, 3) := by decide +kernel
theorem dX7_init_186 : decode cX7_init 186 = .ok (.aload_n 0, 1) := by decide +kernel
theorem dX7_init_187 : decode cX7_init 187 = .ok (.iconst 4, 1) := by decide +kernel
theorem dX7_init_188 : decode cX7_init 188 = .ok (.newarray .int, 2) := by decide +kernel
theorem dX7_init_190 : decode cX7_init 190 = .ok (.putfield 37, 3) := by decide +kernel
theorem dX7_init_193 : decode cX7_init 193 = .ok (.aload_n 0, 1) := by decide +kernel
theorem dX7_init_194 : decode cX7_init 194 = .ok (.sipush 1296, 3) := by decide +kernel
theorem dX7_init_197 : decode cX7_init 197 = .ok (.newarray .int, 2) := by decide +kernel
theorem dX7_init_199 : decode cX7_init 199 = .ok (.putfield 40, 3) := by decide +kernel
theorem dX7_init_202 : decode cX7_init 202 = .ok (.aload_n 0, 1) := by decide +kernel
theorem dX7_init_203 : decode cX7_init 203 = .ok (.sipush 1296, 3) := by decide +kernel
theorem dX7_init_206 : decode cX7_init 206 = .ok (.newarray .long, 2) := by decide +kernel
theorem dX7_init_208 : decode cX7_init 208 = .ok (.putfield 43, 3) := by decide +kernel
theorem dX7_init_211 : decode cX7_init 211 = .ok (.aload_n 0, 1) := by decide +kernel
theorem dX7_init_212 : decode cX7_init 212 = .ok (.sipush 1296, 3) := by decide +kernel
theorem dX7_init_215 : decode cX7_init 215 = .ok (.newarray .int, 2) := by decide +kernel
theorem dX7_init_217 : decode cX7_init 217 = .ok (.putfield 47, 3) := by decide +kernel
theorem dX7_init_220 : decode cX7_init 220 = .ok (.aload_n 0, 1) := by decide +kernel
theorem dX7_init_221 : decode cX7_init 221 = .ok (.sipush 1296, 3) := by decide +kernel
theorem dX7_init_224 : decode cX7_init 224 = .ok (.newarray .int, 2) := by decide +kernel
theorem dX7_init_226 : decode cX7_init 226 = .ok (.putfield 50, 3) := by decide +kernel
theorem dX7_init_229 : decode cX7_init 229 = .ok (.aload_n 0, 1) := by decide +kernel
theorem dX7_init_230 : decode cX7_init 230 = .ok (.sipush 781, 3) := by decide +kernel
theorem dX7_init_233 : decode cX7_init 233 = .ok (.newarray .int, 2) := by decide +kernel
theorem dX7_init_235 : decode cX7_init 235 = .ok (.putfield 53, 3) := by decide +kernel
theorem dX7_init_238 : decode cX7_init 238 = .ok (.aload_n 0, 1) := by decide +kernel
theorem dX7_init_239 : decode cX7_init 239 = .ok (.sipush 781, 3) := by decide +kernel
theorem dX7_init_242 : decode cX7_init 242 = .ok (.newarray .int, 2) := by decide +kernel
theorem dX7_init_244 : decode cX7_init 244 = .ok (.putfield 56, 3) := by decide +kernel
theorem dX7_init_247 : decode cX7_init 247 = .ok (.aload_n 0, 1) := by decide +kernel
theorem dX7_init_248 : decode cX7_init 248 = .ok (.sipush 781, 3) := by decide +kernel
theorem dX7_init_251 : decode cX7_init 251 = .ok (.newarray .int, 2) := by decide +kernel
theorem dX7_init_253 : decode cX7_init 253 = .ok (.putfield 59, 3) := by decide +kernel
theorem dX7_init_256 : decode cX7_init 256 = .ok (.aload_n 0, 1) := by decide +kernel
theorem dX7_init_257 : decode cX7_init 257 = .ok (.sipush 781, 3) := by decide +kernel
theorem dX7_init_260 : decode cX7_init 260 = .ok (.newarray .int, 2) := by decide +kernel
theorem dX7_init_262 : decode cX7_init 262 = .ok (.putfield 62, 3) := by decide +kernel
theorem dX7_init_265 : decode cX7_init 265 = .ok (.aload_n 0, 1) := by decide +kernel
theorem dX7_init_266 : decode cX7_init 266 = .ok (.sipush 781, 3) := by decide +kernel
theorem dX7_init_269 : decode cX7_init 269 = .ok (.newarray .int, 2) := by decide +kernel
theorem dX7_init_271 : decode cX7_init 271 = .ok (.putfield 65, 3) := by decide +kernel
theorem dX7_init_274 : decode cX7_init 274 = .ok (.aload_n 0, 1) := by decide +kernel
theorem dX7_init_275 : decode cX7_init 275 = .ok (.iconst 4, 1) := by decide +kernel
theorem dX7_init_276 : decode cX7_init 276 = .ok (.newarray .int, 2) := by decide +kernel
theorem dX7_init_278 : decode cX7_init 278 = .ok (.dup, 1) := by decide +kernel
theorem dX7_init_279 : decode cX7_init 279 = .ok (.iconst 0, 1) := by decide +kernel
theorem dX7_init_280 : decode cX7_init 280 = .ok (.iconst (-1), 1) := by decide +kernel
theorem dX7_init_281 : decode cX7_init 281 = .ok (.iastore, 1) := by decide +kernel
theorem dX7_init_282 : decode cX7_init 282 = .ok (.dup, 1) := by decide +kernel
theorem dX7_init_283 : decode cX7_init 283 = .ok (.iconst 1, 1) := by decide +kernel
theorem dX7_init_284 : decode cX7_init 284 = .ok (.iconst (-1), 1) := by decide +kernel
theorem dX7_init_285 : decode cX7_init 285 = .ok (.iastore, 1) := by decide +kernel
theorem dX7_init_286 : decode cX7_init 286 = .ok (.dup, 1) := by decide +kernel
theorem dX7_init_287 : decode cX7_init 287 = .ok (.iconst 2, 1) := by decide +kernel
theorem dX7_init_288 : decode cX7_init 288 = .ok (.iconst (-1), 1) := by decide +kernel
theorem dX7_init_289 : decode cX7_init 289 = .ok (.iastore, 1) := by decide +kernel
theorem dX7_init_290 : decode cX7_init 290 = .ok (.dup, 1) := by decide +kernel
theorem dX7_init_291 : decode cX7_init 291 = .ok (.iconst 3, 1) := by decide +kernel
theorem dX7_init_292 : decode cX7_init 292 = .ok (.iconst (-1), 1) := by decide +kernel
theorem dX7_init_293 : decode cX7_init 293 = .ok (.iastore, 1) := by decide +kernel
theorem dX7_init_294 : decode cX7_init 294 = .ok (.putfield 68, 3) := by decide +kernel
theorem dX7_init_297 : decode cX7_init 297 = .ok (.aload_n 0, 1) := by decide +kernel
theorem dX7_init_298 : decode cX7_init 298 = .ok (.iconst 4, 1) := by decide +kernel
theorem dX7_init_299 : decode cX7_init 299 = .ok (.newarray .int, 2) := by decide +kernel
theorem dX7_init_301 : decode cX7_init 301 = .ok (.putfield 71, 3) := by decide +kernel
theorem dX7_init_304 : decode cX7_init 304 = .ok (.aload_n 0, 1) := by decide +kernel
theorem dX7_init_305 : decode cX7_init 305 = .ok (.sipush 2800, 3) := by decide +kernel
theorem dX7_init_308 : decode cX7_init 308 = .ok (.newarray .long, 2) := by decide +kernel
theorem dX7_init_310 : decode cX7_init 310 = .ok (.putfield 74, 3) := by decide +kernel
theorem dX7_init_313 : decode cX7_init 313 = .ok (.aload_n 0, 1) := by decide +kernel
theorem dX7_init_314 : decode cX7_init 314 = .ok (.sipush 700, 3) := by decide +kernel
theorem dX7_init_317 : decode cX7_init 317 = .ok (.newarray .long, 2) := by decide +kernel
theorem dX7_init_319 : decode cX7_init 319 = .ok (.putfield 77, 3) := by decide +kernel
theorem dX7_init_322 : decode cX7_init 322 = .ok (.aload_n 0, 1) := by decide +kernel
theorem dX7_init_323 : decode cX7_init 323 = .ok (.iconst 4, 1) := by decide +kernel
theorem dX7_init_324 : decode cX7_init 324 = .ok (.newarray .int, 2) := by decide +kernel
theorem dX7_init_326 : decode cX7_init 326 = .ok (.putfield 80, 3) := by decide +kernel
theorem dX7_init_329 : decode cX7_init 329 = .ok (.aload_n 0, 1) := by decide +kernel
theorem dX7_init_330 : decode cX7_init 330 = .ok (.bipush 20, 2) := by decide +kernel
theorem dX7_init_332 : decode cX7_init 332 = .ok (.newarray .int, 2) := by decide +kernel
theorem dX7_init_334 : decode cX7_init 334 = .ok (.putfield 83, 3) := by decide +kernel
theorem dX7_init_337 : decode cX7_init 337 = .ok (.aload_n 0, 1) := by decide +kernel
theorem dX7_init_338 : decode cX7_init 338 = .ok (.iconst 4, 1) := by decide +kernel
theorem dX7_init_339 : decode cX7_init 339 = .ok (.newarray .int, 2) := by decide +kernel
theorem dX7_init_341 : decode cX7_init 341 = .ok (.putfield 86, 3) := by decide +kernel
theorem dX7_init_344 : decode cX7_init 344 = .ok (.aload_n 0, 1) := by decide +kernel
theorem dX7_init_345 : decode cX7_init 345 = .ok (.bipush 48, 2) := by decide +kernel
theorem dX7_init_347 : decode cX7_init 347 = .ok (.newarray .int, 2) := by decide +kernel
theorem dX7_init_349 : decode cX7_init 349 = .ok (.putfield 89, 3) := by decide +kernel
theorem dX7_init_352 : decode cX7_init 352 = .ok (.aload_n 0, 1) := by decide +kernel
theorem dX7_init_353 : decode cX7_init 353 = .ok (.bipush 12, 2) := by decide +kernel
theorem dX7_init_355 : decode cX7_init 355 = .ok (.newarray .int, 2) := by decide +kernel
theorem dX7_init_357 : decode cX7_init 357 = .ok (.putfield 92, 3) := by decide +kernel
theorem dX7_init_360 : decode cX7_init 360 = .ok (.return_, 1) := by decide +kernel
theorem dX7_isIn_0 : decode cX7_isIn 0 = .ok (.iload_n 0, 1) := by decide +kernel
theorem dX7_isIn_1 : decode cX7_isIn 1 = .ok (.iload_n 1, 1) := by decide +kernel
theorem dX7_isIn_2 : decode cX7_isIn 2 = .ok (.if_icmp .lt 12, 3) := by decide +kernel
theorem dX7_isIn_5 : decode cX7_isIn 5 = .ok (.iload_n 0, 1) := by decide +kernel
theorem dX7_isIn_6 : decode cX7_isIn 6 = .ok (.iload_n 2, 1) := by decide +kernel
theorem dX7_isIn_7 : decode cX7_isIn 7 = .ok (.if_icmp .gt 7, 3) := by decide +kernel
theorem dX7_isIn_10 : decode cX7_isIn 10 = .ok (.iconst 1, 1) := by decide +kernel
theorem dX7_isIn_11 : decode cX7_isIn 11 = .ok (.goto 4, 3) := by decide +kernel
theorem dX7_isIn_14 : decode cX7_isIn 14 = .ok (.iconst 0, 1) := by decide +kernel
theorem dX7_isIn_15 : decode cX7_isIn 15 = .ok (.ireturn, 1) := by decide +kernel
set_option maxRecDepth 20000 in
theorem ggX7_isCondition_X7_isIn : GoodIn wsX7_isCondition wsX7_isIn := goodIn_r _ [5] (by decide +kernel) (by decide +kernel)
set_option maxRecDepth 20000 in
theorem gX7_isCondition_X7_isIn : GoodIn wsX7_isCondition (va_wsS RX7 95 yX7_isIn wsX7_isIn) := goodIn_app (goodIn_of _ (by decide +kernel)) ggX7_isCondition_X7_isIn
theorem dX7_isCondition_0 : decode cX7_isCondition 0 = .ok (.iload_n 1, 1) := by decide +kernel
theorem dX7_isCondition_1 : decode cX7_isCondition 1 = .ok (.iconst 0, 1) := by decide +kernel
theorem dX7_isCondition_2 : decode cX7_isCondition 2 = .ok (.aload_n 0, 1) := by decide +kernel
theorem dX7_isCondition_3 : decode cX7_isCondition 3 = .ok (.getfield 9, 3) := by decide +kernel
theorem dX7_isCondition_6 : decode cX7_isCondition 6 = .ok (.iconst 1, 1) := by decide +kernel
theorem dX7_isCondition_7 : decode cX7_isCondition 7 = .ok (.isub, 1) := by decide +kernel
theorem dX7_isCondition_8 : decode cX7_isCondition 8 = .ok (.invokestatic 95, 3) := by decide +kernel
theorem dX7_isCondition_11 : decode cX7_isCondition 11 = .ok (.ireturn, 1) := by decide +kernel
set_option maxRecDepth 20000 in
theorem ggX7_isRule_X7_isIn : GoodIn wsX7_isRule wsX7_isIn := goodIn_r _ [5] (by decide +kernel) (by decide +kernel)
set_option maxRecDepth 20000 in
theorem gX7_isRule_X7_isIn : GoodIn wsX7_isRule (va_wsS RX7 95 yX7_isIn wsX7_isIn) := goodIn_app (goodIn_of _ (by decide +kernel)) ggX7_isRule_X7_isIn
theorem dX7_isRule_0 : decode cX7_isRule 0 = .ok (.iload_n 1, 1) := by decide +kernel
theorem dX7_isRule_1 : decode cX7_isRule 1 = .ok (.iconst 0, 1) := by decide +kernel
theorem dX7_isRule_2 : decode cX7_isRule 2 = .ok (.aload_n 0, 1) := by decide +kernel
theorem dX7_isRule_3 : decode cX7_isRule 3 = .ok (.getfield 99, 3) := by decide +kernel
theorem dX7_isRule_6 : decode cX7_isRule 6 = .ok (.iconst 1, 1) := by decide +kernel
theorem dX7_isRule_7 : decode cX7_isRule 7 = .ok (.isub, 1) := by decide +kernel
theorem dX7_isRule_8 : decode cX7_isRule 8 = .ok (.invokestatic 95, 3) := by decide +kernel
theorem dX7_isRule_11 : decode cX7_isRule 11 = .ok (.ireturn, 1) := by decide +kernel
theorem dX7_cases_0 : decode cX7_cases 0 = .ok (.iconst 1, 1) := by decide +kernel
theorem dX7_cases_1 : decode cX7_cases 1 = .ok (.istore_n 1, 1) := by decide +kernel
theorem dX7_cases_2 : decode cX7_cases 2 = .ok (.iconst 0, 1) := by decide +kernel
theorem dX7_cases_3 : decode cX7_cases 3 = .ok (.istore_n 2, 1) := by decide +kernel
theorem dX7_cases_4 : decode cX7_cases 4 = .ok (.iload_n 2, 1) := by decide +kernel
theorem dX7_cases_5 : decode cX7_cases 5 = .ok (.aload_n 0, 1) := by decide +kernel
theorem dX7_cases_6 : decode cX7_cases 6 = .ok (.getfield 9, 3) := by decide +kernel
theorem dX7_cases_9 : decode cX7_cases 9 = .ok (.if_icmp .ge 18, 3) := by decide +kernel
theorem dX7_cases_12 : decode cX7_cases 12 = .ok (.iload_n 1, 1) := by decide +kernel
theorem dX7_cases_13 : decode cX7_cases 13 = .ok (.aload_n 0, 1) := by decide +kernel
theorem dX7_cases_14 : decode cX7_cases 14 = .ok (.getfield 15, 3) := by decide +kernel
theorem dX7_cases_17 : decode cX7_cases 17 = .ok (.iload_n 2, 1) := by decide +kernel
theorem dX7_cases_18 : decode cX7_cases 18 = .ok (.iaload, 1) := by decide +kernel
theorem dX7_cases_19 : decode cX7_cases 19 = .ok (.imul, 1) := by decide +kernel
theorem dX7_cases_20 : decode cX7_cases 20 = .ok (.istore_n 1, 1) := by decide +kernel
theorem dX7_cases_21 : decode cX7_cases 21 = .ok (.iinc 2 1, 3) := by decide +kernel
theorem dX7_cases_24 : decode cX7_cases 24 = .ok (.goto (-20), 3) := by decide +kernel
theorem dX7_cases_27 : decode cX7_cases 27 = .ok (.iload_n 1, 1) := by decide +kernel
theorem dX7_cases_28 : decode cX7_cases 28 = .ok (.ireturn, 1) := by decide +kernel
set_option maxRecDepth 20000 in
theorem ggX7_isCase_X7_cases : GoodIn wsX7_isCase wsX7_cases := goodIn_r _ [5, 6, 7, 11, 12, 13, 14, 15, 16, 17, 18, 19, 20, 21, 22, 23, 24, 25, 26, 27, 28, 29, 30, 31, 32, 33, 34, 35, 36, 37, 38, 39, 40, 41, 42, 43, 44, 45, 46, 47] (by decide +kernel) (by decide +kernel)
set_option maxRecDepth 20000 in
theorem gX7_isCase_X7_cases : GoodIn wsX7_isCase (wsV RX7 102 RX7 yX7_cases wsX7_cases) := goodIn_app (goodIn_of _ (by decide +kernel)) ggX7_isCase_X7_cases
set_option maxRecDepth 20000 in
theorem ggX7_isCase_X7_isIn : GoodIn wsX7_isCase wsX7_isIn := goodIn_r _ [10] (by decide +kernel) (by decide +kernel)
set_option maxRecDepth 20000 in
theorem gX7_isCase_X7_isIn : GoodIn wsX7_isCase (va_wsS RX7 95 yX7_isIn wsX7_isIn) := goodIn_app (goodIn_of _ (by decide +kernel)) ggX7_isCase_X7_isIn
theorem dX7_isCase_0 : decode cX7_isCase 0 = .ok (.iload_n 1, 1) := by decide +kernel
theorem dX7_isCase_1 : decode cX7_isCase 1 = .ok (.iconst 0, 1) := by decide +kernel
theorem dX7_isCase_2 : decode cX7_isCase 2 = .ok (.aload_n 0, 1) := by decide +kernel
theorem dX7_isCase_3 : decode cX7_isCase 3 = .ok (.invokevirtual 102, 3) := by decide +kernel
theorem dX7_isCase_6 : decode cX7_isCase 6 = .ok (.iconst 1, 1) := by decide +kernel
theorem dX7_isCase_7 : decode cX7_isCase 7 = .ok (.isub, 1) := by decide +kernel
theorem dX7_isCase_8 : decode cX7_isCase 8 = .ok (.invokestatic 95, 3) := by decide +kernel
theorem dX7_isCase_11 : decode cX7_isCase 11 = .ok (.ireturn, 1) := by decide +kernel
set_option maxRecDepth 20000 in
theorem ggX7_isSize_X7_isIn : GoodIn wsX7_isSize wsX7_isIn := goodIn_r _ [4] (by decide +kernel) (by decide +kernel)
set_option maxRecDepth 20000 in
theorem gX7_isSize_X7_isIn : GoodIn wsX7_isSize (va_wsS RX7 95 yX7_isIn wsX7_isIn) := goodIn_app (goodIn_of _ (by decide +kernel)) ggX7_isSize_X7_isIn
theorem dX7_isSize_0 : decode cX7_isSize 0 = .ok (.iload_n 0, 1) := by decide +kernel
theorem dX7_isSize_1 : decode cX7_isSize 1 = .ok (.iconst 2, 1) := by decide +kernel
theorem dX7_isSize_2 : decode cX7_isSize 2 = .ok (.iconst 5, 1) := by decide +kernel
theorem dX7_isSize_3 : decode cX7_isSize 3 = .ok (.invokestatic 95, 3) := by decide +kernel
theorem dX7_isSize_6 : decode cX7_isSize 6 = .ok (.ireturn, 1) := by decide +kernel
set_option maxRecDepth 20000 in
theorem ggX7_reset_X7_isSize : GoodIn wsX7_reset wsX7_isSize := goodIn_r _ [11, 12, 13, 10, 14] (by decide +kernel) (by decide +kernel)
set_option maxRecDepth 20000 in
theorem gX7_reset_X7_isSize : GoodIn wsX7_reset (va_wsS RX7 106 yX7_isSize wsX7_isSize) := goodIn_app (goodIn_of _ (by decide +kernel)) ggX7_reset_X7_isSize
set_option maxRecDepth 20000 in
theorem ggX7_reset_X7_cases : GoodIn wsX7_reset wsX7_cases := goodIn_r _ [18, 2, 1, 19, 20, 21, 22, 23, 24, 25, 26, 27, 28, 29, 30, 31, 32, 33, 34, 35, 36, 37, 38, 39, 40, 41, 42, 43, 44, 45, 46, 47, 48, 49, 50, 51, 52, 53, 54, 55] (by decide +kernel) (by decide +kernel)
set_option maxRecDepth 20000 in
theorem gX7_reset_X7_cases : GoodIn wsX7_reset (wsV RX7 102 RX7 yX7_cases wsX7_cases) := goodIn_app (goodIn_of _ (by decide +kernel)) ggX7_reset_X7_cases
theorem dX7_reset_0 : decode cX7_reset 0 = .ok (.iload_n 1, 1) := by decide +kernel
theorem dX7_reset_1 : decode cX7_reset 1 = .ok (.invokestatic 106, 3) := by decide +kernel
theorem dX7_reset_4 : decode cX7_reset 4 = .ok (.ifCond .eq 42, 3) := by decide +kernel
theorem dX7_reset_7 : decode cX7_reset 7 = .ok (.iload_n 2, 1) := by decide +kernel
theorem dX7_reset_8 : decode cX7_reset 8 = .ok (.invokestatic 106, 3) := by decide +kernel
theorem dX7_reset_11 : decode cX7_reset 11 = .ok (.ifCond .ne 7, 3) := by decide +kernel
theorem dX7_reset_14 : decode cX7_reset 14 = .ok (.iload_n 2, 1) := by decide +kernel
theorem dX7_reset_15 : decode cX7_reset 15 = .ok (.ifCond .ne 31, 3) := by decide +kernel
theorem dX7_reset_18 : decode cX7_reset 18 = .ok (.iload_n 3, 1) := by decide +kernel
theorem dX7_reset_19 : decode cX7_reset 19 = .ok (.invokestatic 106, 3) := by decide +kernel
theorem dX7_reset_22 : decode cX7_reset 22 = .ok (.ifCond .ne 7, 3) := by decide +kernel
theorem dX7_reset_25 : decode cX7_reset 25 = .ok (.iload_n 3, 1) := by decide +kernel
theorem dX7_reset_26 : decode cX7_reset 26 = .ok (.ifCond .ne 20, 3) := by decide +kernel
theorem dX7_reset_29 : decode cX7_reset 29 = .ok (.iload 4, 2) := by decide +kernel
theorem dX7_reset_31 : decode cX7_reset 31 = .ok (.invokestatic 106, 3) := by decide +kernel
theorem dX7_reset_34 : decode cX7_reset 34 = .ok (.ifCond .ne 8, 3) := by decide +kernel
theorem dX7_reset_37 : decode cX7_reset 37 = .ok (.iload 4, 2) := by decide +kernel
theorem dX7_reset_39 : decode cX7_reset 39 = .ok (.ifCond .ne 7, 3) := by decide +kernel
theorem dX7_reset_42 : decode cX7_reset 42 = .ok (.iconst 1, 1) := by decide +kernel
theorem dX7_reset_43 : decode cX7_reset 43 = .ok (.goto 4, 3) := by decide +kernel
theorem dX7_reset_46 : decode cX7_reset 46 = .ok (.iconst 0, 1) := by decide +kernel
theorem dX7_reset_47 : decode cX7_reset 47 = .ok (.istore 5, 2) := by decide +kernel
theorem dX7_reset_49 : decode cX7_reset 49 = .ok (.iload 5, 2) := by decide +kernel
theorem dX7_reset_51 : decode cX7_reset 51 = .ok (.ifCond .eq 20, 3) := by decide +kernel
theorem dX7_reset_54 : decode cX7_reset 54 = .ok (.iload_n 2, 1) := by decide +kernel
theorem dX7_reset_55 : decode cX7_reset 55 = .ok (.ifCond .ne 7, 3) := by decide +kernel
theorem dX7_reset_58 : decode cX7_reset 58 = .ok (.iload_n 3, 1) := by decide +kernel
theorem dX7_reset_59 : decode cX7_reset 59 = .ok (.ifCond .ne 12, 3) := by decide +kernel
theorem dX7_reset_62 : decode cX7_reset 62 = .ok (.iload_n 3, 1) := by decide +kernel
theorem dX7_reset_63 : decode cX7_reset 63 = .ok (.ifCond .ne 10, 3) := by decide +kernel
theorem dX7_reset_66 : decode cX7_reset 66 = .ok (.iload 4, 2) := by decide +kernel
theorem dX7_reset_68 : decode cX7_reset 68 = .ok (.ifCond .eq 5, 3) := by decide +kernel
theorem dX7_reset_71 : decode cX7_reset 71 = .ok (.iconst (-1), 1) := by decide +kernel
theorem dX7_reset_72 : decode cX7_reset 72 = .ok (.ireturn, 1) := by decide +kernel
theorem dX7_reset_73 : decode cX7_reset 73 = .ok (.aload_n 0, 1) := by decide +kernel
theorem dX7_reset_74 : decode cX7_reset 74 = .ok (.getfield 15, 3) := by decide +kernel
theorem dX7_reset_77 : decode cX7_reset 77 = .ok (.iconst 0, 1) := by decide +kernel
theorem dX7_reset_78 : decode cX7_reset 78 = .ok (.iload_n 1, 1) := by decide +kernel
theorem dX7_reset_79 : decode cX7_reset 79 = .ok (.iastore, 1) := by decide +kernel
theorem dX7_reset_80 : decode cX7_reset 80 = .ok (.aload_n 0, 1) := by decide +kernel
theorem dX7_reset_81 : decode cX7_reset 81 = .ok (.getfield 15, 3) := by decide +kernel
theorem dX7_reset_84 : decode cX7_reset 84 = .ok (.iconst 1, 1) := by decide +kernel
theorem dX7_reset_85 : decode cX7_reset 85 = .ok (.iload_n 2, 1) := by decide +kernel
theorem dX7_reset_86 : decode cX7_reset 86 = .ok (.iastore, 1) := by decide +kernel
theorem dX7_reset_87 : decode cX7_reset 87 = .ok (.aload_n 0, 1) := by decide +kernel
theorem dX7_reset_88 : decode cX7_reset 88 = .ok (.getfield 15, 3) := by decide +kernel
theorem dX7_reset_91 : decode cX7_reset 91 = .ok (.iconst 2, 1) := by decide +kernel
theorem dX7_reset_92 : decode cX7_reset 92 = .ok (.iload_n 3, 1) := by decide +kernel
theorem dX7_reset_93 : decode cX7_reset 93 = .ok (.iastore, 1) := by decide +kernel
theorem dX7_reset_94 : decode cX7_reset 94 = .ok (.aload_n 0, 1) := by decide +kernel
theorem dX7_reset_95 : decode cX7_reset 95 = .ok (.getfield 15, 3) := by decide +kernel
theorem dX7_reset_98 : decode cX7_reset 98 = .ok (.iconst 3, 1) := by decide +kernel
theorem dX7_reset_99 : decode cX7_reset 99 = .ok (.iload 4, 2) := by decide +kernel
theorem dX7_reset_101 : decode cX7_reset 101 = .ok (.iastore, 1) := by decide +kernel
theorem dX7_reset_102 : decode cX7_reset 102 = .ok (.aload_n 0, 1) := by decide +kernel
theorem dX7_reset_103 : decode cX7_reset 103 = .ok (.iload_n 2, 1) := by decide +kernel
theorem dX7_reset_104 : decode cX7_reset 104 = .ok (.ifCond .ne 7, 3) := by decide +kernel
theorem dX7_reset_107 : decode cX7_reset 107 = .ok (.iconst 1, 1) := by decide +kernel
theorem dX7_reset_108 : decode cX7_reset 108 = .ok (.goto 21, 3) := by decide +kernel
theorem dX7_reset_111 : decode cX7_reset 111 = .ok (.iload_n 3, 1) := by decide +kernel
theorem dX7_reset_112 : decode cX7_reset 112 = .ok (.ifCond .ne 7, 3) := by decide +kernel
theorem dX7_reset_115 : decode cX7_reset 115 = .ok (.iconst 2, 1) := by decide +kernel
theorem dX7_reset_116 : decode cX7_reset 116 = .ok (.goto 13, 3) := by decide +kernel
theorem dX7_reset_119 : decode cX7_reset 119 = .ok (.iload 4, 2) := by decide +kernel
theorem dX7_reset_121 : decode cX7_reset 121 = .ok (.ifCond .ne 7, 3) := by decide +kernel
theorem dX7_reset_124 : decode cX7_reset 124 = .ok (.iconst 3, 1) := by decide +kernel
theorem dX7_reset_125 : decode cX7_reset 125 = .ok (.goto 4, 3) := by decide +kernel
theorem dX7_reset_128 : decode cX7_reset 128 = .ok (.iconst 4, 1) := by decide +kernel
theorem dX7_reset_129 : decode cX7_reset 129 = .ok (.putfield 9, 3) := by decide +kernel
theorem dX7_reset_132 : decode cX7_reset 132 = .ok (.iconst 0, 1) := by decide +kernel
theorem dX7_reset_133 : decode cX7_reset 133 = .ok (.istore 6, 2) := by decide +kernel
theorem dX7_reset_135 : decode cX7_reset 135 = .ok (.iload 6, 2) := by decide +kernel
theorem dX7_reset_137 : decode cX7_reset 137 = .ok (.bipush 20, 2) := by decide +kernel
theorem dX7_reset_139 : decode cX7_reset 139 = .ok (.if_icmp .ge 17, 3) := by decide +kernel
theorem dX7_reset_142 : decode cX7_reset 142 = .ok (.aload_n 0, 1) := by decide +kernel
theorem dX7_reset_143 : decode cX7_reset 143 = .ok (.getfield 19, 3) := by decide +kernel
theorem dX7_reset_146 : decode cX7_reset 146 = .ok (.iload 6, 2) := by decide +kernel
theorem dX7_reset_148 : decode cX7_reset 148 = .ok (.iconst 1, 1) := by decide +kernel
theorem dX7_reset_149 : decode cX7_reset 149 = .ok (.iastore, 1) := by decide +kernel
theorem dX7_reset_150 : decode cX7_reset 150 = .ok (.iinc 6 1, 3) := by decide +kernel
theorem dX7_reset_153 : decode cX7_reset 153 = .ok (.goto (-18), 3) := by decide +kernel
theorem dX7_reset_156 : decode cX7_reset 156 = .ok (.iconst 0, 1) := by decide +kernel
theorem dX7_reset_157 : decode cX7_reset 157 = .ok (.istore 6, 2) := by decide +kernel
theorem dX7_reset_159 : decode cX7_reset 159 = .ok (.iload 6, 2) := by decide +kernel
theorem dX7_reset_161 : decode cX7_reset 161 = .ok (.iconst 4, 1) := by decide +kernel
theorem dX7_reset_162 : decode cX7_reset 162 = .ok (.if_icmp .ge 17, 3) := by decide +kernel
theorem dX7_reset_165 : decode cX7_reset 165 = .ok (.aload_n 0, 1) := by decide +kernel
theorem dX7_reset_166 : decode cX7_reset 166 = .ok (.getfield 22, 3) := by decide +kernel
theorem dX7_reset_169 : decode cX7_reset 169 = .ok (.iload 6, 2) := by decide +kernel
theorem dX7_reset_171 : decode cX7_reset 171 = .ok (.iconst 1, 1) := by decide +kernel
theorem dX7_reset_172 : decode cX7_reset 172 = .ok (.iastore, 1) := by decide +kernel
theorem dX7_reset_173 : decode cX7_reset 173 = .ok (.iinc 6 1, 3) := by decide +kernel
theorem dX7_reset_176 : decode cX7_reset 176 = .ok (.goto (-17), 3) := by decide +kernel
theorem dX7_reset_179 : decode cX7_reset 179 = .ok (.aload_n 0, 1) := by decide +kernel
theorem dX7_reset_180 : decode cX7_reset 180 = .ok (.iconst 0, 1) := by decide +kernel
theorem dX7_reset_181 : decode cX7_reset 181 = .ok (.putfield 99, 3) := by decide +kernel
theorem dX7_reset_184 : decode cX7_reset 184 = .ok (.aload_n 0, 1) := by decide +kernel
theorem dX7_reset_185 : decode cX7_reset 185 = .ok (.iconst (-1), 1) := by decide +kernel
theorem dX7_reset_186 : decode cX7_reset 186 = .ok (.putfield 31, 3) := by decide +kernel
theorem dX7_reset_189 : decode cX7_reset 189 = .ok (.aload_n 0, 1) := by decide +kernel
theorem dX7_reset_190 : decode cX7_reset 190 = .ok (.iconst 0, 1) := by decide +kernel
theorem dX7_reset_191 : decode cX7_reset 191 = .ok (.putfield 110, 3) := by decide +kernel
theorem dX7_reset_194 : decode cX7_reset 194 = .ok (.aload_n 0, 1) := by decide +kernel
theorem dX7_reset_195 : decode cX7_reset 195 = .ok (.invokevirtual 102, 3) := by decide +kernel
theorem dX7_reset_198 : decode cX7_reset 198 = .ok (.ireturn, 1) := by decide +kernel
theorem dX7_conditionCount_0 : decode cX7_conditionCount 0 = .ok (.aload_n 0, 1) := by decide +kernel
theorem dX7_conditionCount_1 : decode cX7_conditionCount 1 = .ok (.getfield 9, 3) := by decide +kernel
theorem dX7_conditionCount_4 : decode cX7_conditionCount 4 = .ok (.ireturn, 1) := by decide +kernel
set_option maxRecDepth 20000 in
theorem ggX7_caseCount_X7_cases : GoodIn wsX7_caseCount wsX7_cases := goodIn_r _ [5, 6, 7, 8, 9, 10, 11, 12, 13, 14, 15, 16, 17, 18, 19, 20, 21, 22, 23, 24, 25, 26, 27, 28, 29, 30, 31, 32, 33, 34, 35, 36, 37, 38, 39, 40, 41, 42, 43, 44] (by decide +kernel) (by decide +kernel)
set_option maxRecDepth 20000 in
theorem gX7_caseCount_X7_cases : GoodIn wsX7_caseCount (wsV RX7 102 RX7 yX7_cases wsX7_cases) := goodIn_app (goodIn_of _ (by decide +kernel)) ggX7_caseCount_X7_cases
theorem dX7_caseCount_0 : decode cX7_caseCount 0 = .ok (.aload_n 0, 1) := by decide +kernel
theorem dX7_caseCount_1 : decode cX7_caseCount 1 = .ok (.invokevirtual 102, 3) := by decide +kernel
theorem dX7_caseCount_4 : decode cX7_caseCount 4 = .ok (.ireturn, 1) := by decide +kernel
theorem dX7_valueOf_0 : decode cX7_valueOf 0 = .ok (.iload_n 1, 1) := by decide +kernel
theorem dX7_valueOf_1 : decode cX7_valueOf 1 = .ok (.istore_n 3, 1) := by decide +kernel
theorem dX7_valueOf_2 : decode cX7_valueOf 2 = .ok (.aload_n 0, 1) := by decide +kernel
theorem dX7_valueOf_3 : decode cX7_valueOf 3 = .ok (.getfield 9, 3) := by decide +kernel
theorem dX7_valueOf_6 : decode cX7_valueOf 6 = .ok (.iconst 1, 1) := by decide +kernel
theorem dX7_valueOf_7 : decode cX7_valueOf 7 = .ok (.isub, 1) := by decide +kernel
theorem dX7_valueOf_8 : decode cX7_valueOf 8 = .ok (.istore 4, 2) := by decide +kernel
theorem dX7_valueOf_10 : decode cX7_valueOf 10 = .ok (.iload 4, 2) := by decide +kernel
theorem dX7_valueOf_12 : decode cX7_valueOf 12 = .ok (.iload_n 2, 1) := by decide +kernel
theorem dX7_valueOf_13 : decode cX7_valueOf 13 = .ok (.if_icmp .le 19, 3) := by decide +kernel
theorem dX7_valueOf_16 : decode cX7_valueOf 16 = .ok (.iload_n 3, 1) := by decide +kernel
theorem dX7_valueOf_17 : decode cX7_valueOf 17 = .ok (.aload_n 0, 1) := by decide +kernel
theorem dX7_valueOf_18 : decode cX7_valueOf 18 = .ok (.getfield 15, 3) := by decide +kernel
theorem dX7_valueOf_21 : decode cX7_valueOf 21 = .ok (.iload 4, 2) := by decide +kernel
theorem dX7_valueOf_23 : decode cX7_valueOf 23 = .ok (.iaload, 1) := by decide +kernel
theorem dX7_valueOf_24 : decode cX7_valueOf 24 = .ok (.idiv, 1) := by decide +kernel
theorem dX7_valueOf_25 : decode cX7_valueOf 25 = .ok (.istore_n 3, 1) := by decide +kernel
theorem dX7_valueOf_26 : decode cX7_valueOf 26 = .ok (.iinc 4 (-1), 3) := by decide +kernel
theorem dX7_valueOf_29 : decode cX7_valueOf 29 = .ok (.goto (-19), 3) := by decide +kernel
theorem dX7_valueOf_32 : decode cX7_valueOf 32 = .ok (.iload_n 3, 1) := by decide +kernel
theorem dX7_valueOf_33 : decode cX7_valueOf 33 = .ok (.aload_n 0, 1) := by decide +kernel
theorem dX7_valueOf_34 : decode cX7_valueOf 34 = .ok (.getfield 15, 3) := by decide +kernel
theorem dX7_valueOf_37 : decode cX7_valueOf 37 = .ok (.iload_n 2, 1) := by decide +kernel
theorem dX7_valueOf_38 : decode cX7_valueOf 38 = .ok (.iaload, 1) := by decide +kernel
theorem dX7_valueOf_39 : decode cX7_valueOf 39 = .ok (.irem, 1) := by decide +kernel
theorem dX7_valueOf_40 : decode cX7_valueOf 40 = .ok (.ireturn, 1) := by decide +kernel
set_option maxRecDepth 20000 in
theorem ggX7_valueIn_X7_isCase : GoodIn wsX7_valueIn wsX7_isCase := goodIn_r _ [5, 6, 7, 8, 4, 9, 10, 11, 12, 13, 14, 23, 24, 25, 26, 27, 28, 29, 30, 31, 32, 33, 34, 35, 36, 37, 38, 39, 40, 41, 42, 43, 44, 45, 46, 47, 48, 49, 50, 51, 52, 53, 54, 55, 56, 57, 58, 59] (by decide +kernel) (by decide +kernel)
set_option maxRecDepth 20000 in
theorem gX7_valueIn_X7_isCase : GoodIn wsX7_valueIn (wsV RX7 114 RX7 yX7_isCase wsX7_isCase) := goodIn_app (goodIn_of _ (by decide +kernel)) ggX7_valueIn_X7_isCase
set_option maxRecDepth 20000 in
theorem ggX7_valueIn_X7_isCondition : GoodIn wsX7_valueIn wsX7_isCondition := goodIn_r _ [18, 10, 12, 13, 4, 14, 23, 24, 25, 26, 27, 28, 29, 30, 31, 32, 33, 34, 35, 36, 37, 38, 39, 40, 41, 42, 43, 44, 45, 46, 47, 48, 49, 50, 51, 52, 53, 54, 55, 56, 57, 58, 59] (by decide +kernel) (by decide +kernel)
set_option maxRecDepth 20000 in
theorem gX7_valueIn_X7_isCondition : GoodIn wsX7_valueIn (wsV RX7 117 RX7 yX7_isCondition wsX7_isCondition) := goodIn_app (goodIn_of _ (by decide +kernel)) ggX7_valueIn_X7_isCondition
set_option maxRecDepth 20000 in
theorem ggX7_valueIn_X7_valueOf : GoodIn wsX7_valueIn wsX7_valueOf := goodIn_r _ [22, 10, 11, 23, 24, 25, 26, 27, 28, 29, 30, 31, 32, 33, 34, 35, 36, 37, 38, 39, 40, 41, 42, 43, 44, 45, 46, 47, 48, 49, 50, 51, 52, 53, 54, 55, 56, 57, 58, 59] (by decide +kernel) (by decide +kernel)
set_option maxRecDepth 20000 in
theorem gX7_valueIn_X7_valueOf : GoodIn wsX7_valueIn (wsV RX7 120 RX7 yX7_valueOf wsX7_valueOf) := goodIn_app (goodIn_of _ (by decide +kernel)) ggX7_valueIn_X7_valueOf
theorem dX7_valueIn_0 : decode cX7_valueIn 0 = .ok (.aload_n 0, 1) := by decide +kernel
theorem dX7_valueIn_1 : decode cX7_valueIn 1 = .ok (.iload_n 1, 1) := by decide +kernel
theorem dX7_valueIn_2 : decode cX7_valueIn 2 = .ok (.invokevirtual 114, 3) := by decide +kernel
theorem dX7_valueIn_5 : decode cX7_valueIn 5 = .ok (.ifCond .ne 8, 3) := by decide +kernel
theorem dX7_valueIn_8 : decode cX7_valueIn 8 = .ok (.bipush (-5), 2) := by decide +kernel
theorem dX7_valueIn_10 : decode cX7_valueIn 10 = .ok (.goto 22, 3) := by decide +kernel
theorem dX7_valueIn_13 : decode cX7_valueIn 13 = .ok (.aload_n 0, 1) := by decide +kernel
theorem dX7_valueIn_14 : decode cX7_valueIn 14 = .ok (.iload_n 2, 1) := by decide +kernel
theorem dX7_valueIn_15 : decode cX7_valueIn 15 = .ok (.invokevirtual 117, 3) := by decide +kernel
theorem dX7_valueIn_18 : decode cX7_valueIn 18 = .ok (.ifCond .ne 8, 3) := by decide +kernel
theorem dX7_valueIn_21 : decode cX7_valueIn 21 = .ok (.bipush (-2), 2) := by decide +kernel
theorem dX7_valueIn_23 : decode cX7_valueIn 23 = .ok (.goto 9, 3) := by decide +kernel
theorem dX7_valueIn_26 : decode cX7_valueIn 26 = .ok (.aload_n 0, 1) := by decide +kernel
theorem dX7_valueIn_27 : decode cX7_valueIn 27 = .ok (.iload_n 1, 1) := by decide +kernel
theorem dX7_valueIn_28 : decode cX7_valueIn 28 = .ok (.iload_n 2, 1) := by decide +kernel
theorem dX7_valueIn_29 : decode cX7_valueIn 29 = .ok (.invokevirtual 120, 3) := by decide +kernel
theorem dX7_valueIn_32 : decode cX7_valueIn 32 = .ok (.ireturn, 1) := by decide +kernel
theorem dX7_weightSum_0 : decode cX7_weightSum 0 = .ok (.iconst 0, 1) := by decide +kernel
theorem dX7_weightSum_1 : decode cX7_weightSum 1 = .ok (.istore_n 2, 1) := by decide +kernel
theorem dX7_weightSum_2 : decode cX7_weightSum 2 = .ok (.iconst 0, 1) := by decide +kernel
theorem dX7_weightSum_3 : decode cX7_weightSum 3 = .ok (.istore_n 3, 1) := by decide +kernel
theorem dX7_weightSum_4 : decode cX7_weightSum 4 = .ok (.iload_n 3, 1) := by decide +kernel
theorem dX7_weightSum_5 : decode cX7_weightSum 5 = .ok (.aload_n 0, 1) := by decide +kernel
theorem dX7_weightSum_6 : decode cX7_weightSum 6 = .ok (.getfield 15, 3) := by decide +kernel
theorem dX7_weightSum_9 : decode cX7_weightSum 9 = .ok (.iload_n 1, 1) := by decide +kernel
theorem dX7_weightSum_10 : decode cX7_weightSum 10 = .ok (.iaload, 1) := by decide +kernel
theorem dX7_weightSum_11 : decode cX7_weightSum 11 = .ok (.if_icmp .ge 22, 3) := by decide +kernel
theorem dX7_weightSum_14 : decode cX7_weightSum 14 = .ok (.iload_n 2, 1) := by decide +kernel
theorem dX7_weightSum_15 : decode cX7_weightSum 15 = .ok (.aload_n 0, 1) := by decide +kernel
theorem dX7_weightSum_16 : decode cX7_weightSum 16 = .ok (.getfield 19, 3) := by decide +kernel
theorem dX7_weightSum_19 : decode cX7_weightSum 19 = .ok (.iconst 5, 1) := by decide +kernel
theorem dX7_weightSum_20 : decode cX7_weightSum 20 = .ok (.iload_n 1, 1) := by decide +kernel
theorem dX7_weightSum_21 : decode cX7_weightSum 21 = .ok (.imul, 1) := by decide +kernel
theorem dX7_weightSum_22 : decode cX7_weightSum 22 = .ok (.iload_n 3, 1) := by decide +kernel
theorem dX7_weightSum_23 : decode cX7_weightSum 23 = .ok (.iadd, 1) := by decide +kernel
theorem dX7_weightSum_24 : decode cX7_weightSum 24 = .ok (.iaload, 1) := by decide +kernel
theorem dX7_weightSum_25 : decode cX7_weightSum 25 = .ok (.iadd, 1) := by decide +kernel
theorem dX7_weightSum_26 : decode cX7_weightSum 26 = .ok (.istore_n 2, 1) := by decide +kernel
theorem dX7_weightSum_27 : decode cX7_weightSum 27 = .ok (.iinc 3 1, 3) := by decide +kernel
theorem dX7_weightSum_30 : decode cX7_weightSum 30 = .ok (.goto (-26), 3) := by decide +kernel
theorem dX7_weightSum_33 : decode cX7_weightSum 33 = .ok (.iload_n 2, 1) := by decide +kernel
theorem dX7_weightSum_34 : decode cX7_weightSum 34 = .ok (.ireturn, 1) := by decide +kernel
set_option maxRecDepth 20000 in
theorem ggX7_setWeight_X7_isCondition : GoodIn wsX7_setWeight wsX7_isCondition := goodIn_r _ [8, 9, 10, 11, 7, 12, 17, 18, 19, 20, 21, 22, 23, 24, 25, 26, 27, 28, 29, 30, 31, 32, 33, 34, 35, 36, 37, 38, 39, 40, 41, 42, 43, 44, 45, 46, 47, 48, 49, 50, 51, 52, 53] (by decide +kernel) (by decide +kernel)
set_option maxRecDepth 20000 in
theorem gX7_setWeight_X7_isCondition : GoodIn wsX7_setWeight (wsV RX7 117 RX7 yX7_isCondition wsX7_isCondition) := goodIn_app (goodIn_of _ (by decide +kernel)) ggX7_setWeight_X7_isCondition
set_option maxRecDepth 20000 in
theorem ggX7_setWeight_X7_isIn : GoodIn wsX7_setWeight wsX7_isIn := goodIn_r _ [12] (by decide +kernel) (by decide +kernel)
set_option maxRecDepth 20000 in
theorem gX7_setWeight_X7_isIn : GoodIn wsX7_setWeight (va_wsS RX7 95 yX7_isIn wsX7_isIn) := goodIn_app (goodIn_of _ (by decide +kernel)) ggX7_setWeight_X7_isIn
set_option maxRecDepth 20000 in
theorem ggX7_setWeight_X7_weightSum : GoodIn wsX7_setWeight wsX7_weightSum := goodIn_r _ [16, 1, 2, 17, 18, 19, 20, 21, 22, 23, 24, 25, 26, 27, 28, 29, 30, 31, 32, 33, 34, 35, 36, 37, 38, 39, 40, 41, 42, 43, 44, 45, 46, 47, 48, 49, 50, 51, 52, 53] (by decide +kernel) (by decide +kernel)
set_option maxRecDepth 20000 in
theorem gX7_setWeight_X7_weightSum : GoodIn wsX7_setWeight (wsV RX7 124 RX7 yX7_weightSum wsX7_weightSum) := goodIn_app (goodIn_of _ (by decide +kernel)) ggX7_setWeight_X7_weightSum
theorem dX7_setWeight_0 : decode cX7_setWeight 0 = .ok (.aload_n 0, 1) := by decide +kernel
theorem dX7_setWeight_1 : decode cX7_setWeight 1 = .ok (.iload_n 1, 1) := by decide +kernel
theorem dX7_setWeight_2 : decode cX7_setWeight 2 = .ok (.invokevirtual 117, 3) := by decide +kernel
theorem dX7_setWeight_5 : decode cX7_setWeight 5 = .ok (.ifCond .eq 19, 3) := by decide +kernel
theorem dX7_setWeight_8 : decode cX7_setWeight 8 = .ok (.iload_n 2, 1) := by decide +kernel
theorem dX7_setWeight_9 : decode cX7_setWeight 9 = .ok (.iconst 0, 1) := by decide +kernel
theorem dX7_setWeight_10 : decode cX7_setWeight 10 = .ok (.aload_n 0, 1) := by decide +kernel
theorem dX7_setWeight_11 : decode cX7_setWeight 11 = .ok (.getfield 15, 3) := by decide +kernel
theorem dX7_setWeight_14 : decode cX7_setWeight 14 = .ok (.iload_n 1, 1) := by decide +kernel
theorem dX7_setWeight_15 : decode cX7_setWeight 15 = .ok (.iaload, 1) := by decide +kernel
theorem dX7_setWeight_16 : decode cX7_setWeight 16 = .ok (.iconst 1, 1) := by decide +kernel
theorem dX7_setWeight_17 : decode cX7_setWeight 17 = .ok (.isub, 1) := by decide +kernel
theorem dX7_setWeight_18 : decode cX7_setWeight 18 = .ok (.invokestatic 95, 3) := by decide +kernel
theorem dX7_setWeight_21 : decode cX7_setWeight 21 = .ok (.ifCond .ne 6, 3) := by decide +kernel
theorem dX7_setWeight_24 : decode cX7_setWeight 24 = .ok (.bipush (-2), 2) := by decide +kernel
theorem dX7_setWeight_26 : decode cX7_setWeight 26 = .ok (.ireturn, 1) := by decide +kernel
theorem dX7_setWeight_27 : decode cX7_setWeight 27 = .ok (.aload_n 0, 1) := by decide +kernel
theorem dX7_setWeight_28 : decode cX7_setWeight 28 = .ok (.getfield 19, 3) := by decide +kernel
theorem dX7_setWeight_31 : decode cX7_setWeight 31 = .ok (.iconst 5, 1) := by decide +kernel
theorem dX7_setWeight_32 : decode cX7_setWeight 32 = .ok (.iload_n 1, 1) := by decide +kernel
theorem dX7_setWeight_33 : decode cX7_setWeight 33 = .ok (.imul, 1) := by decide +kernel
theorem dX7_setWeight_34 : decode cX7_setWeight 34 = .ok (.iload_n 2, 1) := by decide +kernel
theorem dX7_setWeight_35 : decode cX7_setWeight 35 = .ok (.iadd, 1) := by decide +kernel
theorem dX7_setWeight_36 : decode cX7_setWeight 36 = .ok (.iaload, 1) := by decide +kernel
theorem dX7_setWeight_37 : decode cX7_setWeight 37 = .ok (.istore 4, 2) := by decide +kernel
theorem dX7_setWeight_39 : decode cX7_setWeight 39 = .ok (.iload_n 3, 1) := by decide +kernel
theorem dX7_setWeight_40 : decode cX7_setWeight 40 = .ok (.iconst 0, 1) := by decide +kernel
theorem dX7_setWeight_41 : decode cX7_setWeight 41 = .ok (.bipush 9, 2) := by decide +kernel
theorem dX7_setWeight_43 : decode cX7_setWeight 43 = .ok (.invokestatic 95, 3) := by decide +kernel
theorem dX7_setWeight_46 : decode cX7_setWeight 46 = .ok (.ifCond .eq 16, 3) := by decide +kernel
theorem dX7_setWeight_49 : decode cX7_setWeight 49 = .ok (.aload_n 0, 1) := by decide +kernel
theorem dX7_setWeight_50 : decode cX7_setWeight 50 = .ok (.iload_n 1, 1) := by decide +kernel
theorem dX7_setWeight_51 : decode cX7_setWeight 51 = .ok (.invokevirtual 124, 3) := by decide +kernel
theorem dX7_setWeight_54 : decode cX7_setWeight 54 = .ok (.iload 4, 2) := by decide +kernel
theorem dX7_setWeight_56 : decode cX7_setWeight 56 = .ok (.isub, 1) := by decide +kernel
theorem dX7_setWeight_57 : decode cX7_setWeight 57 = .ok (.iload_n 3, 1) := by decide +kernel
theorem dX7_setWeight_58 : decode cX7_setWeight 58 = .ok (.iadd, 1) := by decide +kernel
theorem dX7_setWeight_59 : decode cX7_setWeight 59 = .ok (.ifCond .ne 5, 3) := by decide +kernel
theorem dX7_setWeight_62 : decode cX7_setWeight 62 = .ok (.iconst (-1), 1) := by decide +kernel
theorem dX7_setWeight_63 : decode cX7_setWeight 63 = .ok (.ireturn, 1) := by decide +kernel
theorem dX7_setWeight_64 : decode cX7_setWeight 64 = .ok (.aload_n 0, 1) := by decide +kernel
theorem dX7_setWeight_65 : decode cX7_setWeight 65 = .ok (.getfield 19, 3) := by decide +kernel
theorem dX7_setWeight_68 : decode cX7_setWeight 68 = .ok (.iconst 5, 1) := by decide +kernel
theorem dX7_setWeight_69 : decode cX7_setWeight 69 = .ok (.iload_n 1, 1) := by decide +kernel
theorem dX7_setWeight_70 : decode cX7_setWeight 70 = .ok (.imul, 1) := by decide +kernel
theorem dX7_setWeight_71 : decode cX7_setWeight 71 = .ok (.iload_n 2, 1) := by decide +kernel
theorem dX7_setWeight_72 : decode cX7_setWeight 72 = .ok (.iadd, 1) := by decide +kernel
theorem dX7_setWeight_73 : decode cX7_setWeight 73 = .ok (.iload_n 3, 1) := by decide +kernel
theorem dX7_setWeight_74 : decode cX7_setWeight 74 = .ok (.iastore, 1) := by decide +kernel
theorem dX7_setWeight_75 : decode cX7_setWeight 75 = .ok (.aload_n 0, 1) := by decide +kernel
theorem dX7_setWeight_76 : decode cX7_setWeight 76 = .ok (.iconst 0, 1) := by decide +kernel
theorem dX7_setWeight_77 : decode cX7_setWeight 77 = .ok (.putfield 110, 3) := by decide +kernel
theorem dX7_setWeight_80 : decode cX7_setWeight 80 = .ok (.iload 4, 2) := by decide +kernel
theorem dX7_setWeight_82 : decode cX7_setWeight 82 = .ok (.ireturn, 1) := by decide +kernel
set_option maxRecDepth 20000 in
theorem ggX7_setCost_X7_isCondition : GoodIn wsX7_setCost wsX7_isCondition := goodIn_r _ [7, 8, 9, 10, 6, 11, 12, 13, 14, 15, 16, 17, 18, 19, 20, 21, 22, 23, 24, 25, 26, 27, 28, 29, 30, 31, 32, 33, 34, 35, 36, 37, 38, 39, 40, 41, 42, 43, 44, 45, 46, 47, 48] (by decide +kernel) (by decide +kernel)
set_option maxRecDepth 20000 in
theorem gX7_setCost_X7_isCondition : GoodIn wsX7_setCost (wsV RX7 117 RX7 yX7_isCondition wsX7_isCondition) := goodIn_app (goodIn_of _ (by decide +kernel)) ggX7_setCost_X7_isCondition
set_option maxRecDepth 20000 in
theorem ggX7_setCost_X7_isIn : GoodIn wsX7_setCost wsX7_isIn := goodIn_r _ [11] (by decide +kernel) (by decide +kernel)
set_option maxRecDepth 20000 in
theorem gX7_setCost_X7_isIn : GoodIn wsX7_setCost (va_wsS RX7 95 yX7_isIn wsX7_isIn) := goodIn_app (goodIn_of _ (by decide +kernel)) ggX7_setCost_X7_isIn
theorem dX7_setCost_0 : decode cX7_setCost 0 = .ok (.aload_n 0, 1) := by decide +kernel
theorem dX7_setCost_1 : decode cX7_setCost 1 = .ok (.iload_n 1, 1) := by decide +kernel
theorem dX7_setCost_2 : decode cX7_setCost 2 = .ok (.invokevirtual 117, 3) := by decide +kernel
theorem dX7_setCost_5 : decode cX7_setCost 5 = .ok (.ifCond .ne 6, 3) := by decide +kernel
theorem dX7_setCost_8 : decode cX7_setCost 8 = .ok (.bipush (-2), 2) := by decide +kernel
theorem dX7_setCost_10 : decode cX7_setCost 10 = .ok (.ireturn, 1) := by decide +kernel
theorem dX7_setCost_11 : decode cX7_setCost 11 = .ok (.iload_n 2, 1) := by decide +kernel
theorem dX7_setCost_12 : decode cX7_setCost 12 = .ok (.iconst 1, 1) := by decide +kernel
theorem dX7_setCost_13 : decode cX7_setCost 13 = .ok (.bipush 9, 2) := by decide +kernel
theorem dX7_setCost_15 : decode cX7_setCost 15 = .ok (.invokestatic 95, 3) := by decide +kernel
theorem dX7_setCost_18 : decode cX7_setCost 18 = .ok (.ifCond .ne 5, 3) := by decide +kernel
theorem dX7_setCost_21 : decode cX7_setCost 21 = .ok (.iconst (-1), 1) := by decide +kernel
theorem dX7_setCost_22 : decode cX7_setCost 22 = .ok (.ireturn, 1) := by decide +kernel
theorem dX7_setCost_23 : decode cX7_setCost 23 = .ok (.aload_n 0, 1) := by decide +kernel
theorem dX7_setCost_24 : decode cX7_setCost 24 = .ok (.getfield 22, 3) := by decide +kernel
theorem dX7_setCost_27 : decode cX7_setCost 27 = .ok (.iload_n 1, 1) := by decide +kernel
theorem dX7_setCost_28 : decode cX7_setCost 28 = .ok (.iaload, 1) := by decide +kernel
theorem dX7_setCost_29 : decode cX7_setCost 29 = .ok (.istore_n 3, 1) := by decide +kernel
theorem dX7_setCost_30 : decode cX7_setCost 30 = .ok (.aload_n 0, 1) := by decide +kernel
theorem dX7_setCost_31 : decode cX7_setCost 31 = .ok (.getfield 22, 3) := by decide +kernel
theorem dX7_setCost_34 : decode cX7_setCost 34 = .ok (.iload_n 1, 1) := by decide +kernel
theorem dX7_setCost_35 : decode cX7_setCost 35 = .ok (.iload_n 2, 1) := by decide +kernel
theorem dX7_setCost_36 : decode cX7_setCost 36 = .ok (.iastore, 1) := by decide +kernel
theorem dX7_setCost_37 : decode cX7_setCost 37 = .ok (.aload_n 0, 1) := by decide +kernel
theorem dX7_setCost_38 : decode cX7_setCost 38 = .ok (.iconst 0, 1) := by decide +kernel
theorem dX7_setCost_39 : decode cX7_setCost 39 = .ok (.putfield 110, 3) := by decide +kernel
theorem dX7_setCost_42 : decode cX7_setCost 42 = .ok (.iload_n 3, 1) := by decide +kernel
theorem dX7_setCost_43 : decode cX7_setCost 43 = .ok (.ireturn, 1) := by decide +kernel
theorem dX7_told_0 : decode cX7_told 0 = .ok (.iload_n 0, 1) := by decide +kernel
theorem dX7_told_1 : decode cX7_told 1 = .ok (.iconst (-1), 1) := by decide +kernel
theorem dX7_told_2 : decode cX7_told 2 = .ok (.if_icmp .ne 8, 3) := by decide +kernel
theorem dX7_told_5 : decode cX7_told 5 = .ok (.bipush (-6), 2) := by decide +kernel
theorem dX7_told_7 : decode cX7_told 7 = .ok (.goto 4, 3) := by decide +kernel
theorem dX7_told_10 : decode cX7_told 10 = .ok (.iload_n 0, 1) := by decide +kernel
theorem dX7_told_11 : decode cX7_told 11 = .ok (.ireturn, 1) := by decide +kernel
set_option maxRecDepth 20000 in
theorem ggX7_setDefault_X7_isIn : GoodIn wsX7_setDefault wsX7_isIn := goodIn_r _ [6] (by decide +kernel) (by decide +kernel)
set_option maxRecDepth 20000 in
theorem gX7_setDefault_X7_isIn : GoodIn wsX7_setDefault (va_wsS RX7 95 yX7_isIn wsX7_isIn) := goodIn_app (goodIn_of _ (by decide +kernel)) ggX7_setDefault_X7_isIn
set_option maxRecDepth 20000 in
theorem ggX7_setDefault_X7_told : GoodIn wsX7_setDefault wsX7_told := goodIn_r _ [9] (by decide +kernel) (by decide +kernel)
set_option maxRecDepth 20000 in
theorem gX7_setDefault_X7_told : GoodIn wsX7_setDefault (va_wsS RX7 128 yX7_told wsX7_told) := goodIn_app (goodIn_of _ (by decide +kernel)) ggX7_setDefault_X7_told
theorem dX7_setDefault_0 : decode cX7_setDefault 0 = .ok (.iload_n 1, 1) := by decide +kernel
theorem dX7_setDefault_1 : decode cX7_setDefault 1 = .ok (.iconst (-1), 1) := by decide +kernel
theorem dX7_setDefault_2 : decode cX7_setDefault 2 = .ok (.bipush 9, 2) := by decide +kernel
theorem dX7_setDefault_4 : decode cX7_setDefault 4 = .ok (.invokestatic 95, 3) := by decide +kernel
theorem dX7_setDefault_7 : decode cX7_setDefault 7 = .ok (.ifCond .ne 5, 3) := by decide +kernel
theorem dX7_setDefault_10 : decode cX7_setDefault 10 = .ok (.iconst (-1), 1) := by decide +kernel
theorem dX7_setDefault_11 : decode cX7_setDefault 11 = .ok (.ireturn, 1) := by decide +kernel
theorem dX7_setDefault_12 : decode cX7_setDefault 12 = .ok (.aload_n 0, 1) := by decide +kernel
theorem dX7_setDefault_13 : decode cX7_setDefault 13 = .ok (.getfield 31, 3) := by decide +kernel
theorem dX7_setDefault_16 : decode cX7_setDefault 16 = .ok (.istore_n 2, 1) := by decide +kernel
theorem dX7_setDefault_17 : decode cX7_setDefault 17 = .ok (.aload_n 0, 1) := by decide +kernel
theorem dX7_setDefault_18 : decode cX7_setDefault 18 = .ok (.iload_n 1, 1) := by decide +kernel
theorem dX7_setDefault_19 : decode cX7_setDefault 19 = .ok (.putfield 31, 3) := by decide +kernel
theorem dX7_setDefault_22 : decode cX7_setDefault 22 = .ok (.aload_n 0, 1) := by decide +kernel
theorem dX7_setDefault_23 : decode cX7_setDefault 23 = .ok (.iconst 0, 1) := by decide +kernel
theorem dX7_setDefault_24 : decode cX7_setDefault 24 = .ok (.putfield 110, 3) := by decide +kernel
theorem dX7_setDefault_27 : decode cX7_setDefault 27 = .ok (.iload_n 2, 1) := by decide +kernel
theorem dX7_setDefault_28 : decode cX7_setDefault 28 = .ok (.invokestatic 128, 3) := by decide +kernel
theorem dX7_setDefault_31 : decode cX7_setDefault 31 = .ok (.ireturn, 1) := by decide +kernel
set_option maxRecDepth 20000 in
theorem ggX7_append_X7_isIn : GoodIn wsX7_append wsX7_isIn := goodIn_r _ [6] (by decide +kernel) (by decide +kernel)
set_option maxRecDepth 20000 in
theorem gX7_append_X7_isIn : GoodIn wsX7_append (va_wsS RX7 95 yX7_isIn wsX7_isIn) := goodIn_app (goodIn_of _ (by decide +kernel)) ggX7_append_X7_isIn
theorem dX7_append_0 : decode cX7_append 0 = .ok (.iload_n 1, 1) := by decide +kernel
theorem dX7_append_1 : decode cX7_append 1 = .ok (.iconst 0, 1) := by decide +kernel
theorem dX7_append_2 : decode cX7_append 2 = .ok (.bipush 127, 2) := by decide +kernel
theorem dX7_append_4 : decode cX7_append 4 = .ok (.invokestatic 95, 3) := by decide +kernel
theorem dX7_append_7 : decode cX7_append 7 = .ok (.ifCond .eq 13, 3) := by decide +kernel
theorem dX7_append_10 : decode cX7_append 10 = .ok (.iload_n 2, 1) := by decide +kernel
theorem dX7_append_11 : decode cX7_append 11 = .ok (.iconst 1, 1) := by decide +kernel
theorem dX7_append_12 : decode cX7_append 12 = .ok (.bipush 40, 2) := by decide +kernel
theorem dX7_append_14 : decode cX7_append 14 = .ok (.invokestatic 95, 3) := by decide +kernel
theorem dX7_append_17 : decode cX7_append 17 = .ok (.ifCond .ne 5, 3) := by decide +kernel
theorem dX7_append_20 : decode cX7_append 20 = .ok (.iconst (-1), 1) := by decide +kernel
theorem dX7_append_21 : decode cX7_append 21 = .ok (.ireturn, 1) := by decide +kernel
theorem dX7_append_22 : decode cX7_append 22 = .ok (.aload_n 0, 1) := by decide +kernel
theorem dX7_append_23 : decode cX7_append 23 = .ok (.getfield 131, 3) := by decide +kernel
theorem dX7_append_26 : decode cX7_append 26 = .ok (.iload_n 2, 1) := by decide +kernel
theorem dX7_append_27 : decode cX7_append 27 = .ok (.iadd, 1) := by decide +kernel
theorem dX7_append_28 : decode cX7_append 28 = .ok (.bipush 40, 2) := by decide +kernel
theorem dX7_append_30 : decode cX7_append 30 = .ok (.if_icmp .le 6, 3) := by decide +kernel
theorem dX7_append_33 : decode cX7_append 33 = .ok (.bipush (-4), 2) := by decide +kernel
theorem dX7_append_35 : decode cX7_append 35 = .ok (.ireturn, 1) := by decide +kernel
theorem dX7_append_36 : decode cX7_append 36 = .ok (.iconst 0, 1) := by decide +kernel
theorem dX7_append_37 : decode cX7_append 37 = .ok (.istore_n 3, 1) := by decide +kernel
theorem dX7_append_38 : decode cX7_append 38 = .ok (.iload_n 3, 1) := by decide +kernel
theorem dX7_append_39 : decode cX7_append 39 = .ok (.iload_n 2, 1) := by decide +kernel
theorem dX7_append_40 : decode cX7_append 40 = .ok (.if_icmp .ge 29, 3) := by decide +kernel
theorem dX7_append_43 : decode cX7_append 43 = .ok (.aload_n 0, 1) := by decide +kernel
theorem dX7_append_44 : decode cX7_append 44 = .ok (.getfield 34, 3) := by decide +kernel
theorem dX7_append_47 : decode cX7_append 47 = .ok (.aload_n 0, 1) := by decide +kernel
theorem dX7_append_48 : decode cX7_append 48 = .ok (.getfield 131, 3) := by decide +kernel
theorem dX7_append_51 : decode cX7_append 51 = .ok (.iload_n 1, 1) := by decide +kernel
theorem dX7_append_52 : decode cX7_append 52 = .ok (.iastore, 1) := by decide +kernel
theorem dX7_append_53 : decode cX7_append 53 = .ok (.aload_n 0, 1) := by decide +kernel
theorem dX7_append_54 : decode cX7_append 54 = .ok (.dup, 1) := by decide +kernel
theorem dX7_append_55 : decode cX7_append 55 = .ok (.getfield 131, 3) := by decide +kernel
theorem dX7_append_58 : decode cX7_append 58 = .ok (.iconst 1, 1) := by decide +kernel
theorem dX7_append_59 : decode cX7_append 59 = .ok (.iadd, 1) := by decide +kernel
theorem dX7_append_60 : decode cX7_append 60 = .ok (.putfield 131, 3) := by decide +kernel
theorem dX7_append_63 : decode cX7_append 63 = .ok (.iinc 3 1, 3) := by decide +kernel
theorem dX7_append_66 : decode cX7_append 66 = .ok (.goto (-28), 3) := by decide +kernel
theorem dX7_append_69 : decode cX7_append 69 = .ok (.aload_n 0, 1) := by decide +kernel
theorem dX7_append_70 : decode cX7_append 70 = .ok (.getfield 131, 3) := by decide +kernel
theorem dX7_append_73 : decode cX7_append 73 = .ok (.ireturn, 1) := by decide +kernel
theorem dX7_clearInput_0 : decode cX7_clearInput 0 = .ok (.aload_n 0, 1) := by decide +kernel
theorem dX7_clearInput_1 : decode cX7_clearInput 1 = .ok (.getfield 131, 3) := by decide +kernel
theorem dX7_clearInput_4 : decode cX7_clearInput 4 = .ok (.istore_n 1, 1) := by decide +kernel
theorem dX7_clearInput_5 : decode cX7_clearInput 5 = .ok (.aload_n 0, 1) := by decide +kernel
theorem dX7_clearInput_6 : decode cX7_clearInput 6 = .ok (.iconst 0, 1) := by decide +kernel
theorem dX7_clearInput_7 : decode cX7_clearInput 7 = .ok (.putfield 131, 3) := by decide +kernel
theorem dX7_clearInput_10 : decode cX7_clearInput 10 = .ok (.iload_n 1, 1) := by decide +kernel
theorem dX7_clearInput_11 : decode cX7_clearInput 11 = .ok (.ireturn, 1) := by decide +kernel
set_option maxRecDepth 20000 in
theorem ggX7_readRule_X7_isIn : GoodIn wsX7_readRule wsX7_isIn := goodIn_r _ [9] (by decide +kernel) (by decide +kernel)
set_option maxRecDepth 20000 in
theorem gX7_readRule_X7_isIn : GoodIn wsX7_readRule (va_wsS RX7 95 yX7_isIn wsX7_isIn) := goodIn_app (goodIn_of _ (by decide +kernel)) ggX7_readRule_X7_isIn
theorem dX7_readRule_0 : decode cX7_readRule 0 = .ok (.iconst 0, 1) := by decide +kernel
theorem dX7_readRule_1 : decode cX7_readRule 1 = .ok (.istore_n 2, 1) := by decide +kernel
theorem dX7_readRule_2 : decode cX7_readRule 2 = .ok (.iconst 0, 1) := by decide +kernel
theorem dX7_readRule_3 : decode cX7_readRule 3 = .ok (.istore_n 3, 1) := by decide +kernel
theorem dX7_readRule_4 : decode cX7_readRule 4 = .ok (.iconst 0, 1) := by decide +kernel
theorem dX7_readRule_5 : decode cX7_readRule 5 = .ok (.istore 4, 2) := by decide +kernel
theorem dX7_readRule_7 : decode cX7_readRule 7 = .ok (.iconst 0, 1) := by decide +kernel
theorem dX7_readRule_8 : decode cX7_readRule 8 = .ok (.istore 5, 2) := by decide +kernel
theorem dX7_readRule_10 : decode cX7_readRule 10 = .ok (.iconst 0, 1) := by decide +kernel
theorem dX7_readRule_11 : decode cX7_readRule 11 = .ok (.istore 6, 2) := by decide +kernel
theorem dX7_readRule_13 : decode cX7_readRule 13 = .ok (.iload 6, 2) := by decide +kernel
theorem dX7_readRule_15 : decode cX7_readRule 15 = .ok (.iconst 4, 1) := by decide +kernel
theorem dX7_readRule_16 : decode cX7_readRule 16 = .ok (.if_icmp .ge 17, 3) := by decide +kernel
theorem dX7_readRule_19 : decode cX7_readRule 19 = .ok (.aload_n 0, 1) := by decide +kernel
theorem dX7_readRule_20 : decode cX7_readRule 20 = .ok (.getfield 37, 3) := by decide +kernel
theorem dX7_readRule_23 : decode cX7_readRule 23 = .ok (.iload 6, 2) := by decide +kernel
theorem dX7_readRule_25 : decode cX7_readRule 25 = .ok (.iconst 0, 1) := by decide +kernel
theorem dX7_readRule_26 : decode cX7_readRule 26 = .ok (.iastore, 1) := by decide +kernel
theorem dX7_readRule_27 : decode cX7_readRule 27 = .ok (.iinc 6 1, 3) := by decide +kernel
theorem dX7_readRule_30 : decode cX7_readRule 30 = .ok (.goto (-17), 3) := by decide +kernel
theorem dX7_readRule_33 : decode cX7_readRule 33 = .ok (.iconst 0, 1) := by decide +kernel
theorem dX7_readRule_34 : decode cX7_readRule 34 = .ok (.istore 6, 2) := by decide +kernel
theorem dX7_readRule_36 : decode cX7_readRule 36 = .ok (.iload 6, 2) := by decide +kernel
theorem dX7_readRule_38 : decode cX7_readRule 38 = .ok (.iload_n 1, 1) := by decide +kernel
theorem dX7_readRule_39 : decode cX7_readRule 39 = .ok (.if_icmp .ge 183, 3) := by decide +kernel
theorem dX7_readRule_42 : decode cX7_readRule 42 = .ok (.aload_n 0, 1) := by decide +kernel
theorem dX7_readRule_43 : decode cX7_readRule 43 = .ok (.getfield 34, 3) := by decide +kernel
theorem dX7_readRule_46 : decode cX7_readRule 46 = .ok (.iload 6, 2) := by decide +kernel
theorem dX7_readRule_48 : decode cX7_readRule 48 = .ok (.iaload, 1) := by decide +kernel
theorem dX7_readRule_49 : decode cX7_readRule 49 = .ok (.istore 7, 2) := by decide +kernel
theorem dX7_readRule_51 : decode cX7_readRule 51 = .ok (.iload_n 2, 1) := by decide +kernel
theorem dX7_readRule_52 : decode cX7_readRule 52 = .ok (.aload_n 0, 1) := by decide +kernel
theorem dX7_readRule_53 : decode cX7_readRule 53 = .ok (.getfield 9, 3) := by decide +kernel
theorem dX7_readRule_56 : decode cX7_readRule 56 = .ok (.if_icmp .ne 38, 3) := by decide +kernel
theorem dX7_readRule_59 : decode cX7_readRule 59 = .ok (.iload 5, 2) := by decide +kernel
theorem dX7_readRule_61 : decode cX7_readRule 61 = .ok (.ifCond .ne 15, 3) := by decide +kernel
theorem dX7_readRule_64 : decode cX7_readRule 64 = .ok (.iload 7, 2) := by decide +kernel
theorem dX7_readRule_66 : decode cX7_readRule 66 = .ok (.bipush 48, 2) := by decide +kernel
theorem dX7_readRule_68 : decode cX7_readRule 68 = .ok (.bipush 57, 2) := by decide +kernel
theorem dX7_readRule_70 : decode cX7_readRule 70 = .ok (.invokestatic 95, 3) := by decide +kernel
theorem dX7_readRule_73 : decode cX7_readRule 73 = .ok (.ifCond .ne 6, 3) := by decide +kernel
theorem dX7_readRule_76 : decode cX7_readRule 76 = .ok (.iload 6, 2) := by decide +kernel
theorem dX7_readRule_78 : decode cX7_readRule 78 = .ok (.ireturn, 1) := by decide +kernel
theorem dX7_readRule_79 : decode cX7_readRule 79 = .ok (.aload_n 0, 1) := by decide +kernel
theorem dX7_readRule_80 : decode cX7_readRule 80 = .ok (.iload 7, 2) := by decide +kernel
theorem dX7_readRule_82 : decode cX7_readRule 82 = .ok (.bipush 48, 2) := by decide +kernel
theorem dX7_readRule_84 : decode cX7_readRule 84 = .ok (.isub, 1) := by decide +kernel
theorem dX7_readRule_85 : decode cX7_readRule 85 = .ok (.putfield 134, 3) := by decide +kernel
theorem dX7_readRule_88 : decode cX7_readRule 88 = .ok (.iconst 1, 1) := by decide +kernel
theorem dX7_readRule_89 : decode cX7_readRule 89 = .ok (.istore 5, 2) := by decide +kernel
theorem dX7_readRule_91 : decode cX7_readRule 91 = .ok (.goto 125, 3) := by decide +kernel
theorem dX7_readRule_94 : decode cX7_readRule 94 = .ok (.iload_n 3, 1) := by decide +kernel
theorem dX7_readRule_95 : decode cX7_readRule 95 = .ok (.ifCond .eq 36, 3) := by decide +kernel
theorem dX7_readRule_98 : decode cX7_readRule 98 = .ok (.iload 7, 2) := by decide +kernel
theorem dX7_readRule_100 : decode cX7_readRule 100 = .ok (.iload_n 2, 1) := by decide +kernel
theorem dX7_readRule_101 : decode cX7_readRule 101 = .ok (.aload_n 0, 1) := by decide +kernel
theorem dX7_readRule_102 : decode cX7_readRule 102 = .ok (.getfield 9, 3) := by decide +kernel
theorem dX7_readRule_105 : decode cX7_readRule 105 = .ok (.iconst 1, 1) := by decide +kernel
theorem dX7_readRule_106 : decode cX7_readRule 106 = .ok (.isub, 1) := by decide +kernel
theorem dX7_readRule_107 : decode cX7_readRule 107 = .ok (.if_icmp .ne 8, 3) := by decide +kernel
theorem dX7_readRule_110 : decode cX7_readRule 110 = .ok (.bipush 58, 2) := by decide +kernel
theorem dX7_readRule_112 : decode cX7_readRule 112 = .ok (.goto 5, 3) := by decide +kernel
theorem dX7_readRule_115 : decode cX7_readRule 115 = .ok (.bipush 44, 2) := by decide +kernel
theorem dX7_readRule_117 : decode cX7_readRule 117 = .ok (.if_icmp .ne 14, 3) := by decide +kernel
theorem dX7_readRule_120 : decode cX7_readRule 120 = .ok (.iinc 2 1, 3) := by decide +kernel
theorem dX7_readRule_123 : decode cX7_readRule 123 = .ok (.iconst 0, 1) := by decide +kernel
theorem dX7_readRule_124 : decode cX7_readRule 124 = .ok (.istore_n 3, 1) := by decide +kernel
theorem dX7_readRule_125 : decode cX7_readRule 125 = .ok (.iconst 0, 1) := by decide +kernel
theorem dX7_readRule_126 : decode cX7_readRule 126 = .ok (.istore 4, 2) := by decide +kernel
theorem dX7_readRule_128 : decode cX7_readRule 128 = .ok (.goto 88, 3) := by decide +kernel
theorem dX7_readRule_131 : decode cX7_readRule 131 = .ok (.iload_n 3, 1) := by decide +kernel
theorem dX7_readRule_132 : decode cX7_readRule 132 = .ok (.ifCond .ne 34, 3) := by decide +kernel
theorem dX7_readRule_135 : decode cX7_readRule 135 = .ok (.iload 7, 2) := by decide +kernel
theorem dX7_readRule_137 : decode cX7_readRule 137 = .ok (.bipush 42, 2) := by decide +kernel
theorem dX7_readRule_139 : decode cX7_readRule 139 = .ok (.if_icmp .ne 27, 3) := by decide +kernel
theorem dX7_readRule_142 : decode cX7_readRule 142 = .ok (.aload_n 0, 1) := by decide +kernel
theorem dX7_readRule_143 : decode cX7_readRule 143 = .ok (.getfield 37, 3) := by decide +kernel
theorem dX7_readRule_146 : decode cX7_readRule 146 = .ok (.iload_n 2, 1) := by decide +kernel
theorem dX7_readRule_147 : decode cX7_readRule 147 = .ok (.iconst 1, 1) := by decide +kernel
theorem dX7_readRule_148 : decode cX7_readRule 148 = .ok (.aload_n 0, 1) := by decide +kernel
theorem dX7_readRule_149 : decode cX7_readRule 149 = .ok (.getfield 15, 3) := by decide +kernel
theorem dX7_readRule_152 : decode cX7_readRule 152 = .ok (.iload_n 2, 1) := by decide +kernel
theorem dX7_readRule_153 : decode cX7_readRule 153 = .ok (.iaload, 1) := by decide +kernel
theorem dX7_readRule_154 : decode cX7_readRule 154 = .ok (.ishl, 1) := by decide +kernel
theorem dX7_readRule_155 : decode cX7_readRule 155 = .ok (.iconst 1, 1) := by decide +kernel
theorem dX7_readRule_156 : decode cX7_readRule 156 = .ok (.isub, 1) := by decide +kernel
theorem dX7_readRule_157 : decode cX7_readRule 157 = .ok (.iastore, 1) := by decide +kernel
theorem dX7_readRule_158 : decode cX7_readRule 158 = .ok (.iconst 1, 1) := by decide +kernel
theorem dX7_readRule_159 : decode cX7_readRule 159 = .ok (.istore_n 3, 1) := by decide +kernel
theorem dX7_readRule_160 : decode cX7_readRule 160 = .ok (.iconst 1, 1) := by decide +kernel
theorem dX7_readRule_161 : decode cX7_readRule 161 = .ok (.istore 4, 2) := by decide +kernel
theorem dX7_readRule_163 : decode cX7_readRule 163 = .ok (.goto 53, 3) := by decide +kernel
theorem dX7_readRule_166 : decode cX7_readRule 166 = .ok (.iload 4, 2) := by decide +kernel
theorem dX7_readRule_168 : decode cX7_readRule 168 = .ok (.ifCond .ne 45, 3) := by decide +kernel
theorem dX7_readRule_171 : decode cX7_readRule 171 = .ok (.iload 7, 2) := by decide +kernel
theorem dX7_readRule_173 : decode cX7_readRule 173 = .ok (.bipush 48, 2) := by decide +kernel
theorem dX7_readRule_175 : decode cX7_readRule 175 = .ok (.bipush 48, 2) := by decide +kernel
theorem dX7_readRule_177 : decode cX7_readRule 177 = .ok (.aload_n 0, 1) := by decide +kernel
theorem dX7_readRule_178 : decode cX7_readRule 178 = .ok (.getfield 15, 3) := by decide +kernel
theorem dX7_readRule_181 : decode cX7_readRule 181 = .ok (.iload_n 2, 1) := by decide +kernel
theorem dX7_readRule_182 : decode cX7_readRule 182 = .ok (.iaload, 1) := by decide +kernel
theorem dX7_readRule_183 : decode cX7_readRule 183 = .ok (.iadd, 1) := by decide +kernel
theorem dX7_readRule_184 : decode cX7_readRule 184 = .ok (.iconst 1, 1) := by decide +kernel
theorem dX7_readRule_185 : decode cX7_readRule 185 = .ok (.isub, 1) := by decide +kernel
theorem dX7_readRule_186 : decode cX7_readRule 186 = .ok (.invokestatic 95, 3) := by decide +kernel
theorem dX7_readRule_189 : decode cX7_readRule 189 = .ok (.ifCond .eq 24, 3) := by decide +kernel
theorem dX7_readRule_192 : decode cX7_readRule 192 = .ok (.aload_n 0, 1) := by decide +kernel
theorem dX7_readRule_193 : decode cX7_readRule 193 = .ok (.getfield 37, 3) := by decide +kernel
theorem dX7_readRule_196 : decode cX7_readRule 196 = .ok (.iload_n 2, 1) := by decide +kernel
theorem dX7_readRule_197 : decode cX7_readRule 197 = .ok (.dup2, 1) := by decide +kernel
theorem dX7_readRule_198 : decode cX7_readRule 198 = .ok (.iaload, 1) := by decide +kernel
theorem dX7_readRule_199 : decode cX7_readRule 199 = .ok (.iconst 1, 1) := by decide +kernel
theorem dX7_readRule_200 : decode cX7_readRule 200 = .ok (.iload 7, 2) := by decide +kernel
theorem dX7_readRule_202 : decode cX7_readRule 202 = .ok (.bipush 48, 2) := by decide +kernel
theorem dX7_readRule_204 : decode cX7_readRule 204 = .ok (.isub, 1) := by decide +kernel
theorem dX7_readRule_205 : decode cX7_readRule 205 = .ok (.ishl, 1) := by decide +kernel
theorem dX7_readRule_206 : decode cX7_readRule 206 = .ok (.ior, 1) := by decide +kernel
theorem dX7_readRule_207 : decode cX7_readRule 207 = .ok (.iastore, 1) := by decide +kernel
theorem dX7_readRule_208 : decode cX7_readRule 208 = .ok (.iconst 1, 1) := by decide +kernel
theorem dX7_readRule_209 : decode cX7_readRule 209 = .ok (.istore_n 3, 1) := by decide +kernel
theorem dX7_readRule_210 : decode cX7_readRule 210 = .ok (.goto 6, 3) := by decide +kernel
theorem dX7_readRule_213 : decode cX7_readRule 213 = .ok (.iload 6, 2) := by decide +kernel
theorem dX7_readRule_215 : decode cX7_readRule 215 = .ok (.ireturn, 1) := by decide +kernel
theorem dX7_readRule_216 : decode cX7_readRule 216 = .ok (.iinc 6 1, 3) := by decide +kernel
theorem dX7_readRule_219 : decode cX7_readRule 219 = .ok (.goto (-183), 3) := by decide +kernel
theorem dX7_readRule_222 : decode cX7_readRule 222 = .ok (.iload 5, 2) := by decide +kernel
theorem dX7_readRule_224 : decode cX7_readRule 224 = .ok (.ifCond .eq 8, 3) := by decide +kernel
theorem dX7_readRule_227 : decode cX7_readRule 227 = .ok (.bipush (-6), 2) := by decide +kernel
theorem dX7_readRule_229 : decode cX7_readRule 229 = .ok (.goto 4, 3) := by decide +kernel
theorem dX7_readRule_232 : decode cX7_readRule 232 = .ok (.iload_n 1, 1) := by decide +kernel
theorem dX7_readRule_233 : decode cX7_readRule 233 = .ok (.ireturn, 1) := by decide +kernel
theorem dX7_insert_0 : decode cX7_insert 0 = .ok (.aload_n 0, 1) := by decide +kernel
theorem dX7_insert_1 : decode cX7_insert 1 = .ok (.getfield 99, 3) := by decide +kernel
theorem dX7_insert_4 : decode cX7_insert 4 = .ok (.istore_n 2, 1) := by decide +kernel
theorem dX7_insert_5 : decode cX7_insert 5 = .ok (.iload_n 2, 1) := by decide +kernel
theorem dX7_insert_6 : decode cX7_insert 6 = .ok (.iload_n 1, 1) := by decide +kernel
theorem dX7_insert_7 : decode cX7_insert 7 = .ok (.if_icmp .le 58, 3) := by decide +kernel
theorem dX7_insert_10 : decode cX7_insert 10 = .ok (.aload_n 0, 1) := by decide +kernel
theorem dX7_insert_11 : decode cX7_insert 11 = .ok (.getfield 28, 3) := by decide +kernel
theorem dX7_insert_14 : decode cX7_insert 14 = .ok (.iload_n 2, 1) := by decide +kernel
theorem dX7_insert_15 : decode cX7_insert 15 = .ok (.aload_n 0, 1) := by decide +kernel
theorem dX7_insert_16 : decode cX7_insert 16 = .ok (.getfield 28, 3) := by decide +kernel
theorem dX7_insert_19 : decode cX7_insert 19 = .ok (.iload_n 2, 1) := by decide +kernel
theorem dX7_insert_20 : decode cX7_insert 20 = .ok (.iconst 1, 1) := by decide +kernel
theorem dX7_insert_21 : decode cX7_insert 21 = .ok (.isub, 1) := by decide +kernel
theorem dX7_insert_22 : decode cX7_insert 22 = .ok (.iaload, 1) := by decide +kernel
theorem dX7_insert_23 : decode cX7_insert 23 = .ok (.iastore, 1) := by decide +kernel
theorem dX7_insert_24 : decode cX7_insert 24 = .ok (.iconst 0, 1) := by decide +kernel
theorem dX7_insert_25 : decode cX7_insert 25 = .ok (.istore_n 3, 1) := by decide +kernel
theorem dX7_insert_26 : decode cX7_insert 26 = .ok (.iload_n 3, 1) := by decide +kernel
theorem dX7_insert_27 : decode cX7_insert 27 = .ok (.iconst 4, 1) := by decide +kernel
theorem dX7_insert_28 : decode cX7_insert 28 = .ok (.if_icmp .ge 31, 3) := by decide +kernel
theorem dX7_insert_31 : decode cX7_insert 31 = .ok (.aload_n 0, 1) := by decide +kernel
theorem dX7_insert_32 : decode cX7_insert 32 = .ok (.getfield 25, 3) := by decide +kernel
theorem dX7_insert_35 : decode cX7_insert 35 = .ok (.iconst 4, 1) := by decide +kernel
theorem dX7_insert_36 : decode cX7_insert 36 = .ok (.iload_n 2, 1) := by decide +kernel
theorem dX7_insert_37 : decode cX7_insert 37 = .ok (.imul, 1) := by decide +kernel
theorem dX7_insert_38 : decode cX7_insert 38 = .ok (.iload_n 3, 1) := by decide +kernel
theorem dX7_insert_39 : decode cX7_insert 39 = .ok (.iadd, 1) := by decide +kernel
theorem dX7_insert_40 : decode cX7_insert 40 = .ok (.aload_n 0, 1) := by decide +kernel
theorem dX7_insert_41 : decode cX7_insert 41 = .ok (.getfield 25, 3) := by decide +kernel
theorem dX7_insert_44 : decode cX7_insert 44 = .ok (.iconst 4, 1) := by decide +kernel
theorem dX7_insert_45 : decode cX7_insert 45 = .ok (.iload_n 2, 1) := by decide +kernel
theorem dX7_insert_46 : decode cX7_insert 46 = .ok (.iconst 1, 1) := by decide +kernel
theorem dX7_insert_47 : decode cX7_insert 47 = .ok (.isub, 1) := by decide +kernel
theorem dX7_insert_48 : decode cX7_insert 48 = .ok (.imul, 1) := by decide +kernel
theorem dX7_insert_49 : decode cX7_insert 49 = .ok (.iload_n 3, 1) := by decide +kernel
theorem dX7_insert_50 : decode cX7_insert 50 = .ok (.iadd, 1) := by decide +kernel
theorem dX7_insert_51 : decode cX7_insert 51 = .ok (.iaload, 1) := by decide +kernel
theorem dX7_insert_52 : decode cX7_insert 52 = .ok (.iastore, 1) := by decide +kernel
theorem dX7_insert_53 : decode cX7_insert 53 = .ok (.iinc 3 1, 3) := by decide +kernel
theorem dX7_insert_56 : decode cX7_insert 56 = .ok (.goto (-30), 3) := by decide +kernel
theorem dX7_insert_59 : decode cX7_insert 59 = .ok (.iinc 2 (-1), 3) := by decide +kernel
theorem dX7_insert_62 : decode cX7_insert 62 = .ok (.goto (-57), 3) := by decide +kernel
theorem dX7_insert_65 : decode cX7_insert 65 = .ok (.aload_n 0, 1) := by decide +kernel
theorem dX7_insert_66 : decode cX7_insert 66 = .ok (.getfield 28, 3) := by decide +kernel
theorem dX7_insert_69 : decode cX7_insert 69 = .ok (.iload_n 1, 1) := by decide +kernel
theorem dX7_insert_70 : decode cX7_insert 70 = .ok (.aload_n 0, 1) := by decide +kernel
theorem dX7_insert_71 : decode cX7_insert 71 = .ok (.getfield 134, 3) := by decide +kernel
theorem dX7_insert_74 : decode cX7_insert 74 = .ok (.iastore, 1) := by decide +kernel
theorem dX7_insert_75 : decode cX7_insert 75 = .ok (.iconst 0, 1) := by decide +kernel
theorem dX7_insert_76 : decode cX7_insert 76 = .ok (.istore_n 2, 1) := by decide +kernel
theorem dX7_insert_77 : decode cX7_insert 77 = .ok (.iload_n 2, 1) := by decide +kernel
theorem dX7_insert_78 : decode cX7_insert 78 = .ok (.iconst 4, 1) := by decide +kernel
theorem dX7_insert_79 : decode cX7_insert 79 = .ok (.if_icmp .ge 25, 3) := by decide +kernel
theorem dX7_insert_82 : decode cX7_insert 82 = .ok (.aload_n 0, 1) := by decide +kernel
theorem dX7_insert_83 : decode cX7_insert 83 = .ok (.getfield 25, 3) := by decide +kernel
theorem dX7_insert_86 : decode cX7_insert 86 = .ok (.iconst 4, 1) := by decide +kernel
theorem dX7_insert_87 : decode cX7_insert 87 = .ok (.iload_n 1, 1) := by decide +kernel
theorem dX7_insert_88 : decode cX7_insert 88 = .ok (.imul, 1) := by decide +kernel
theorem dX7_insert_89 : decode cX7_insert 89 = .ok (.iload_n 2, 1) := by decide +kernel
theorem dX7_insert_90 : decode cX7_insert 90 = .ok (.iadd, 1) := by decide +kernel
theorem dX7_insert_91 : decode cX7_insert 91 = .ok (.aload_n 0, 1) := by decide +kernel
theorem dX7_insert_92 : decode cX7_insert 92 = .ok (.getfield 37, 3) := by decide +kernel
theorem dX7_insert_95 : decode cX7_insert 95 = .ok (.iload_n 2, 1) := by decide +kernel
theorem dX7_insert_96 : decode cX7_insert 96 = .ok (.iaload, 1) := by decide +kernel
theorem dX7_insert_97 : decode cX7_insert 97 = .ok (.iastore, 1) := by decide +kernel
theorem dX7_insert_98 : decode cX7_insert 98 = .ok (.iinc 2 1, 3) := by decide +kernel
theorem dX7_insert_101 : decode cX7_insert 101 = .ok (.goto (-24), 3) := by decide +kernel
theorem dX7_insert_104 : decode cX7_insert 104 = .ok (.aload_n 0, 1) := by decide +kernel
theorem dX7_insert_105 : decode cX7_insert 105 = .ok (.dup, 1) := by decide +kernel
theorem dX7_insert_106 : decode cX7_insert 106 = .ok (.getfield 99, 3) := by decide +kernel
theorem dX7_insert_109 : decode cX7_insert 109 = .ok (.iconst 1, 1) := by decide +kernel
theorem dX7_insert_110 : decode cX7_insert 110 = .ok (.iadd, 1) := by decide +kernel
theorem dX7_insert_111 : decode cX7_insert 111 = .ok (.putfield 99, 3) := by decide +kernel
theorem dX7_insert_114 : decode cX7_insert 114 = .ok (.aload_n 0, 1) := by decide +kernel
theorem dX7_insert_115 : decode cX7_insert 115 = .ok (.iconst 0, 1) := by decide +kernel
theorem dX7_insert_116 : decode cX7_insert 116 = .ok (.putfield 110, 3) := by decide +kernel
theorem dX7_insert_119 : decode cX7_insert 119 = .ok (.return_, 1) := by decide +kernel
theorem dX7_delete_0 : decode cX7_delete 0 = .ok (.aload_n 0, 1) := by decide +kernel
theorem dX7_delete_1 : decode cX7_delete 1 = .ok (.dup, 1) := by decide +kernel
theorem dX7_delete_2 : decode cX7_delete 2 = .ok (.getfield 99, 3) := by decide +kernel
theorem dX7_delete_5 : decode cX7_delete 5 = .ok (.iconst 1, 1) := by decide +kernel
theorem dX7_delete_6 : decode cX7_delete 6 = .ok (.isub, 1) := by decide +kernel
theorem dX7_delete_7 : decode cX7_delete 7 = .ok (.putfield 99, 3) := by decide +kernel
theorem dX7_delete_10 : decode cX7_delete 10 = .ok (.iload_n 1, 1) := by decide +kernel
theorem dX7_delete_11 : decode cX7_delete 11 = .ok (.istore_n 2, 1) := by decide +kernel
theorem dX7_delete_12 : decode cX7_delete 12 = .ok (.iload_n 2, 1) := by decide +kernel
theorem dX7_delete_13 : decode cX7_delete 13 = .ok (.aload_n 0, 1) := by decide +kernel
theorem dX7_delete_14 : decode cX7_delete 14 = .ok (.getfield 99, 3) := by decide +kernel
theorem dX7_delete_17 : decode cX7_delete 17 = .ok (.if_icmp .ge 58, 3) := by decide +kernel
theorem dX7_delete_20 : decode cX7_delete 20 = .ok (.aload_n 0, 1) := by decide +kernel
theorem dX7_delete_21 : decode cX7_delete 21 = .ok (.getfield 28, 3) := by decide +kernel
theorem dX7_delete_24 : decode cX7_delete 24 = .ok (.iload_n 2, 1) := by decide +kernel
theorem dX7_delete_25 : decode cX7_delete 25 = .ok (.aload_n 0, 1) := by decide +kernel
theorem dX7_delete_26 : decode cX7_delete 26 = .ok (.getfield 28, 3) := by decide +kernel
theorem dX7_delete_29 : decode cX7_delete 29 = .ok (.iload_n 2, 1) := by decide +kernel
theorem dX7_delete_30 : decode cX7_delete 30 = .ok (.iconst 1, 1) := by decide +kernel
theorem dX7_delete_31 : decode cX7_delete 31 = .ok (.iadd, 1) := by decide +kernel
theorem dX7_delete_32 : decode cX7_delete 32 = .ok (.iaload, 1) := by decide +kernel
theorem dX7_delete_33 : decode cX7_delete 33 = .ok (.iastore, 1) := by decide +kernel
theorem dX7_delete_34 : decode cX7_delete 34 = .ok (.iconst 0, 1) := by decide +kernel
theorem dX7_delete_35 : decode cX7_delete 35 = .ok (.istore_n 3, 1) := by decide +kernel
theorem dX7_delete_36 : decode cX7_delete 36 = .ok (.iload_n 3, 1) := by decide +kernel
theorem dX7_delete_37 : decode cX7_delete 37 = .ok (.iconst 4, 1) := by decide +kernel
theorem dX7_delete_38 : decode cX7_delete 38 = .ok (.if_icmp .ge 31, 3) := by decide +kernel
theorem dX7_delete_41 : decode cX7_delete 41 = .ok (.aload_n 0, 1) := by decide +kernel
theorem dX7_delete_42 : decode cX7_delete 42 = .ok (.getfield 25, 3) := by decide +kernel
theorem dX7_delete_45 : decode cX7_delete 45 = .ok (.iconst 4, 1) := by decide +kernel
theorem dX7_delete_46 : decode cX7_delete 46 = .ok (.iload_n 2, 1) := by decide +kernel
theorem dX7_delete_47 : decode cX7_delete 47 = .ok (.imul, 1) := by decide +kernel
theorem dX7_delete_48 : decode cX7_delete 48 = .ok (.iload_n 3, 1) := by decide +kernel
theorem dX7_delete_49 : decode cX7_delete 49 = .ok (.iadd, 1) := by decide +kernel
theorem dX7_delete_50 : decode cX7_delete 50 = .ok (.aload_n 0, 1) := by decide +kernel
theorem dX7_delete_51 : decode cX7_delete 51 = .ok (.getfield 25, 3) := by decide +kernel
theorem dX7_delete_54 : decode cX7_delete 54 = .ok (.iconst 4, 1) := by decide +kernel
theorem dX7_delete_55 : decode cX7_delete 55 = .ok (.iload_n 2, 1) := by decide +kernel
theorem dX7_delete_56 : decode cX7_delete 56 = .ok (.iconst 1, 1) := by decide +kernel
theorem dX7_delete_57 : decode cX7_delete 57 = .ok (.iadd, 1) := by decide +kernel
theorem dX7_delete_58 : decode cX7_delete 58 = .ok (.imul, 1) := by decide +kernel
theorem dX7_delete_59 : decode cX7_delete 59 = .ok (.iload_n 3, 1) := by decide +kernel
theorem dX7_delete_60 : decode cX7_delete 60 = .ok (.iadd, 1) := by decide +kernel
theorem dX7_delete_61 : decode cX7_delete 61 = .ok (.iaload, 1) := by decide +kernel
theorem dX7_delete_62 : decode cX7_delete 62 = .ok (.iastore, 1) := by decide +kernel
theorem dX7_delete_63 : decode cX7_delete 63 = .ok (.iinc 3 1, 3) := by decide +kernel
theorem dX7_delete_66 : decode cX7_delete 66 = .ok (.goto (-30), 3) := by decide +kernel
theorem dX7_delete_69 : decode cX7_delete 69 = .ok (.iinc 2 1, 3) := by decide +kernel
theorem dX7_delete_72 : decode cX7_delete 72 = .ok (.goto (-60), 3) := by decide +kernel
theorem dX7_delete_75 : decode cX7_delete 75 = .ok (.aload_n 0, 1) := by decide +kernel
theorem dX7_delete_76 : decode cX7_delete 76 = .ok (.iconst 0, 1) := by decide +kernel
theorem dX7_delete_77 : decode cX7_delete 77 = .ok (.putfield 110, 3) := by decide +kernel
theorem dX7_delete_80 : decode cX7_delete 80 = .ok (.return_, 1) := by decide +kernel
set_option maxRecDepth 20000 in
theorem ggX7_addRule_X7_clearInput : GoodIn wsX7_addRule wsX7_clearInput := goodIn_r _ [6, 7, 27, 28, 29, 30, 31, 32, 33, 34, 35, 36, 37, 38, 39, 40, 41, 42, 43, 44, 45, 46, 47, 48, 49, 50, 51, 52, 53, 54, 55, 56, 57, 58, 59, 60, 61, 62, 63] (by decide +kernel) (by decide +kernel)
set_option maxRecDepth 20000 in
theorem gX7_addRule_X7_clearInput : GoodIn wsX7_addRule (wsV RX7 137 RX7 yX7_clearInput wsX7_clearInput) := goodIn_app (goodIn_of _ (by decide +kernel)) ggX7_addRule_X7_clearInput
set_option maxRecDepth 20000 in
theorem ggX7_addRule_X7_readRule : GoodIn wsX7_addRule wsX7_readRule := goodIn_r _ [11, 12, 13, 14, 15, 16, 17, 18, 5, 19, 27, 28, 29, 30, 31, 32, 33, 34, 35, 36, 37, 38, 39, 40, 41, 42, 43, 44, 45, 46, 47, 48, 49, 50, 51, 52, 53, 54, 55, 56, 57, 58, 59, 60, 61, 62, 63] (by decide +kernel) (by decide +kernel)
set_option maxRecDepth 20000 in
theorem gX7_addRule_X7_readRule : GoodIn wsX7_addRule (wsV RX7 140 RX7 yX7_readRule wsX7_readRule) := goodIn_app (goodIn_of _ (by decide +kernel)) ggX7_addRule_X7_readRule
set_option maxRecDepth 20000 in
theorem ggX7_addRule_X7_insert : GoodIn wsX7_addRule wsX7_insert := goodIn_r _ [23, 1, 24, 25, 15, 12, 26, 27, 28, 29, 30, 31, 32, 33, 34, 35, 36, 37, 38, 39, 40, 41, 42, 43, 44, 45, 46, 47, 48, 49, 50, 51, 52, 53, 54, 55, 56, 57, 58, 59, 60, 61, 62, 63] (by decide +kernel) (by decide +kernel)
set_option maxRecDepth 20000 in
theorem gX7_addRule_X7_insert : GoodIn wsX7_addRule (wsV RX7 143 RX7 yX7_insert wsX7_insert) := goodIn_app (goodIn_of _ (by decide +kernel)) ggX7_addRule_X7_insert
theorem dX7_addRule_0 : decode cX7_addRule 0 = .ok (.aload_n 0, 1) := by decide +kernel
theorem dX7_addRule_1 : decode cX7_addRule 1 = .ok (.invokevirtual 137, 3) := by decide +kernel
theorem dX7_addRule_4 : decode cX7_addRule 4 = .ok (.istore_n 1, 1) := by decide +kernel
theorem dX7_addRule_5 : decode cX7_addRule 5 = .ok (.aload_n 0, 1) := by decide +kernel
theorem dX7_addRule_6 : decode cX7_addRule 6 = .ok (.getfield 99, 3) := by decide +kernel
theorem dX7_addRule_9 : decode cX7_addRule 9 = .ok (.bipush 12, 2) := by decide +kernel
theorem dX7_addRule_11 : decode cX7_addRule 11 = .ok (.if_icmp .ne 6, 3) := by decide +kernel
theorem dX7_addRule_14 : decode cX7_addRule 14 = .ok (.bipush (-4), 2) := by decide +kernel
theorem dX7_addRule_16 : decode cX7_addRule 16 = .ok (.ireturn, 1) := by decide +kernel
theorem dX7_addRule_17 : decode cX7_addRule 17 = .ok (.aload_n 0, 1) := by decide +kernel
theorem dX7_addRule_18 : decode cX7_addRule 18 = .ok (.iload_n 1, 1) := by decide +kernel
theorem dX7_addRule_19 : decode cX7_addRule 19 = .ok (.invokevirtual 140, 3) := by decide +kernel
theorem dX7_addRule_22 : decode cX7_addRule 22 = .ok (.istore_n 2, 1) := by decide +kernel
theorem dX7_addRule_23 : decode cX7_addRule 23 = .ok (.iload_n 2, 1) := by decide +kernel
theorem dX7_addRule_24 : decode cX7_addRule 24 = .ok (.bipush (-6), 2) := by decide +kernel
theorem dX7_addRule_26 : decode cX7_addRule 26 = .ok (.if_icmp .eq 9, 3) := by decide +kernel
theorem dX7_addRule_29 : decode cX7_addRule 29 = .ok (.sipush (-1000), 3) := by decide +kernel
theorem dX7_addRule_32 : decode cX7_addRule 32 = .ok (.iload_n 2, 1) := by decide +kernel
theorem dX7_addRule_33 : decode cX7_addRule 33 = .ok (.isub, 1) := by decide +kernel
theorem dX7_addRule_34 : decode cX7_addRule 34 = .ok (.ireturn, 1) := by decide +kernel
theorem dX7_addRule_35 : decode cX7_addRule 35 = .ok (.aload_n 0, 1) := by decide +kernel
theorem dX7_addRule_36 : decode cX7_addRule 36 = .ok (.aload_n 0, 1) := by decide +kernel
theorem dX7_addRule_37 : decode cX7_addRule 37 = .ok (.getfield 99, 3) := by decide +kernel
theorem dX7_addRule_40 : decode cX7_addRule 40 = .ok (.invokevirtual 143, 3) := by decide +kernel
theorem dX7_addRule_43 : decode cX7_addRule 43 = .ok (.aload_n 0, 1) := by decide +kernel
theorem dX7_addRule_44 : decode cX7_addRule 44 = .ok (.getfield 99, 3) := by decide +kernel
theorem dX7_addRule_47 : decode cX7_addRule 47 = .ok (.iconst 1, 1) := by decide +kernel
theorem dX7_addRule_48 : decode cX7_addRule 48 = .ok (.isub, 1) := by decide +kernel
theorem dX7_addRule_49 : decode cX7_addRule 49 = .ok (.ireturn, 1) := by decide +kernel
set_option maxRecDepth 20000 in
theorem ggX7_insertRule_X7_clearInput : GoodIn wsX7_insertRule wsX7_clearInput := goodIn_r _ [6, 7, 27, 28, 29, 30, 31, 32, 33, 34, 35, 36, 37, 38, 39, 40, 41, 42, 43, 44, 45, 46, 47, 48, 49, 50, 51, 52, 53, 54, 55, 56, 57, 58, 59, 60, 61, 62, 63] (by decide +kernel) (by decide +kernel)
set_option maxRecDepth 20000 in
theorem gX7_insertRule_X7_clearInput : GoodIn wsX7_insertRule (wsV RX7 137 RX7 yX7_clearInput wsX7_clearInput) := goodIn_app (goodIn_of _ (by decide +kernel)) ggX7_insertRule_X7_clearInput
set_option maxRecDepth 20000 in
theorem ggX7_insertRule_X7_isIn : GoodIn wsX7_insertRule wsX7_isIn := goodIn_r _ [10] (by decide +kernel) (by decide +kernel)
set_option maxRecDepth 20000 in
theorem gX7_insertRule_X7_isIn : GoodIn wsX7_insertRule (va_wsS RX7 95 yX7_isIn wsX7_isIn) := goodIn_app (goodIn_of _ (by decide +kernel)) ggX7_insertRule_X7_isIn
set_option maxRecDepth 20000 in
theorem ggX7_insertRule_X7_readRule : GoodIn wsX7_insertRule wsX7_readRule := goodIn_r _ [14, 15, 16, 17, 18, 19, 8, 9, 5, 10, 27, 28, 29, 30, 31, 32, 33, 34, 35, 36, 37, 38, 39, 40, 41, 42, 43, 44, 45, 46, 47, 48, 49, 50, 51, 52, 53, 54, 55, 56, 57, 58, 59, 60, 61, 62, 63] (by decide +kernel) (by decide +kernel)
set_option maxRecDepth 20000 in
theorem gX7_insertRule_X7_readRule : GoodIn wsX7_insertRule (wsV RX7 140 RX7 yX7_readRule wsX7_readRule) := goodIn_app (goodIn_of _ (by decide +kernel)) ggX7_insertRule_X7_readRule
set_option maxRecDepth 20000 in
theorem ggX7_insertRule_X7_insert : GoodIn wsX7_insertRule wsX7_insert := goodIn_r _ [23, 1, 24, 25, 18, 15, 26, 27, 28, 29, 30, 31, 32, 33, 34, 35, 36, 37, 38, 39, 40, 41, 42, 43, 44, 45, 46, 47, 48, 49, 50, 51, 52, 53, 54, 55, 56, 57, 58, 59, 60, 61, 62, 63] (by decide +kernel) (by decide +kernel)
set_option maxRecDepth 20000 in
theorem gX7_insertRule_X7_insert : GoodIn wsX7_insertRule (wsV RX7 143 RX7 yX7_insert wsX7_insert) := goodIn_app (goodIn_of _ (by decide +kernel)) ggX7_insertRule_X7_insert
theorem dX7_insertRule_0 : decode cX7_insertRule 0 = .ok (.aload_n 0, 1) := by decide +kernel
theorem dX7_insertRule_1 : decode cX7_insertRule 1 = .ok (.invokevirtual 137, 3) := by decide +kernel
theorem dX7_insertRule_4 : decode cX7_insertRule 4 = .ok (.istore_n 2, 1) := by decide +kernel
theorem dX7_insertRule_5 : decode cX7_insertRule 5 = .ok (.iload_n 1, 1) := by decide +kernel
theorem dX7_insertRule_6 : decode cX7_insertRule 6 = .ok (.iconst 0, 1) := by decide +kernel
theorem dX7_insertRule_7 : decode cX7_insertRule 7 = .ok (.aload_n 0, 1) := by decide +kernel
theorem dX7_insertRule_8 : decode cX7_insertRule 8 = .ok (.getfield 99, 3) := by decide +kernel
theorem dX7_insertRule_11 : decode cX7_insertRule 11 = .ok (.invokestatic 95, 3) := by decide +kernel
theorem dX7_insertRule_14 : decode cX7_insertRule 14 = .ok (.ifCond .ne 6, 3) := by decide +kernel
theorem dX7_insertRule_17 : decode cX7_insertRule 17 = .ok (.bipush (-3), 2) := by decide +kernel
theorem dX7_insertRule_19 : decode cX7_insertRule 19 = .ok (.ireturn, 1) := by decide +kernel
theorem dX7_insertRule_20 : decode cX7_insertRule 20 = .ok (.aload_n 0, 1) := by decide +kernel
theorem dX7_insertRule_21 : decode cX7_insertRule 21 = .ok (.getfield 99, 3) := by decide +kernel
theorem dX7_insertRule_24 : decode cX7_insertRule 24 = .ok (.bipush 12, 2) := by decide +kernel
theorem dX7_insertRule_26 : decode cX7_insertRule 26 = .ok (.if_icmp .ne 6, 3) := by decide +kernel
theorem dX7_insertRule_29 : decode cX7_insertRule 29 = .ok (.bipush (-4), 2) := by decide +kernel
theorem dX7_insertRule_31 : decode cX7_insertRule 31 = .ok (.ireturn, 1) := by decide +kernel
theorem dX7_insertRule_32 : decode cX7_insertRule 32 = .ok (.aload_n 0, 1) := by decide +kernel
theorem dX7_insertRule_33 : decode cX7_insertRule 33 = .ok (.iload_n 2, 1) := by decide +kernel
theorem dX7_insertRule_34 : decode cX7_insertRule 34 = .ok (.invokevirtual 140, 3) := by decide +kernel
theorem dX7_insertRule_37 : decode cX7_insertRule 37 = .ok (.istore_n 3, 1) := by decide +kernel
theorem dX7_insertRule_38 : decode cX7_insertRule 38 = .ok (.iload_n 3, 1) := by decide +kernel
theorem dX7_insertRule_39 : decode cX7_insertRule 39 = .ok (.bipush (-6), 2) := by decide +kernel
theorem dX7_insertRule_41 : decode cX7_insertRule 41 = .ok (.if_icmp .eq 9, 3) := by decide +kernel
theorem dX7_insertRule_44 : decode cX7_insertRule 44 = .ok (.sipush (-1000), 3) := by decide +kernel
theorem dX7_insertRule_47 : decode cX7_insertRule 47 = .ok (.iload_n 3, 1) := by decide +kernel
theorem dX7_insertRule_48 : decode cX7_insertRule 48 = .ok (.isub, 1) := by decide +kernel
theorem dX7_insertRule_49 : decode cX7_insertRule 49 = .ok (.ireturn, 1) := by decide +kernel
theorem dX7_insertRule_50 : decode cX7_insertRule 50 = .ok (.aload_n 0, 1) := by decide +kernel
theorem dX7_insertRule_51 : decode cX7_insertRule 51 = .ok (.iload_n 1, 1) := by decide +kernel
theorem dX7_insertRule_52 : decode cX7_insertRule 52 = .ok (.invokevirtual 143, 3) := by decide +kernel
theorem dX7_insertRule_55 : decode cX7_insertRule 55 = .ok (.aload_n 0, 1) := by decide +kernel
theorem dX7_insertRule_56 : decode cX7_insertRule 56 = .ok (.getfield 99, 3) := by decide +kernel
theorem dX7_insertRule_59 : decode cX7_insertRule 59 = .ok (.ireturn, 1) := by decide +kernel
set_option maxRecDepth 20000 in
theorem ggX7_removeRule_X7_isRule : GoodIn wsX7_removeRule wsX7_isRule := goodIn_r _ [6, 1, 7, 8, 5, 9, 17, 18, 19, 20, 21, 22, 23, 24, 25, 26, 27, 28, 29, 30, 31, 32, 33, 34, 35, 36, 37, 38, 39, 40, 41, 42, 43, 44, 45, 46, 47, 48, 49, 50, 51, 52, 53] (by decide +kernel) (by decide +kernel)
set_option maxRecDepth 20000 in
theorem gX7_removeRule_X7_isRule : GoodIn wsX7_removeRule (wsV RX7 147 RX7 yX7_isRule wsX7_isRule) := goodIn_app (goodIn_of _ (by decide +kernel)) ggX7_removeRule_X7_isRule
set_option maxRecDepth 20000 in
theorem ggX7_removeRule_X7_delete : GoodIn wsX7_removeRule wsX7_delete := goodIn_r _ [13, 1, 14, 15, 16, 17, 18, 19, 20, 21, 22, 23, 24, 25, 26, 27, 28, 29, 30, 31, 32, 33, 34, 35, 36, 37, 38, 39, 40, 41, 42, 43, 44, 45, 46, 47, 48, 49, 50, 51, 52, 53] (by decide +kernel) (by decide +kernel)
set_option maxRecDepth 20000 in
theorem gX7_removeRule_X7_delete : GoodIn wsX7_removeRule (wsV RX7 150 RX7 yX7_delete wsX7_delete) := goodIn_app (goodIn_of _ (by decide +kernel)) ggX7_removeRule_X7_delete
theorem dX7_removeRule_0 : decode cX7_removeRule 0 = .ok (.aload_n 0, 1) := by decide +kernel
theorem dX7_removeRule_1 : decode cX7_removeRule 1 = .ok (.iload_n 1, 1) := by decide +kernel
theorem dX7_removeRule_2 : decode cX7_removeRule 2 = .ok (.invokevirtual 147, 3) := by decide +kernel
theorem dX7_removeRule_5 : decode cX7_removeRule 5 = .ok (.ifCond .ne 6, 3) := by decide +kernel
theorem dX7_removeRule_8 : decode cX7_removeRule 8 = .ok (.bipush (-3), 2) := by decide +kernel
theorem dX7_removeRule_10 : decode cX7_removeRule 10 = .ok (.ireturn, 1) := by decide +kernel
theorem dX7_removeRule_11 : decode cX7_removeRule 11 = .ok (.aload_n 0, 1) := by decide +kernel
theorem dX7_removeRule_12 : decode cX7_removeRule 12 = .ok (.iload_n 1, 1) := by decide +kernel
theorem dX7_removeRule_13 : decode cX7_removeRule 13 = .ok (.invokevirtual 150, 3) := by decide +kernel
theorem dX7_removeRule_16 : decode cX7_removeRule 16 = .ok (.aload_n 0, 1) := by decide +kernel
theorem dX7_removeRule_17 : decode cX7_removeRule 17 = .ok (.getfield 99, 3) := by decide +kernel
theorem dX7_removeRule_20 : decode cX7_removeRule 20 = .ok (.ireturn, 1) := by decide +kernel
theorem dX7_ruleCount_0 : decode cX7_ruleCount 0 = .ok (.aload_n 0, 1) := by decide +kernel
theorem dX7_ruleCount_1 : decode cX7_ruleCount 1 = .ok (.getfield 99, 3) := by decide +kernel
theorem dX7_ruleCount_4 : decode cX7_ruleCount 4 = .ok (.ireturn, 1) := by decide +kernel
set_option maxRecDepth 20000 in
theorem ggX7_ruleSet_X7_isRule : GoodIn wsX7_ruleSet wsX7_isRule := goodIn_r _ [6, 7, 8, 9, 5, 10, 16, 17, 18, 19, 20, 21, 22, 23, 24, 25, 26, 27, 28, 29, 30, 31, 32, 33, 34, 35, 36, 37, 38, 39, 40, 41, 42, 43, 44, 45, 46, 47, 48, 49, 50, 51, 52] (by decide +kernel) (by decide +kernel)
set_option maxRecDepth 20000 in
theorem gX7_ruleSet_X7_isRule : GoodIn wsX7_ruleSet (wsV RX7 147 RX7 yX7_isRule wsX7_isRule) := goodIn_app (goodIn_of _ (by decide +kernel)) ggX7_ruleSet_X7_isRule
set_option maxRecDepth 20000 in
theorem ggX7_ruleSet_X7_isCondition : GoodIn wsX7_ruleSet wsX7_isCondition := goodIn_r _ [14, 15, 8, 9, 5, 10, 16, 17, 18, 19, 20, 21, 22, 23, 24, 25, 26, 27, 28, 29, 30, 31, 32, 33, 34, 35, 36, 37, 38, 39, 40, 41, 42, 43, 44, 45, 46, 47, 48, 49, 50, 51, 52] (by decide +kernel) (by decide +kernel)
set_option maxRecDepth 20000 in
theorem gX7_ruleSet_X7_isCondition : GoodIn wsX7_ruleSet (wsV RX7 117 RX7 yX7_isCondition wsX7_isCondition) := goodIn_app (goodIn_of _ (by decide +kernel)) ggX7_ruleSet_X7_isCondition
theorem dX7_ruleSet_0 : decode cX7_ruleSet 0 = .ok (.aload_n 0, 1) := by decide +kernel
theorem dX7_ruleSet_1 : decode cX7_ruleSet 1 = .ok (.iload_n 1, 1) := by decide +kernel
theorem dX7_ruleSet_2 : decode cX7_ruleSet 2 = .ok (.invokevirtual 147, 3) := by decide +kernel
theorem dX7_ruleSet_5 : decode cX7_ruleSet 5 = .ok (.ifCond .ne 8, 3) := by decide +kernel
theorem dX7_ruleSet_8 : decode cX7_ruleSet 8 = .ok (.bipush (-3), 2) := by decide +kernel
theorem dX7_ruleSet_10 : decode cX7_ruleSet 10 = .ok (.goto 26, 3) := by decide +kernel
theorem dX7_ruleSet_13 : decode cX7_ruleSet 13 = .ok (.aload_n 0, 1) := by decide +kernel
theorem dX7_ruleSet_14 : decode cX7_ruleSet 14 = .ok (.iload_n 2, 1) := by decide +kernel
theorem dX7_ruleSet_15 : decode cX7_ruleSet 15 = .ok (.invokevirtual 117, 3) := by decide +kernel
theorem dX7_ruleSet_18 : decode cX7_ruleSet 18 = .ok (.ifCond .ne 8, 3) := by decide +kernel
theorem dX7_ruleSet_21 : decode cX7_ruleSet 21 = .ok (.bipush (-2), 2) := by decide +kernel
theorem dX7_ruleSet_23 : decode cX7_ruleSet 23 = .ok (.goto 13, 3) := by decide +kernel
theorem dX7_ruleSet_26 : decode cX7_ruleSet 26 = .ok (.aload_n 0, 1) := by decide +kernel
theorem dX7_ruleSet_27 : decode cX7_ruleSet 27 = .ok (.getfield 25, 3) := by decide +kernel
theorem dX7_ruleSet_30 : decode cX7_ruleSet 30 = .ok (.iconst 4, 1) := by decide +kernel
theorem dX7_ruleSet_31 : decode cX7_ruleSet 31 = .ok (.iload_n 1, 1) := by decide +kernel
theorem dX7_ruleSet_32 : decode cX7_ruleSet 32 = .ok (.imul, 1) := by decide +kernel
theorem dX7_ruleSet_33 : decode cX7_ruleSet 33 = .ok (.iload_n 2, 1) := by decide +kernel
theorem dX7_ruleSet_34 : decode cX7_ruleSet 34 = .ok (.iadd, 1) := by decide +kernel
theorem dX7_ruleSet_35 : decode cX7_ruleSet 35 = .ok (.iaload, 1) := by decide +kernel
theorem dX7_ruleSet_36 : decode cX7_ruleSet 36 = .ok (.ireturn, 1) := by decide +kernel
set_option maxRecDepth 20000 in
theorem ggX7_ruleAction_X7_isRule : GoodIn wsX7_ruleAction wsX7_isRule := goodIn_r _ [6, 7, 8, 9, 5, 10, 11, 12, 13, 14, 15, 16, 17, 18, 19, 20, 21, 22, 23, 24, 25, 26, 27, 28, 29, 30, 31, 32, 33, 34, 35, 36, 37, 38, 39, 40, 41, 42, 43, 44, 45, 46, 47] (by decide +kernel) (by decide +kernel)
set_option maxRecDepth 20000 in
theorem gX7_ruleAction_X7_isRule : GoodIn wsX7_ruleAction (wsV RX7 147 RX7 yX7_isRule wsX7_isRule) := goodIn_app (goodIn_of _ (by decide +kernel)) ggX7_ruleAction_X7_isRule
theorem dX7_ruleAction_0 : decode cX7_ruleAction 0 = .ok (.aload_n 0, 1) := by decide +kernel
theorem dX7_ruleAction_1 : decode cX7_ruleAction 1 = .ok (.iload_n 1, 1) := by decide +kernel
theorem dX7_ruleAction_2 : decode cX7_ruleAction 2 = .ok (.invokevirtual 147, 3) := by decide +kernel
theorem dX7_ruleAction_5 : decode cX7_ruleAction 5 = .ok (.ifCond .eq 12, 3) := by decide +kernel
theorem dX7_ruleAction_8 : decode cX7_ruleAction 8 = .ok (.aload_n 0, 1) := by decide +kernel
theorem dX7_ruleAction_9 : decode cX7_ruleAction 9 = .ok (.getfield 28, 3) := by decide +kernel
theorem dX7_ruleAction_12 : decode cX7_ruleAction 12 = .ok (.iload_n 1, 1) := by decide +kernel
theorem dX7_ruleAction_13 : decode cX7_ruleAction 13 = .ok (.iaload, 1) := by decide +kernel
theorem dX7_ruleAction_14 : decode cX7_ruleAction 14 = .ok (.goto 5, 3) := by decide +kernel
theorem dX7_ruleAction_17 : decode cX7_ruleAction 17 = .ok (.bipush (-3), 2) := by decide +kernel
theorem dX7_ruleAction_19 : decode cX7_ruleAction 19 = .ok (.ireturn, 1) := by decide +kernel
set_option maxRecDepth 20000 in
theorem ggX7_fits_X7_valueOf : GoodIn wsX7_fits wsX7_valueOf := goodIn_r _ [7, 1, 8, 9, 10, 11, 12, 13, 14, 15, 16, 17, 18, 19, 20, 21, 22, 23, 24, 25, 26, 27, 28, 29, 30, 31, 32, 33, 34, 35, 36, 37, 38, 39, 40, 41, 42, 43, 44, 45] (by decide +kernel) (by decide +kernel)
set_option maxRecDepth 20000 in
theorem gX7_fits_X7_valueOf : GoodIn wsX7_fits (wsV RX7 120 RX7 yX7_valueOf wsX7_valueOf) := goodIn_app (goodIn_of _ (by decide +kernel)) ggX7_fits_X7_valueOf
theorem dX7_fits_0 : decode cX7_fits 0 = .ok (.iconst 0, 1) := by decide +kernel
theorem dX7_fits_1 : decode cX7_fits 1 = .ok (.istore_n 3, 1) := by decide +kernel
theorem dX7_fits_2 : decode cX7_fits 2 = .ok (.iload_n 3, 1) := by decide +kernel
theorem dX7_fits_3 : decode cX7_fits 3 = .ok (.aload_n 0, 1) := by decide +kernel
theorem dX7_fits_4 : decode cX7_fits 4 = .ok (.getfield 9, 3) := by decide +kernel
theorem dX7_fits_7 : decode cX7_fits 7 = .ok (.if_icmp .ge 33, 3) := by decide +kernel
theorem dX7_fits_10 : decode cX7_fits 10 = .ok (.aload_n 0, 1) := by decide +kernel
theorem dX7_fits_11 : decode cX7_fits 11 = .ok (.getfield 25, 3) := by decide +kernel
theorem dX7_fits_14 : decode cX7_fits 14 = .ok (.iconst 4, 1) := by decide +kernel
theorem dX7_fits_15 : decode cX7_fits 15 = .ok (.iload_n 1, 1) := by decide +kernel
theorem dX7_fits_16 : decode cX7_fits 16 = .ok (.imul, 1) := by decide +kernel
theorem dX7_fits_17 : decode cX7_fits 17 = .ok (.iload_n 3, 1) := by decide +kernel
theorem dX7_fits_18 : decode cX7_fits 18 = .ok (.iadd, 1) := by decide +kernel
theorem dX7_fits_19 : decode cX7_fits 19 = .ok (.iaload, 1) := by decide +kernel
theorem dX7_fits_20 : decode cX7_fits 20 = .ok (.aload_n 0, 1) := by decide +kernel
theorem dX7_fits_21 : decode cX7_fits 21 = .ok (.iload_n 2, 1) := by decide +kernel
theorem dX7_fits_22 : decode cX7_fits 22 = .ok (.iload_n 3, 1) := by decide +kernel
theorem dX7_fits_23 : decode cX7_fits 23 = .ok (.invokevirtual 120, 3) := by decide +kernel
theorem dX7_fits_26 : decode cX7_fits 26 = .ok (.ishr, 1) := by decide +kernel
theorem dX7_fits_27 : decode cX7_fits 27 = .ok (.iconst 1, 1) := by decide +kernel
theorem dX7_fits_28 : decode cX7_fits 28 = .ok (.iand, 1) := by decide +kernel
theorem dX7_fits_29 : decode cX7_fits 29 = .ok (.ifCond .ne 5, 3) := by decide +kernel
theorem dX7_fits_32 : decode cX7_fits 32 = .ok (.iconst 0, 1) := by decide +kernel
theorem dX7_fits_33 : decode cX7_fits 33 = .ok (.ireturn, 1) := by decide +kernel
theorem dX7_fits_34 : decode cX7_fits 34 = .ok (.iinc 3 1, 3) := by decide +kernel
theorem dX7_fits_37 : decode cX7_fits 37 = .ok (.goto (-35), 3) := by decide +kernel
theorem dX7_fits_40 : decode cX7_fits 40 = .ok (.iconst 1, 1) := by decide +kernel
theorem dX7_fits_41 : decode cX7_fits 41 = .ok (.ireturn, 1) := by decide +kernel
set_option maxRecDepth 20000 in
theorem ggX7_ruleCases_X7_isRule : GoodIn wsX7_ruleCases wsX7_isRule := goodIn_r _ [7, 8, 9, 10, 6, 11, 19, 20, 21, 22, 23, 24, 25, 26, 27, 28, 29, 30, 31, 32, 33, 34, 35, 36, 37, 38, 39, 40, 41, 42, 43, 44, 45, 46, 47, 48, 49, 50, 51, 52, 53, 54, 55] (by decide +kernel) (by decide +kernel)
set_option maxRecDepth 20000 in
theorem gX7_ruleCases_X7_isRule : GoodIn wsX7_ruleCases (wsV RX7 147 RX7 yX7_isRule wsX7_isRule) := goodIn_app (goodIn_of _ (by decide +kernel)) ggX7_ruleCases_X7_isRule
set_option maxRecDepth 20000 in
theorem ggX7_ruleCases_J6_bitCount_0f7a4 : GoodIn wsX7_ruleCases wsJ6_bitCount_0f7a4 := goodIn_r _ [15, 16, 17, 18] (by decide +kernel) (by decide +kernel)
set_option maxRecDepth 20000 in
theorem gX7_ruleCases_J6_bitCount_0f7a4 : GoodIn wsX7_ruleCases (va_wsS RX7 153 yJ6_bitCount_0f7a4 wsJ6_bitCount_0f7a4) := goodIn_app (goodIn_of _ (by decide +kernel)) ggX7_ruleCases_J6_bitCount_0f7a4
theorem dX7_ruleCases_0 : decode cX7_ruleCases 0 = .ok (.aload_n 0, 1) := by decide +kernel
theorem dX7_ruleCases_1 : decode cX7_ruleCases 1 = .ok (.iload_n 1, 1) := by decide +kernel
theorem dX7_ruleCases_2 : decode cX7_ruleCases 2 = .ok (.invokevirtual 147, 3) := by decide +kernel
theorem dX7_ruleCases_5 : decode cX7_ruleCases 5 = .ok (.ifCond .ne 6, 3) := by decide +kernel
theorem dX7_ruleCases_8 : decode cX7_ruleCases 8 = .ok (.bipush (-3), 2) := by decide +kernel
theorem dX7_ruleCases_10 : decode cX7_ruleCases 10 = .ok (.ireturn, 1) := by decide +kernel
theorem dX7_ruleCases_11 : decode cX7_ruleCases 11 = .ok (.iconst 1, 1) := by decide +kernel
theorem dX7_ruleCases_12 : decode cX7_ruleCases 12 = .ok (.istore_n 2, 1) := by decide +kernel
theorem dX7_ruleCases_13 : decode cX7_ruleCases 13 = .ok (.iconst 0, 1) := by decide +kernel
theorem dX7_ruleCases_14 : decode cX7_ruleCases 14 = .ok (.istore_n 3, 1) := by decide +kernel
theorem dX7_ruleCases_15 : decode cX7_ruleCases 15 = .ok (.iload_n 3, 1) := by decide +kernel
theorem dX7_ruleCases_16 : decode cX7_ruleCases 16 = .ok (.aload_n 0, 1) := by decide +kernel
theorem dX7_ruleCases_17 : decode cX7_ruleCases 17 = .ok (.getfield 9, 3) := by decide +kernel
theorem dX7_ruleCases_20 : decode cX7_ruleCases 20 = .ok (.if_icmp .ge 25, 3) := by decide +kernel
theorem dX7_ruleCases_23 : decode cX7_ruleCases 23 = .ok (.iload_n 2, 1) := by decide +kernel
theorem dX7_ruleCases_24 : decode cX7_ruleCases 24 = .ok (.aload_n 0, 1) := by decide +kernel
theorem dX7_ruleCases_25 : decode cX7_ruleCases 25 = .ok (.getfield 25, 3) := by decide +kernel
theorem dX7_ruleCases_28 : decode cX7_ruleCases 28 = .ok (.iconst 4, 1) := by decide +kernel
theorem dX7_ruleCases_29 : decode cX7_ruleCases 29 = .ok (.iload_n 1, 1) := by decide +kernel
theorem dX7_ruleCases_30 : decode cX7_ruleCases 30 = .ok (.imul, 1) := by decide +kernel
theorem dX7_ruleCases_31 : decode cX7_ruleCases 31 = .ok (.iload_n 3, 1) := by decide +kernel
theorem dX7_ruleCases_32 : decode cX7_ruleCases 32 = .ok (.iadd, 1) := by decide +kernel
theorem dX7_ruleCases_33 : decode cX7_ruleCases 33 = .ok (.iaload, 1) := by decide +kernel
theorem dX7_ruleCases_34 : decode cX7_ruleCases 34 = .ok (.invokestatic 153, 3) := by decide +kernel
theorem dX7_ruleCases_37 : decode cX7_ruleCases 37 = .ok (.imul, 1) := by decide +kernel
theorem dX7_ruleCases_38 : decode cX7_ruleCases 38 = .ok (.istore_n 2, 1) := by decide +kernel
theorem dX7_ruleCases_39 : decode cX7_ruleCases 39 = .ok (.iinc 3 1, 3) := by decide +kernel
theorem dX7_ruleCases_42 : decode cX7_ruleCases 42 = .ok (.goto (-27), 3) := by decide +kernel
theorem dX7_ruleCases_45 : decode cX7_ruleCases 45 = .ok (.iload_n 2, 1) := by decide +kernel
theorem dX7_ruleCases_46 : decode cX7_ruleCases 46 = .ok (.ireturn, 1) := by decide +kernel
set_option maxRecDepth 20000 in
theorem ggX7_firstOf_X7_fits : GoodIn wsX7_firstOf wsX7_fits := goodIn_r _ [6, 7, 8, 9, 10, 11, 5, 12, 13, 14, 15, 16, 17, 18, 19, 20, 21, 22, 23, 24, 25, 26, 27, 28, 29, 30, 31, 32, 33, 34, 35, 36, 37, 38, 39, 40, 41, 42, 43, 44, 45, 46, 47, 48, 49, 50] (by decide +kernel) (by decide +kernel)
set_option maxRecDepth 20000 in
theorem gX7_firstOf_X7_fits : GoodIn wsX7_firstOf (wsV RX7 158 RX7 yX7_fits wsX7_fits) := goodIn_app (goodIn_of _ (by decide +kernel)) ggX7_firstOf_X7_fits
theorem dX7_firstOf_0 : decode cX7_firstOf 0 = .ok (.iconst 0, 1) := by decide +kernel
theorem dX7_firstOf_1 : decode cX7_firstOf 1 = .ok (.istore_n 2, 1) := by decide +kernel
theorem dX7_firstOf_2 : decode cX7_firstOf 2 = .ok (.iload_n 2, 1) := by decide +kernel
theorem dX7_firstOf_3 : decode cX7_firstOf 3 = .ok (.aload_n 0, 1) := by decide +kernel
theorem dX7_firstOf_4 : decode cX7_firstOf 4 = .ok (.getfield 99, 3) := by decide +kernel
theorem dX7_firstOf_7 : decode cX7_firstOf 7 = .ok (.if_icmp .ge 20, 3) := by decide +kernel
theorem dX7_firstOf_10 : decode cX7_firstOf 10 = .ok (.aload_n 0, 1) := by decide +kernel
theorem dX7_firstOf_11 : decode cX7_firstOf 11 = .ok (.iload_n 2, 1) := by decide +kernel
theorem dX7_firstOf_12 : decode cX7_firstOf 12 = .ok (.iload_n 1, 1) := by decide +kernel
theorem dX7_firstOf_13 : decode cX7_firstOf 13 = .ok (.invokevirtual 158, 3) := by decide +kernel
theorem dX7_firstOf_16 : decode cX7_firstOf 16 = .ok (.ifCond .eq 5, 3) := by decide +kernel
theorem dX7_firstOf_19 : decode cX7_firstOf 19 = .ok (.iload_n 2, 1) := by decide +kernel
theorem dX7_firstOf_20 : decode cX7_firstOf 20 = .ok (.ireturn, 1) := by decide +kernel
theorem dX7_firstOf_21 : decode cX7_firstOf 21 = .ok (.iinc 2 1, 3) := by decide +kernel
theorem dX7_firstOf_24 : decode cX7_firstOf 24 = .ok (.goto (-22), 3) := by decide +kernel
theorem dX7_firstOf_27 : decode cX7_firstOf 27 = .ok (.bipush (-6), 2) := by decide +kernel
theorem dX7_firstOf_29 : decode cX7_firstOf 29 = .ok (.ireturn, 1) := by decide +kernel
set_option maxRecDepth 20000 in
theorem ggX7_firstMatch_X7_isCase : GoodIn wsX7_firstMatch wsX7_isCase := goodIn_r _ [5, 6, 7, 8, 4, 9, 10, 11, 12, 13, 14, 29, 30, 31, 32, 33, 34, 35, 36, 37, 38, 39, 40, 41, 42, 43, 44, 45, 46, 47, 48, 49, 50, 51, 52, 53, 54, 55, 56, 57, 58, 59, 60, 61, 62, 63, 64, 65] (by decide +kernel) (by decide +kernel)
set_option maxRecDepth 20000 in
theorem gX7_firstMatch_X7_isCase : GoodIn wsX7_firstMatch (wsV RX7 114 RX7 yX7_isCase wsX7_isCase) := goodIn_app (goodIn_of _ (by decide +kernel)) ggX7_firstMatch_X7_isCase
set_option maxRecDepth 20000 in
theorem ggX7_firstMatch_X7_firstOf : GoodIn wsX7_firstMatch wsX7_firstOf := goodIn_r _ [18, 19, 20, 21, 22, 4, 23, 10, 24, 25, 26, 27, 28, 11, 29, 30, 31, 32, 33, 34, 35, 36, 37, 38, 39, 40, 41, 42, 43, 44, 45, 46, 47, 48, 49, 50, 51, 52, 53, 54, 55, 56, 57, 58, 59, 60, 61, 62, 63, 64, 65] (by decide +kernel) (by decide +kernel)
set_option maxRecDepth 20000 in
theorem gX7_firstMatch_X7_firstOf : GoodIn wsX7_firstMatch (wsV RX7 162 RX7 yX7_firstOf wsX7_firstOf) := goodIn_app (goodIn_of _ (by decide +kernel)) ggX7_firstMatch_X7_firstOf
theorem dX7_firstMatch_0 : decode cX7_firstMatch 0 = .ok (.aload_n 0, 1) := by decide +kernel
theorem dX7_firstMatch_1 : decode cX7_firstMatch 1 = .ok (.iload_n 1, 1) := by decide +kernel
theorem dX7_firstMatch_2 : decode cX7_firstMatch 2 = .ok (.invokevirtual 114, 3) := by decide +kernel
theorem dX7_firstMatch_5 : decode cX7_firstMatch 5 = .ok (.ifCond .eq 11, 3) := by decide +kernel
theorem dX7_firstMatch_8 : decode cX7_firstMatch 8 = .ok (.aload_n 0, 1) := by decide +kernel
theorem dX7_firstMatch_9 : decode cX7_firstMatch 9 = .ok (.iload_n 1, 1) := by decide +kernel
theorem dX7_firstMatch_10 : decode cX7_firstMatch 10 = .ok (.invokevirtual 162, 3) := by decide +kernel
theorem dX7_firstMatch_13 : decode cX7_firstMatch 13 = .ok (.goto 5, 3) := by decide +kernel
theorem dX7_firstMatch_16 : decode cX7_firstMatch 16 = .ok (.bipush (-5), 2) := by decide +kernel
theorem dX7_firstMatch_18 : decode cX7_firstMatch 18 = .ok (.ireturn, 1) := by decide +kernel
set_option maxRecDepth 20000 in
theorem ggX7_matches_X7_isCase : GoodIn wsX7_matches wsX7_isCase := goodIn_r _ [6, 7, 8, 9, 5, 10, 11, 12, 13, 14, 15, 25, 26, 27, 28, 29, 30, 31, 32, 33, 34, 35, 36, 37, 38, 39, 40, 41, 42, 43, 44, 45, 46, 47, 48, 49, 50, 51, 52, 53, 54, 55, 56, 57, 58, 59, 60, 61] (by decide +kernel) (by decide +kernel)
set_option maxRecDepth 20000 in
theorem gX7_matches_X7_isCase : GoodIn wsX7_matches (wsV RX7 114 RX7 yX7_isCase wsX7_isCase) := goodIn_app (goodIn_of _ (by decide +kernel)) ggX7_matches_X7_isCase
set_option maxRecDepth 20000 in
theorem ggX7_matches_X7_fits : GoodIn wsX7_matches wsX7_fits := goodIn_r _ [19, 11, 20, 21, 22, 23, 5, 24, 12, 25, 26, 27, 28, 29, 30, 31, 32, 33, 34, 35, 36, 37, 38, 39, 40, 41, 42, 43, 44, 45, 46, 47, 48, 49, 50, 51, 52, 53, 54, 55, 56, 57, 58, 59, 60, 61] (by decide +kernel) (by decide +kernel)
set_option maxRecDepth 20000 in
theorem gX7_matches_X7_fits : GoodIn wsX7_matches (wsV RX7 158 RX7 yX7_fits wsX7_fits) := goodIn_app (goodIn_of _ (by decide +kernel)) ggX7_matches_X7_fits
theorem dX7_matches_0 : decode cX7_matches 0 = .ok (.aload_n 0, 1) := by decide +kernel
theorem dX7_matches_1 : decode cX7_matches 1 = .ok (.iload_n 1, 1) := by decide +kernel
theorem dX7_matches_2 : decode cX7_matches 2 = .ok (.invokevirtual 114, 3) := by decide +kernel
theorem dX7_matches_5 : decode cX7_matches 5 = .ok (.ifCond .ne 6, 3) := by decide +kernel
theorem dX7_matches_8 : decode cX7_matches 8 = .ok (.bipush (-5), 2) := by decide +kernel
theorem dX7_matches_10 : decode cX7_matches 10 = .ok (.ireturn, 1) := by decide +kernel
theorem dX7_matches_11 : decode cX7_matches 11 = .ok (.iconst 0, 1) := by decide +kernel
theorem dX7_matches_12 : decode cX7_matches 12 = .ok (.istore_n 2, 1) := by decide +kernel
theorem dX7_matches_13 : decode cX7_matches 13 = .ok (.iconst 0, 1) := by decide +kernel
theorem dX7_matches_14 : decode cX7_matches 14 = .ok (.istore_n 3, 1) := by decide +kernel
theorem dX7_matches_15 : decode cX7_matches 15 = .ok (.iload_n 3, 1) := by decide +kernel
theorem dX7_matches_16 : decode cX7_matches 16 = .ok (.aload_n 0, 1) := by decide +kernel
theorem dX7_matches_17 : decode cX7_matches 17 = .ok (.getfield 99, 3) := by decide +kernel
theorem dX7_matches_20 : decode cX7_matches 20 = .ok (.if_icmp .ge 28, 3) := by decide +kernel
theorem dX7_matches_23 : decode cX7_matches 23 = .ok (.iload_n 2, 1) := by decide +kernel
theorem dX7_matches_24 : decode cX7_matches 24 = .ok (.aload_n 0, 1) := by decide +kernel
theorem dX7_matches_25 : decode cX7_matches 25 = .ok (.iload_n 3, 1) := by decide +kernel
theorem dX7_matches_26 : decode cX7_matches 26 = .ok (.iload_n 1, 1) := by decide +kernel
theorem dX7_matches_27 : decode cX7_matches 27 = .ok (.invokevirtual 158, 3) := by decide +kernel
theorem dX7_matches_30 : decode cX7_matches 30 = .ok (.ifCond .eq 9, 3) := by decide +kernel
theorem dX7_matches_33 : decode cX7_matches 33 = .ok (.iconst 1, 1) := by decide +kernel
theorem dX7_matches_34 : decode cX7_matches 34 = .ok (.iload_n 3, 1) := by decide +kernel
theorem dX7_matches_35 : decode cX7_matches 35 = .ok (.ishl, 1) := by decide +kernel
theorem dX7_matches_36 : decode cX7_matches 36 = .ok (.goto 4, 3) := by decide +kernel
theorem dX7_matches_39 : decode cX7_matches 39 = .ok (.iconst 0, 1) := by decide +kernel
theorem dX7_matches_40 : decode cX7_matches 40 = .ok (.ior, 1) := by decide +kernel
theorem dX7_matches_41 : decode cX7_matches 41 = .ok (.istore_n 2, 1) := by decide +kernel
theorem dX7_matches_42 : decode cX7_matches 42 = .ok (.iinc 3 1, 3) := by decide +kernel
theorem dX7_matches_45 : decode cX7_matches 45 = .ok (.goto (-30), 3) := by decide +kernel
theorem dX7_matches_48 : decode cX7_matches 48 = .ok (.iload_n 2, 1) := by decide +kernel
theorem dX7_matches_49 : decode cX7_matches 49 = .ok (.ireturn, 1) := by decide +kernel
set_option maxRecDepth 20000 in
theorem ggX7_actionOf_X7_firstOf : GoodIn wsX7_actionOf wsX7_firstOf := goodIn_r _ [7, 8, 9, 10, 11, 6, 12, 13, 14, 15, 16, 17, 18, 19, 20, 21, 22, 23, 24, 25, 26, 27, 28, 29, 30, 31, 32, 33, 34, 35, 36, 37, 38, 39, 40, 41, 42, 43, 44, 45, 46, 47, 48, 49, 50, 51, 52, 53, 54, 55, 56] (by decide +kernel) (by decide +kernel)
set_option maxRecDepth 20000 in
theorem gX7_actionOf_X7_firstOf : GoodIn wsX7_actionOf (wsV RX7 162 RX7 yX7_firstOf wsX7_firstOf) := goodIn_app (goodIn_of _ (by decide +kernel)) ggX7_actionOf_X7_firstOf
theorem dX7_actionOf_0 : decode cX7_actionOf 0 = .ok (.aload_n 0, 1) := by decide +kernel
theorem dX7_actionOf_1 : decode cX7_actionOf 1 = .ok (.iload_n 1, 1) := by decide +kernel
theorem dX7_actionOf_2 : decode cX7_actionOf 2 = .ok (.invokevirtual 162, 3) := by decide +kernel
theorem dX7_actionOf_5 : decode cX7_actionOf 5 = .ok (.istore_n 2, 1) := by decide +kernel
theorem dX7_actionOf_6 : decode cX7_actionOf 6 = .ok (.iload_n 2, 1) := by decide +kernel
theorem dX7_actionOf_7 : decode cX7_actionOf 7 = .ok (.bipush (-6), 2) := by decide +kernel
theorem dX7_actionOf_9 : decode cX7_actionOf 9 = .ok (.if_icmp .ne 10, 3) := by decide +kernel
theorem dX7_actionOf_12 : decode cX7_actionOf 12 = .ok (.aload_n 0, 1) := by decide +kernel
theorem dX7_actionOf_13 : decode cX7_actionOf 13 = .ok (.getfield 31, 3) := by decide +kernel
theorem dX7_actionOf_16 : decode cX7_actionOf 16 = .ok (.goto 9, 3) := by decide +kernel
theorem dX7_actionOf_19 : decode cX7_actionOf 19 = .ok (.aload_n 0, 1) := by decide +kernel
theorem dX7_actionOf_20 : decode cX7_actionOf 20 = .ok (.getfield 28, 3) := by decide +kernel
theorem dX7_actionOf_23 : decode cX7_actionOf 23 = .ok (.iload_n 2, 1) := by decide +kernel
theorem dX7_actionOf_24 : decode cX7_actionOf 24 = .ok (.iaload, 1) := by decide +kernel
theorem dX7_actionOf_25 : decode cX7_actionOf 25 = .ok (.ireturn, 1) := by decide +kernel
set_option maxRecDepth 20000 in
theorem ggX7_action_X7_isCase : GoodIn wsX7_action wsX7_isCase := goodIn_r _ [5, 6, 7, 8, 4, 9, 10, 11, 12, 13, 14, 38, 39, 40, 41, 42, 43, 44, 45, 46, 47, 48, 49, 50, 51, 52, 53, 54, 55, 56, 57, 58, 59, 60, 61, 62, 63, 64, 65, 66, 67, 68, 69, 70, 71, 72, 73, 74] (by decide +kernel) (by decide +kernel)
set_option maxRecDepth 20000 in
theorem gX7_action_X7_isCase : GoodIn wsX7_action (wsV RX7 114 RX7 yX7_isCase wsX7_isCase) := goodIn_app (goodIn_of _ (by decide +kernel)) ggX7_action_X7_isCase
set_option maxRecDepth 20000 in
theorem ggX7_action_X7_actionOf : GoodIn wsX7_action wsX7_actionOf := goodIn_r _ [18, 19, 20, 21, 22, 23, 4, 24, 25, 26, 27, 28, 29, 10, 30, 31, 32, 33, 34, 11, 38, 39, 40, 41, 42, 43, 44, 45, 46, 47, 48, 49, 50, 51, 52, 53, 54, 55, 56, 57, 58, 59, 60, 61, 62, 63, 64, 65, 66, 67, 68, 69, 70, 71, 72, 73, 74] (by decide +kernel) (by decide +kernel)
set_option maxRecDepth 20000 in
theorem gX7_action_X7_actionOf : GoodIn wsX7_action (wsV RX7 165 RX7 yX7_actionOf wsX7_actionOf) := goodIn_app (goodIn_of _ (by decide +kernel)) ggX7_action_X7_actionOf
set_option maxRecDepth 20000 in
theorem ggX7_action_X7_told : GoodIn wsX7_action wsX7_told := goodIn_r _ [37] (by decide +kernel) (by decide +kernel)
set_option maxRecDepth 20000 in
theorem gX7_action_X7_told : GoodIn wsX7_action (va_wsS RX7 128 yX7_told wsX7_told) := goodIn_app (goodIn_of _ (by decide +kernel)) ggX7_action_X7_told
theorem dX7_action_0 : decode cX7_action 0 = .ok (.aload_n 0, 1) := by decide +kernel
theorem dX7_action_1 : decode cX7_action 1 = .ok (.iload_n 1, 1) := by decide +kernel
theorem dX7_action_2 : decode cX7_action 2 = .ok (.invokevirtual 114, 3) := by decide +kernel
theorem dX7_action_5 : decode cX7_action 5 = .ok (.ifCond .eq 14, 3) := by decide +kernel
theorem dX7_action_8 : decode cX7_action 8 = .ok (.aload_n 0, 1) := by decide +kernel
theorem dX7_action_9 : decode cX7_action 9 = .ok (.iload_n 1, 1) := by decide +kernel
theorem dX7_action_10 : decode cX7_action 10 = .ok (.invokevirtual 165, 3) := by decide +kernel
theorem dX7_action_13 : decode cX7_action 13 = .ok (.invokestatic 128, 3) := by decide +kernel
theorem dX7_action_16 : decode cX7_action 16 = .ok (.goto 5, 3) := by decide +kernel
theorem dX7_action_19 : decode cX7_action 19 = .ok (.bipush (-5), 2) := by decide +kernel
theorem dX7_action_21 : decode cX7_action 21 = .ok (.ireturn, 1) := by decide +kernel
set_option maxRecDepth 20000 in
theorem ggX7_gapCount_X7_cases : GoodIn wsX7_gapCount wsX7_cases := goodIn_r _ [5, 6, 7, 22, 23, 24, 25, 26, 27, 28, 29, 30, 31, 32, 33, 34, 35, 36, 37, 38, 39, 40, 41, 42, 43, 44, 45, 46, 47, 48, 49, 50, 51, 52, 53, 54, 55, 56, 57, 58] (by decide +kernel) (by decide +kernel)
set_option maxRecDepth 20000 in
theorem gX7_gapCount_X7_cases : GoodIn wsX7_gapCount (wsV RX7 102 RX7 yX7_cases wsX7_cases) := goodIn_app (goodIn_of _ (by decide +kernel)) ggX7_gapCount_X7_cases
set_option maxRecDepth 20000 in
theorem ggX7_gapCount_X7_firstOf : GoodIn wsX7_gapCount wsX7_firstOf := goodIn_r _ [11, 12, 13, 14, 15, 4, 16, 6, 17, 18, 19, 20, 21, 7, 22, 23, 24, 25, 26, 27, 28, 29, 30, 31, 32, 33, 34, 35, 36, 37, 38, 39, 40, 41, 42, 43, 44, 45, 46, 47, 48, 49, 50, 51, 52, 53, 54, 55, 56, 57, 58] (by decide +kernel) (by decide +kernel)
set_option maxRecDepth 20000 in
theorem gX7_gapCount_X7_firstOf : GoodIn wsX7_gapCount (wsV RX7 162 RX7 yX7_firstOf wsX7_firstOf) := goodIn_app (goodIn_of _ (by decide +kernel)) ggX7_gapCount_X7_firstOf
theorem dX7_gapCount_0 : decode cX7_gapCount 0 = .ok (.iconst 0, 1) := by decide +kernel
theorem dX7_gapCount_1 : decode cX7_gapCount 1 = .ok (.istore_n 1, 1) := by decide +kernel
theorem dX7_gapCount_2 : decode cX7_gapCount 2 = .ok (.aload_n 0, 1) := by decide +kernel
theorem dX7_gapCount_3 : decode cX7_gapCount 3 = .ok (.invokevirtual 102, 3) := by decide +kernel
theorem dX7_gapCount_6 : decode cX7_gapCount 6 = .ok (.istore_n 2, 1) := by decide +kernel
theorem dX7_gapCount_7 : decode cX7_gapCount 7 = .ok (.iconst 0, 1) := by decide +kernel
theorem dX7_gapCount_8 : decode cX7_gapCount 8 = .ok (.istore_n 3, 1) := by decide +kernel
theorem dX7_gapCount_9 : decode cX7_gapCount 9 = .ok (.iload_n 3, 1) := by decide +kernel
theorem dX7_gapCount_10 : decode cX7_gapCount 10 = .ok (.iload_n 2, 1) := by decide +kernel
theorem dX7_gapCount_11 : decode cX7_gapCount 11 = .ok (.if_icmp .ge 27, 3) := by decide +kernel
theorem dX7_gapCount_14 : decode cX7_gapCount 14 = .ok (.iload_n 1, 1) := by decide +kernel
theorem dX7_gapCount_15 : decode cX7_gapCount 15 = .ok (.aload_n 0, 1) := by decide +kernel
theorem dX7_gapCount_16 : decode cX7_gapCount 16 = .ok (.iload_n 3, 1) := by decide +kernel
theorem dX7_gapCount_17 : decode cX7_gapCount 17 = .ok (.invokevirtual 162, 3) := by decide +kernel
theorem dX7_gapCount_20 : decode cX7_gapCount 20 = .ok (.bipush (-6), 2) := by decide +kernel
theorem dX7_gapCount_22 : decode cX7_gapCount 22 = .ok (.if_icmp .ne 7, 3) := by decide +kernel
theorem dX7_gapCount_25 : decode cX7_gapCount 25 = .ok (.iconst 1, 1) := by decide +kernel
theorem dX7_gapCount_26 : decode cX7_gapCount 26 = .ok (.goto 4, 3) := by decide +kernel
theorem dX7_gapCount_29 : decode cX7_gapCount 29 = .ok (.iconst 0, 1) := by decide +kernel
theorem dX7_gapCount_30 : decode cX7_gapCount 30 = .ok (.iadd, 1) := by decide +kernel
theorem dX7_gapCount_31 : decode cX7_gapCount 31 = .ok (.istore_n 1, 1) := by decide +kernel
theorem dX7_gapCount_32 : decode cX7_gapCount 32 = .ok (.iinc 3 1, 3) := by decide +kernel
theorem dX7_gapCount_35 : decode cX7_gapCount 35 = .ok (.goto (-26), 3) := by decide +kernel
theorem dX7_gapCount_38 : decode cX7_gapCount 38 = .ok (.iload_n 1, 1) := by decide +kernel
theorem dX7_gapCount_39 : decode cX7_gapCount 39 = .ok (.ireturn, 1) := by decide +kernel
set_option maxRecDepth 20000 in
theorem ggX7_gap_X7_cases : GoodIn wsX7_gap wsX7_cases := goodIn_r _ [5, 6, 7, 22, 23, 24, 25, 26, 27, 28, 29, 30, 31, 32, 33, 34, 35, 36, 37, 38, 39, 40, 41, 42, 43, 44, 45, 46, 47, 48, 49, 50, 51, 52, 53, 54, 55, 56, 57, 58] (by decide +kernel) (by decide +kernel)
set_option maxRecDepth 20000 in
theorem gX7_gap_X7_cases : GoodIn wsX7_gap (wsV RX7 102 RX7 yX7_cases wsX7_cases) := goodIn_app (goodIn_of _ (by decide +kernel)) ggX7_gap_X7_cases
set_option maxRecDepth 20000 in
theorem ggX7_gap_X7_firstOf : GoodIn wsX7_gap wsX7_firstOf := goodIn_r _ [11, 12, 13, 14, 15, 4, 16, 6, 17, 18, 19, 20, 21, 7, 22, 23, 24, 25, 26, 27, 28, 29, 30, 31, 32, 33, 34, 35, 36, 37, 38, 39, 40, 41, 42, 43, 44, 45, 46, 47, 48, 49, 50, 51, 52, 53, 54, 55, 56, 57, 58] (by decide +kernel) (by decide +kernel)
set_option maxRecDepth 20000 in
theorem gX7_gap_X7_firstOf : GoodIn wsX7_gap (wsV RX7 162 RX7 yX7_firstOf wsX7_firstOf) := goodIn_app (goodIn_of _ (by decide +kernel)) ggX7_gap_X7_firstOf
theorem dX7_gap_0 : decode cX7_gap 0 = .ok (.iload_n 1, 1) := by decide +kernel
theorem dX7_gap_1 : decode cX7_gap 1 = .ok (.istore_n 2, 1) := by decide +kernel
theorem dX7_gap_2 : decode cX7_gap 2 = .ok (.aload_n 0, 1) := by decide +kernel
theorem dX7_gap_3 : decode cX7_gap 3 = .ok (.invokevirtual 102, 3) := by decide +kernel
theorem dX7_gap_6 : decode cX7_gap 6 = .ok (.istore_n 3, 1) := by decide +kernel
theorem dX7_gap_7 : decode cX7_gap 7 = .ok (.iconst 0, 1) := by decide +kernel
theorem dX7_gap_8 : decode cX7_gap 8 = .ok (.istore 4, 2) := by decide +kernel
theorem dX7_gap_10 : decode cX7_gap 10 = .ok (.iload 4, 2) := by decide +kernel
theorem dX7_gap_12 : decode cX7_gap 12 = .ok (.iload_n 3, 1) := by decide +kernel
theorem dX7_gap_13 : decode cX7_gap 13 = .ok (.if_icmp .ge 34, 3) := by decide +kernel
theorem dX7_gap_16 : decode cX7_gap 16 = .ok (.iload_n 2, 1) := by decide +kernel
theorem dX7_gap_17 : decode cX7_gap 17 = .ok (.ifCond .lt 30, 3) := by decide +kernel
theorem dX7_gap_20 : decode cX7_gap 20 = .ok (.aload_n 0, 1) := by decide +kernel
theorem dX7_gap_21 : decode cX7_gap 21 = .ok (.iload 4, 2) := by decide +kernel
theorem dX7_gap_23 : decode cX7_gap 23 = .ok (.invokevirtual 162, 3) := by decide +kernel
theorem dX7_gap_26 : decode cX7_gap 26 = .ok (.bipush (-6), 2) := by decide +kernel
theorem dX7_gap_28 : decode cX7_gap 28 = .ok (.if_icmp .ne 13, 3) := by decide +kernel
theorem dX7_gap_31 : decode cX7_gap 31 = .ok (.iload_n 2, 1) := by decide +kernel
theorem dX7_gap_32 : decode cX7_gap 32 = .ok (.ifCond .ne 6, 3) := by decide +kernel
theorem dX7_gap_35 : decode cX7_gap 35 = .ok (.iload 4, 2) := by decide +kernel
theorem dX7_gap_37 : decode cX7_gap 37 = .ok (.ireturn, 1) := by decide +kernel
theorem dX7_gap_38 : decode cX7_gap 38 = .ok (.iinc 2 (-1), 3) := by decide +kernel
theorem dX7_gap_41 : decode cX7_gap 41 = .ok (.iinc 4 1, 3) := by decide +kernel
theorem dX7_gap_44 : decode cX7_gap 44 = .ok (.goto (-34), 3) := by decide +kernel
theorem dX7_gap_47 : decode cX7_gap 47 = .ok (.bipush (-6), 2) := by decide +kernel
theorem dX7_gap_49 : decode cX7_gap 49 = .ok (.ireturn, 1) := by decide +kernel
set_option maxRecDepth 20000 in
theorem ggX7_gapWeight_X7_cases : GoodIn wsX7_gapWeight wsX7_cases := goodIn_r _ [7, 1, 8, 23, 24, 25, 26, 27, 28, 29, 30, 31, 32, 33, 34, 35, 36, 37, 38, 39, 40, 41, 42, 43, 44, 45, 46, 47, 48, 49, 50, 51, 52, 53, 54, 55, 56, 57, 58, 59] (by decide +kernel) (by decide +kernel)
set_option maxRecDepth 20000 in
theorem gX7_gapWeight_X7_cases : GoodIn wsX7_gapWeight (wsV RX7 102 RX7 yX7_cases wsX7_cases) := goodIn_app (goodIn_of _ (by decide +kernel)) ggX7_gapWeight_X7_cases
set_option maxRecDepth 20000 in
theorem ggX7_gapWeight_X7_valueOf : GoodIn wsX7_gapWeight wsX7_valueOf := goodIn_r _ [12, 1, 8, 23, 24, 25, 26, 27, 28, 29, 30, 31, 32, 33, 34, 35, 36, 37, 38, 39, 40, 41, 42, 43, 44, 45, 46, 47, 48, 49, 50, 51, 52, 53, 54, 55, 56, 57, 58, 59] (by decide +kernel) (by decide +kernel)
set_option maxRecDepth 20000 in
theorem gX7_gapWeight_X7_valueOf : GoodIn wsX7_gapWeight (wsV RX7 120 RX7 yX7_valueOf wsX7_valueOf) := goodIn_app (goodIn_of _ (by decide +kernel)) ggX7_gapWeight_X7_valueOf
set_option maxRecDepth 20000 in
theorem ggX7_gapWeight_X7_firstOf : GoodIn wsX7_gapWeight wsX7_firstOf := goodIn_r _ [16, 17, 18, 19, 20, 6, 21, 1, 22, 9, 10, 11, 12, 8, 23, 24, 25, 26, 27, 28, 29, 30, 31, 32, 33, 34, 35, 36, 37, 38, 39, 40, 41, 42, 43, 44, 45, 46, 47, 48, 49, 50, 51, 52, 53, 54, 55, 56, 57, 58, 59] (by decide +kernel) (by decide +kernel)
set_option maxRecDepth 20000 in
theorem gX7_gapWeight_X7_firstOf : GoodIn wsX7_gapWeight (wsV RX7 162 RX7 yX7_firstOf wsX7_firstOf) := goodIn_app (goodIn_of _ (by decide +kernel)) ggX7_gapWeight_X7_firstOf
theorem dX7_gapWeight_0 : decode cX7_gapWeight 0 = .ok (.lconst 0, 1) := by decide +kernel
theorem dX7_gapWeight_1 : decode cX7_gapWeight 1 = .ok (.lstore_n 1, 1) := by decide +kernel
theorem dX7_gapWeight_2 : decode cX7_gapWeight 2 = .ok (.aload_n 0, 1) := by decide +kernel
theorem dX7_gapWeight_3 : decode cX7_gapWeight 3 = .ok (.invokevirtual 102, 3) := by decide +kernel
theorem dX7_gapWeight_6 : decode cX7_gapWeight 6 = .ok (.istore_n 3, 1) := by decide +kernel
theorem dX7_gapWeight_7 : decode cX7_gapWeight 7 = .ok (.iconst 0, 1) := by decide +kernel
theorem dX7_gapWeight_8 : decode cX7_gapWeight 8 = .ok (.istore 4, 2) := by decide +kernel
theorem dX7_gapWeight_10 : decode cX7_gapWeight 10 = .ok (.iload 4, 2) := by decide +kernel
theorem dX7_gapWeight_12 : decode cX7_gapWeight 12 = .ok (.iload_n 3, 1) := by decide +kernel
theorem dX7_gapWeight_13 : decode cX7_gapWeight 13 = .ok (.if_icmp .ge 74, 3) := by decide +kernel
theorem dX7_gapWeight_16 : decode cX7_gapWeight 16 = .ok (.lconst 1, 1) := by decide +kernel
theorem dX7_gapWeight_17 : decode cX7_gapWeight 17 = .ok (.lstore 5, 2) := by decide +kernel
theorem dX7_gapWeight_19 : decode cX7_gapWeight 19 = .ok (.iconst 0, 1) := by decide +kernel
theorem dX7_gapWeight_20 : decode cX7_gapWeight 20 = .ok (.istore 7, 2) := by decide +kernel
theorem dX7_gapWeight_22 : decode cX7_gapWeight 22 = .ok (.iload 7, 2) := by decide +kernel
theorem dX7_gapWeight_24 : decode cX7_gapWeight 24 = .ok (.aload_n 0, 1) := by decide +kernel
theorem dX7_gapWeight_25 : decode cX7_gapWeight 25 = .ok (.getfield 9, 3) := by decide +kernel
theorem dX7_gapWeight_28 : decode cX7_gapWeight 28 = .ok (.if_icmp .ge 33, 3) := by decide +kernel
theorem dX7_gapWeight_31 : decode cX7_gapWeight 31 = .ok (.lload 5, 2) := by decide +kernel
theorem dX7_gapWeight_33 : decode cX7_gapWeight 33 = .ok (.aload_n 0, 1) := by decide +kernel
theorem dX7_gapWeight_34 : decode cX7_gapWeight 34 = .ok (.getfield 19, 3) := by decide +kernel
theorem dX7_gapWeight_37 : decode cX7_gapWeight 37 = .ok (.iconst 5, 1) := by decide +kernel
theorem dX7_gapWeight_38 : decode cX7_gapWeight 38 = .ok (.iload 7, 2) := by decide +kernel
theorem dX7_gapWeight_40 : decode cX7_gapWeight 40 = .ok (.imul, 1) := by decide +kernel
theorem dX7_gapWeight_41 : decode cX7_gapWeight 41 = .ok (.aload_n 0, 1) := by decide +kernel
theorem dX7_gapWeight_42 : decode cX7_gapWeight 42 = .ok (.iload 4, 2) := by decide +kernel
theorem dX7_gapWeight_44 : decode cX7_gapWeight 44 = .ok (.iload 7, 2) := by decide +kernel
theorem dX7_gapWeight_46 : decode cX7_gapWeight 46 = .ok (.invokevirtual 120, 3) := by decide +kernel
theorem dX7_gapWeight_49 : decode cX7_gapWeight 49 = .ok (.iadd, 1) := by decide +kernel
theorem dX7_gapWeight_50 : decode cX7_gapWeight 50 = .ok (.iaload, 1) := by decide +kernel
theorem dX7_gapWeight_51 : decode cX7_gapWeight 51 = .ok (.i2l, 1) := by decide +kernel
theorem dX7_gapWeight_52 : decode cX7_gapWeight 52 = .ok (.lmul, 1) := by decide +kernel
theorem dX7_gapWeight_53 : decode cX7_gapWeight 53 = .ok (.lstore 5, 2) := by decide +kernel
theorem dX7_gapWeight_55 : decode cX7_gapWeight 55 = .ok (.iinc 7 1, 3) := by decide +kernel
theorem dX7_gapWeight_58 : decode cX7_gapWeight 58 = .ok (.goto (-36), 3) := by decide +kernel
theorem dX7_gapWeight_61 : decode cX7_gapWeight 61 = .ok (.lload_n 1, 1) := by decide +kernel
theorem dX7_gapWeight_62 : decode cX7_gapWeight 62 = .ok (.aload_n 0, 1) := by decide +kernel
theorem dX7_gapWeight_63 : decode cX7_gapWeight 63 = .ok (.iload 4, 2) := by decide +kernel
theorem dX7_gapWeight_65 : decode cX7_gapWeight 65 = .ok (.invokevirtual 162, 3) := by decide +kernel
theorem dX7_gapWeight_68 : decode cX7_gapWeight 68 = .ok (.bipush (-6), 2) := by decide +kernel
theorem dX7_gapWeight_70 : decode cX7_gapWeight 70 = .ok (.if_icmp .ne 8, 3) := by decide +kernel
theorem dX7_gapWeight_73 : decode cX7_gapWeight 73 = .ok (.lload 5, 2) := by decide +kernel
theorem dX7_gapWeight_75 : decode cX7_gapWeight 75 = .ok (.goto 4, 3) := by decide +kernel
theorem dX7_gapWeight_78 : decode cX7_gapWeight 78 = .ok (.lconst 0, 1) := by decide +kernel
theorem dX7_gapWeight_79 : decode cX7_gapWeight 79 = .ok (.ladd, 1) := by decide +kernel
theorem dX7_gapWeight_80 : decode cX7_gapWeight 80 = .ok (.lstore_n 1, 1) := by decide +kernel
theorem dX7_gapWeight_81 : decode cX7_gapWeight 81 = .ok (.iinc 4 1, 3) := by decide +kernel
theorem dX7_gapWeight_84 : decode cX7_gapWeight 84 = .ok (.goto (-74), 3) := by decide +kernel
theorem dX7_gapWeight_87 : decode cX7_gapWeight 87 = .ok (.lload_n 1, 1) := by decide +kernel
theorem dX7_gapWeight_88 : decode cX7_gapWeight 88 = .ok (.lreturn, 1) := by decide +kernel
set_option maxRecDepth 20000 in
theorem ggX7_common_J6_numberOfTrailingZeros_0f7a4 : GoodIn wsX7_common wsJ6_numberOfTrailingZeros_0f7a4 := goodIn_r _ [7, 8] (by decide +kernel) (by decide +kernel)
set_option maxRecDepth 20000 in
theorem gX7_common_J6_numberOfTrailingZeros_0f7a4 : GoodIn wsX7_common (va_wsS RX7 168 yJ6_numberOfTrailingZeros_0f7a4 wsJ6_numberOfTrailingZeros_0f7a4) := goodIn_app (goodIn_of _ (by decide +kernel)) ggX7_common_J6_numberOfTrailingZeros_0f7a4
theorem dX7_common_0 : decode cX7_common 0 = .ok (.iconst 0, 1) := by decide +kernel
theorem dX7_common_1 : decode cX7_common 1 = .ok (.istore_n 3, 1) := by decide +kernel
theorem dX7_common_2 : decode cX7_common 2 = .ok (.iconst 0, 1) := by decide +kernel
theorem dX7_common_3 : decode cX7_common 3 = .ok (.istore 4, 2) := by decide +kernel
theorem dX7_common_5 : decode cX7_common 5 = .ok (.iload 4, 2) := by decide +kernel
theorem dX7_common_7 : decode cX7_common 7 = .ok (.aload_n 0, 1) := by decide +kernel
theorem dX7_common_8 : decode cX7_common 8 = .ok (.getfield 9, 3) := by decide +kernel
theorem dX7_common_11 : decode cX7_common 11 = .ok (.if_icmp .ge 58, 3) := by decide +kernel
theorem dX7_common_14 : decode cX7_common 14 = .ok (.aload_n 0, 1) := by decide +kernel
theorem dX7_common_15 : decode cX7_common 15 = .ok (.getfield 25, 3) := by decide +kernel
theorem dX7_common_18 : decode cX7_common 18 = .ok (.iconst 4, 1) := by decide +kernel
theorem dX7_common_19 : decode cX7_common 19 = .ok (.iload_n 1, 1) := by decide +kernel
theorem dX7_common_20 : decode cX7_common 20 = .ok (.imul, 1) := by decide +kernel
theorem dX7_common_21 : decode cX7_common 21 = .ok (.iload 4, 2) := by decide +kernel
theorem dX7_common_23 : decode cX7_common 23 = .ok (.iadd, 1) := by decide +kernel
theorem dX7_common_24 : decode cX7_common 24 = .ok (.iaload, 1) := by decide +kernel
theorem dX7_common_25 : decode cX7_common 25 = .ok (.aload_n 0, 1) := by decide +kernel
theorem dX7_common_26 : decode cX7_common 26 = .ok (.getfield 25, 3) := by decide +kernel
theorem dX7_common_29 : decode cX7_common 29 = .ok (.iconst 4, 1) := by decide +kernel
theorem dX7_common_30 : decode cX7_common 30 = .ok (.iload_n 2, 1) := by decide +kernel
theorem dX7_common_31 : decode cX7_common 31 = .ok (.imul, 1) := by decide +kernel
theorem dX7_common_32 : decode cX7_common 32 = .ok (.iload 4, 2) := by decide +kernel
theorem dX7_common_34 : decode cX7_common 34 = .ok (.iadd, 1) := by decide +kernel
theorem dX7_common_35 : decode cX7_common 35 = .ok (.iaload, 1) := by decide +kernel
theorem dX7_common_36 : decode cX7_common 36 = .ok (.iand, 1) := by decide +kernel
theorem dX7_common_37 : decode cX7_common 37 = .ok (.istore 5, 2) := by decide +kernel
theorem dX7_common_39 : decode cX7_common 39 = .ok (.iload 5, 2) := by decide +kernel
theorem dX7_common_41 : decode cX7_common 41 = .ok (.ifCond .ne 6, 3) := by decide +kernel
theorem dX7_common_44 : decode cX7_common 44 = .ok (.bipush (-6), 2) := by decide +kernel
theorem dX7_common_46 : decode cX7_common 46 = .ok (.ireturn, 1) := by decide +kernel
theorem dX7_common_47 : decode cX7_common 47 = .ok (.iload_n 3, 1) := by decide +kernel
theorem dX7_common_48 : decode cX7_common 48 = .ok (.aload_n 0, 1) := by decide +kernel
theorem dX7_common_49 : decode cX7_common 49 = .ok (.getfield 15, 3) := by decide +kernel
theorem dX7_common_52 : decode cX7_common 52 = .ok (.iload 4, 2) := by decide +kernel
theorem dX7_common_54 : decode cX7_common 54 = .ok (.iaload, 1) := by decide +kernel
theorem dX7_common_55 : decode cX7_common 55 = .ok (.imul, 1) := by decide +kernel
theorem dX7_common_56 : decode cX7_common 56 = .ok (.iload 5, 2) := by decide +kernel
theorem dX7_common_58 : decode cX7_common 58 = .ok (.invokestatic 168, 3) := by decide +kernel
theorem dX7_common_61 : decode cX7_common 61 = .ok (.iadd, 1) := by decide +kernel
theorem dX7_common_62 : decode cX7_common 62 = .ok (.istore_n 3, 1) := by decide +kernel
theorem dX7_common_63 : decode cX7_common 63 = .ok (.iinc 4 1, 3) := by decide +kernel
theorem dX7_common_66 : decode cX7_common 66 = .ok (.goto (-61), 3) := by decide +kernel
theorem dX7_common_69 : decode cX7_common 69 = .ok (.iload_n 3, 1) := by decide +kernel
theorem dX7_common_70 : decode cX7_common 70 = .ok (.ireturn, 1) := by decide +kernel
set_option maxRecDepth 20000 in
theorem ggX7_isConflict_X7_common : GoodIn wsX7_isConflict wsX7_common := goodIn_r _ [6, 7, 8, 9, 10, 11, 12, 13, 14, 15, 16, 17, 18, 19, 20, 21, 22, 23, 24, 25, 26, 27, 28, 29, 30, 31, 32, 33, 34, 35, 36, 37, 38, 39, 40, 41, 42, 43, 44, 45, 46, 47, 48, 49, 50, 51] (by decide +kernel) (by decide +kernel)
set_option maxRecDepth 20000 in
theorem gX7_isConflict_X7_common : GoodIn wsX7_isConflict (wsV RX7 171 RX7 yX7_common wsX7_common) := goodIn_app (goodIn_of _ (by decide +kernel)) ggX7_isConflict_X7_common
theorem dX7_isConflict_0 : decode cX7_isConflict 0 = .ok (.aload_n 0, 1) := by decide +kernel
theorem dX7_isConflict_1 : decode cX7_isConflict 1 = .ok (.getfield 28, 3) := by decide +kernel
theorem dX7_isConflict_4 : decode cX7_isConflict 4 = .ok (.iload_n 1, 1) := by decide +kernel
theorem dX7_isConflict_5 : decode cX7_isConflict 5 = .ok (.iaload, 1) := by decide +kernel
theorem dX7_isConflict_6 : decode cX7_isConflict 6 = .ok (.aload_n 0, 1) := by decide +kernel
theorem dX7_isConflict_7 : decode cX7_isConflict 7 = .ok (.getfield 28, 3) := by decide +kernel
theorem dX7_isConflict_10 : decode cX7_isConflict 10 = .ok (.iload_n 2, 1) := by decide +kernel
theorem dX7_isConflict_11 : decode cX7_isConflict 11 = .ok (.iaload, 1) := by decide +kernel
theorem dX7_isConflict_12 : decode cX7_isConflict 12 = .ok (.if_icmp .eq 18, 3) := by decide +kernel
theorem dX7_isConflict_15 : decode cX7_isConflict 15 = .ok (.aload_n 0, 1) := by decide +kernel
theorem dX7_isConflict_16 : decode cX7_isConflict 16 = .ok (.iload_n 1, 1) := by decide +kernel
theorem dX7_isConflict_17 : decode cX7_isConflict 17 = .ok (.iload_n 2, 1) := by decide +kernel
theorem dX7_isConflict_18 : decode cX7_isConflict 18 = .ok (.invokevirtual 171, 3) := by decide +kernel
theorem dX7_isConflict_21 : decode cX7_isConflict 21 = .ok (.bipush (-6), 2) := by decide +kernel
theorem dX7_isConflict_23 : decode cX7_isConflict 23 = .ok (.if_icmp .eq 7, 3) := by decide +kernel
theorem dX7_isConflict_26 : decode cX7_isConflict 26 = .ok (.iconst 1, 1) := by decide +kernel
theorem dX7_isConflict_27 : decode cX7_isConflict 27 = .ok (.goto 4, 3) := by decide +kernel
theorem dX7_isConflict_30 : decode cX7_isConflict 30 = .ok (.iconst 0, 1) := by decide +kernel
theorem dX7_isConflict_31 : decode cX7_isConflict 31 = .ok (.ireturn, 1) := by decide +kernel
set_option maxRecDepth 20000 in
theorem ggX7_conflictCount_X7_isConflict : GoodIn wsX7_conflictCount wsX7_isConflict := goodIn_r _ [6, 7, 8, 9, 10, 5, 11, 12, 13, 14, 15, 16, 17, 18, 19, 20, 21, 22, 23, 24, 25, 26, 27, 28, 29, 30, 31, 32, 33, 34, 35, 36, 37, 38, 39, 40, 41, 42, 43, 44, 45, 46, 47, 48, 49, 50, 51, 52, 53, 54, 55, 56] (by decide +kernel) (by decide +kernel)
set_option maxRecDepth 20000 in
theorem gX7_conflictCount_X7_isConflict : GoodIn wsX7_conflictCount (wsV RX7 174 RX7 yX7_isConflict wsX7_isConflict) := goodIn_app (goodIn_of _ (by decide +kernel)) ggX7_conflictCount_X7_isConflict
theorem dX7_conflictCount_0 : decode cX7_conflictCount 0 = .ok (.iconst 0, 1) := by decide +kernel
theorem dX7_conflictCount_1 : decode cX7_conflictCount 1 = .ok (.istore_n 1, 1) := by decide +kernel
theorem dX7_conflictCount_2 : decode cX7_conflictCount 2 = .ok (.iconst 0, 1) := by decide +kernel
theorem dX7_conflictCount_3 : decode cX7_conflictCount 3 = .ok (.istore_n 2, 1) := by decide +kernel
theorem dX7_conflictCount_4 : decode cX7_conflictCount 4 = .ok (.iload_n 2, 1) := by decide +kernel
theorem dX7_conflictCount_5 : decode cX7_conflictCount 5 = .ok (.aload_n 0, 1) := by decide +kernel
theorem dX7_conflictCount_6 : decode cX7_conflictCount 6 = .ok (.getfield 99, 3) := by decide +kernel
theorem dX7_conflictCount_9 : decode cX7_conflictCount 9 = .ok (.if_icmp .ge 44, 3) := by decide +kernel
theorem dX7_conflictCount_12 : decode cX7_conflictCount 12 = .ok (.iload_n 2, 1) := by decide +kernel
theorem dX7_conflictCount_13 : decode cX7_conflictCount 13 = .ok (.iconst 1, 1) := by decide +kernel
theorem dX7_conflictCount_14 : decode cX7_conflictCount 14 = .ok (.iadd, 1) := by decide +kernel
theorem dX7_conflictCount_15 : decode cX7_conflictCount 15 = .ok (.istore_n 3, 1) := by decide +kernel
theorem dX7_conflictCount_16 : decode cX7_conflictCount 16 = .ok (.iload_n 3, 1) := by decide +kernel
theorem dX7_conflictCount_17 : decode cX7_conflictCount 17 = .ok (.aload_n 0, 1) := by decide +kernel
theorem dX7_conflictCount_18 : decode cX7_conflictCount 18 = .ok (.getfield 99, 3) := by decide +kernel
theorem dX7_conflictCount_21 : decode cX7_conflictCount 21 = .ok (.if_icmp .ge 26, 3) := by decide +kernel
theorem dX7_conflictCount_24 : decode cX7_conflictCount 24 = .ok (.iload_n 1, 1) := by decide +kernel
theorem dX7_conflictCount_25 : decode cX7_conflictCount 25 = .ok (.aload_n 0, 1) := by decide +kernel
theorem dX7_conflictCount_26 : decode cX7_conflictCount 26 = .ok (.iload_n 2, 1) := by decide +kernel
theorem dX7_conflictCount_27 : decode cX7_conflictCount 27 = .ok (.iload_n 3, 1) := by decide +kernel
theorem dX7_conflictCount_28 : decode cX7_conflictCount 28 = .ok (.invokevirtual 174, 3) := by decide +kernel
theorem dX7_conflictCount_31 : decode cX7_conflictCount 31 = .ok (.ifCond .eq 7, 3) := by decide +kernel
theorem dX7_conflictCount_34 : decode cX7_conflictCount 34 = .ok (.iconst 1, 1) := by decide +kernel
theorem dX7_conflictCount_35 : decode cX7_conflictCount 35 = .ok (.goto 4, 3) := by decide +kernel
theorem dX7_conflictCount_38 : decode cX7_conflictCount 38 = .ok (.iconst 0, 1) := by decide +kernel
theorem dX7_conflictCount_39 : decode cX7_conflictCount 39 = .ok (.iadd, 1) := by decide +kernel
theorem dX7_conflictCount_40 : decode cX7_conflictCount 40 = .ok (.istore_n 1, 1) := by decide +kernel
theorem dX7_conflictCount_41 : decode cX7_conflictCount 41 = .ok (.iinc 3 1, 3) := by decide +kernel
theorem dX7_conflictCount_44 : decode cX7_conflictCount 44 = .ok (.goto (-28), 3) := by decide +kernel
theorem dX7_conflictCount_47 : decode cX7_conflictCount 47 = .ok (.iinc 2 1, 3) := by decide +kernel
theorem dX7_conflictCount_50 : decode cX7_conflictCount 50 = .ok (.goto (-46), 3) := by decide +kernel
theorem dX7_conflictCount_53 : decode cX7_conflictCount 53 = .ok (.iload_n 1, 1) := by decide +kernel
theorem dX7_conflictCount_54 : decode cX7_conflictCount 54 = .ok (.ireturn, 1) := by decide +kernel
set_option maxRecDepth 20000 in
theorem ggX7_conflict_X7_isIn : GoodIn wsX7_conflict wsX7_isIn := goodIn_r _ [5] (by decide +kernel) (by decide +kernel)
set_option maxRecDepth 20000 in
theorem gX7_conflict_X7_isIn : GoodIn wsX7_conflict (va_wsS RX7 95 yX7_isIn wsX7_isIn) := goodIn_app (goodIn_of _ (by decide +kernel)) ggX7_conflict_X7_isIn
set_option maxRecDepth 20000 in
theorem ggX7_conflict_X7_isConflict : GoodIn wsX7_conflict wsX7_isConflict := goodIn_r _ [9, 10, 11, 12, 13, 4, 14, 15, 16, 17, 18, 19, 20, 21, 22, 23, 24, 25, 26, 27, 28, 29, 30, 31, 32, 33, 34, 35, 36, 37, 38, 39, 40, 41, 42, 43, 44, 45, 46, 47, 48, 49, 50, 51, 52, 53, 54, 55, 56, 57, 58, 59] (by decide +kernel) (by decide +kernel)
set_option maxRecDepth 20000 in
theorem gX7_conflict_X7_isConflict : GoodIn wsX7_conflict (wsV RX7 174 RX7 yX7_isConflict wsX7_isConflict) := goodIn_app (goodIn_of _ (by decide +kernel)) ggX7_conflict_X7_isConflict
set_option maxRecDepth 20000 in
theorem ggX7_conflict_X7_common : GoodIn wsX7_conflict wsX7_common := goodIn_r _ [14, 15, 16, 17, 18, 19, 20, 21, 22, 23, 24, 25, 26, 27, 28, 29, 30, 31, 32, 33, 34, 35, 36, 37, 38, 39, 40, 41, 42, 43, 44, 45, 46, 47, 48, 49, 50, 51, 52, 53, 54, 55, 56, 57, 58, 59] (by decide +kernel) (by decide +kernel)
set_option maxRecDepth 20000 in
theorem gX7_conflict_X7_common : GoodIn wsX7_conflict (wsV RX7 171 RX7 yX7_common wsX7_common) := goodIn_app (goodIn_of _ (by decide +kernel)) ggX7_conflict_X7_common
theorem dX7_conflict_0 : decode cX7_conflict 0 = .ok (.iload_n 2, 1) := by decide +kernel
theorem dX7_conflict_1 : decode cX7_conflict 1 = .ok (.iconst 0, 1) := by decide +kernel
theorem dX7_conflict_2 : decode cX7_conflict 2 = .ok (.iconst 2, 1) := by decide +kernel
theorem dX7_conflict_3 : decode cX7_conflict 3 = .ok (.invokestatic 95, 3) := by decide +kernel
theorem dX7_conflict_6 : decode cX7_conflict 6 = .ok (.ifCond .ne 5, 3) := by decide +kernel
theorem dX7_conflict_9 : decode cX7_conflict 9 = .ok (.iconst (-1), 1) := by decide +kernel
theorem dX7_conflict_10 : decode cX7_conflict 10 = .ok (.ireturn, 1) := by decide +kernel
theorem dX7_conflict_11 : decode cX7_conflict 11 = .ok (.iload_n 1, 1) := by decide +kernel
theorem dX7_conflict_12 : decode cX7_conflict 12 = .ok (.istore_n 3, 1) := by decide +kernel
theorem dX7_conflict_13 : decode cX7_conflict 13 = .ok (.iconst 0, 1) := by decide +kernel
theorem dX7_conflict_14 : decode cX7_conflict 14 = .ok (.istore 4, 2) := by decide +kernel
theorem dX7_conflict_16 : decode cX7_conflict 16 = .ok (.iload 4, 2) := by decide +kernel
theorem dX7_conflict_18 : decode cX7_conflict 18 = .ok (.aload_n 0, 1) := by decide +kernel
theorem dX7_conflict_19 : decode cX7_conflict 19 = .ok (.getfield 99, 3) := by decide +kernel
theorem dX7_conflict_22 : decode cX7_conflict 22 = .ok (.if_icmp .ge 76, 3) := by decide +kernel
theorem dX7_conflict_25 : decode cX7_conflict 25 = .ok (.iload 4, 2) := by decide +kernel
theorem dX7_conflict_27 : decode cX7_conflict 27 = .ok (.iconst 1, 1) := by decide +kernel
theorem dX7_conflict_28 : decode cX7_conflict 28 = .ok (.iadd, 1) := by decide +kernel
theorem dX7_conflict_29 : decode cX7_conflict 29 = .ok (.istore 5, 2) := by decide +kernel
theorem dX7_conflict_31 : decode cX7_conflict 31 = .ok (.iload 5, 2) := by decide +kernel
theorem dX7_conflict_33 : decode cX7_conflict 33 = .ok (.aload_n 0, 1) := by decide +kernel
theorem dX7_conflict_34 : decode cX7_conflict 34 = .ok (.getfield 99, 3) := by decide +kernel
theorem dX7_conflict_37 : decode cX7_conflict 37 = .ok (.if_icmp .ge 55, 3) := by decide +kernel
theorem dX7_conflict_40 : decode cX7_conflict 40 = .ok (.aload_n 0, 1) := by decide +kernel
theorem dX7_conflict_41 : decode cX7_conflict 41 = .ok (.iload 4, 2) := by decide +kernel
theorem dX7_conflict_43 : decode cX7_conflict 43 = .ok (.iload 5, 2) := by decide +kernel
theorem dX7_conflict_45 : decode cX7_conflict 45 = .ok (.invokevirtual 174, 3) := by decide +kernel
theorem dX7_conflict_48 : decode cX7_conflict 48 = .ok (.ifCond .eq 38, 3) := by decide +kernel
theorem dX7_conflict_51 : decode cX7_conflict 51 = .ok (.iload_n 3, 1) := by decide +kernel
theorem dX7_conflict_52 : decode cX7_conflict 52 = .ok (.ifCond .ne 31, 3) := by decide +kernel
theorem dX7_conflict_55 : decode cX7_conflict 55 = .ok (.iload_n 2, 1) := by decide +kernel
theorem dX7_conflict_56 : decode cX7_conflict 56 = .ok (.ifCond .ne 8, 3) := by decide +kernel
theorem dX7_conflict_59 : decode cX7_conflict 59 = .ok (.iload 4, 2) := by decide +kernel
theorem dX7_conflict_61 : decode cX7_conflict 61 = .ok (.goto 21, 3) := by decide +kernel
theorem dX7_conflict_64 : decode cX7_conflict 64 = .ok (.iload_n 2, 1) := by decide +kernel
theorem dX7_conflict_65 : decode cX7_conflict 65 = .ok (.iconst 1, 1) := by decide +kernel
theorem dX7_conflict_66 : decode cX7_conflict 66 = .ok (.if_icmp .ne 8, 3) := by decide +kernel
theorem dX7_conflict_69 : decode cX7_conflict 69 = .ok (.iload 5, 2) := by decide +kernel
theorem dX7_conflict_71 : decode cX7_conflict 71 = .ok (.goto 11, 3) := by decide +kernel
theorem dX7_conflict_74 : decode cX7_conflict 74 = .ok (.aload_n 0, 1) := by decide +kernel
theorem dX7_conflict_75 : decode cX7_conflict 75 = .ok (.iload 4, 2) := by decide +kernel
theorem dX7_conflict_77 : decode cX7_conflict 77 = .ok (.iload 5, 2) := by decide +kernel
theorem dX7_conflict_79 : decode cX7_conflict 79 = .ok (.invokevirtual 171, 3) := by decide +kernel
theorem dX7_conflict_82 : decode cX7_conflict 82 = .ok (.ireturn, 1) := by decide +kernel
theorem dX7_conflict_83 : decode cX7_conflict 83 = .ok (.iinc 3 (-1), 3) := by decide +kernel
theorem dX7_conflict_86 : decode cX7_conflict 86 = .ok (.iinc 5 1, 3) := by decide +kernel
theorem dX7_conflict_89 : decode cX7_conflict 89 = .ok (.goto (-58), 3) := by decide +kernel
theorem dX7_conflict_92 : decode cX7_conflict 92 = .ok (.iinc 4 1, 3) := by decide +kernel
theorem dX7_conflict_95 : decode cX7_conflict 95 = .ok (.goto (-79), 3) := by decide +kernel
theorem dX7_conflict_98 : decode cX7_conflict 98 = .ok (.bipush (-6), 2) := by decide +kernel
theorem dX7_conflict_100 : decode cX7_conflict 100 = .ok (.ireturn, 1) := by decide +kernel
set_option maxRecDepth 20000 in
theorem ggX7_isCovered_X7_cases : GoodIn wsX7_isCovered wsX7_cases := goodIn_r _ [5, 6, 7, 22, 23, 24, 25, 26, 27, 28, 29, 30, 31, 32, 33, 34, 35, 36, 37, 38, 39, 40, 41, 42, 43, 44, 45, 46, 47, 48, 49, 50, 51, 52, 53, 54, 55, 56, 57, 58] (by decide +kernel) (by decide +kernel)
set_option maxRecDepth 20000 in
theorem gX7_isCovered_X7_cases : GoodIn wsX7_isCovered (wsV RX7 102 RX7 yX7_cases wsX7_cases) := goodIn_app (goodIn_of _ (by decide +kernel)) ggX7_isCovered_X7_cases
set_option maxRecDepth 20000 in
theorem ggX7_isCovered_X7_firstOf : GoodIn wsX7_isCovered wsX7_firstOf := goodIn_r _ [11, 12, 13, 14, 15, 4, 16, 6, 17, 18, 19, 20, 21, 7, 22, 23, 24, 25, 26, 27, 28, 29, 30, 31, 32, 33, 34, 35, 36, 37, 38, 39, 40, 41, 42, 43, 44, 45, 46, 47, 48, 49, 50, 51, 52, 53, 54, 55, 56, 57, 58] (by decide +kernel) (by decide +kernel)
set_option maxRecDepth 20000 in
theorem gX7_isCovered_X7_firstOf : GoodIn wsX7_isCovered (wsV RX7 162 RX7 yX7_firstOf wsX7_firstOf) := goodIn_app (goodIn_of _ (by decide +kernel)) ggX7_isCovered_X7_firstOf
theorem dX7_isCovered_0 : decode cX7_isCovered 0 = .ok (.aload_n 0, 1) := by decide +kernel
theorem dX7_isCovered_1 : decode cX7_isCovered 1 = .ok (.invokevirtual 102, 3) := by decide +kernel
theorem dX7_isCovered_4 : decode cX7_isCovered 4 = .ok (.istore_n 2, 1) := by decide +kernel
theorem dX7_isCovered_5 : decode cX7_isCovered 5 = .ok (.iconst 0, 1) := by decide +kernel
theorem dX7_isCovered_6 : decode cX7_isCovered 6 = .ok (.istore_n 3, 1) := by decide +kernel
theorem dX7_isCovered_7 : decode cX7_isCovered 7 = .ok (.iload_n 3, 1) := by decide +kernel
theorem dX7_isCovered_8 : decode cX7_isCovered 8 = .ok (.iload_n 2, 1) := by decide +kernel
theorem dX7_isCovered_9 : decode cX7_isCovered 9 = .ok (.if_icmp .ge 20, 3) := by decide +kernel
theorem dX7_isCovered_12 : decode cX7_isCovered 12 = .ok (.aload_n 0, 1) := by decide +kernel
theorem dX7_isCovered_13 : decode cX7_isCovered 13 = .ok (.iload_n 3, 1) := by decide +kernel
theorem dX7_isCovered_14 : decode cX7_isCovered 14 = .ok (.invokevirtual 162, 3) := by decide +kernel
theorem dX7_isCovered_17 : decode cX7_isCovered 17 = .ok (.iload_n 1, 1) := by decide +kernel
theorem dX7_isCovered_18 : decode cX7_isCovered 18 = .ok (.if_icmp .ne 5, 3) := by decide +kernel
theorem dX7_isCovered_21 : decode cX7_isCovered 21 = .ok (.iconst 0, 1) := by decide +kernel
theorem dX7_isCovered_22 : decode cX7_isCovered 22 = .ok (.ireturn, 1) := by decide +kernel
theorem dX7_isCovered_23 : decode cX7_isCovered 23 = .ok (.iinc 3 1, 3) := by decide +kernel
theorem dX7_isCovered_26 : decode cX7_isCovered 26 = .ok (.goto (-19), 3) := by decide +kernel
theorem dX7_isCovered_29 : decode cX7_isCovered 29 = .ok (.iconst 1, 1) := by decide +kernel
theorem dX7_isCovered_30 : decode cX7_isCovered 30 = .ok (.ireturn, 1) := by decide +kernel
set_option maxRecDepth 20000 in
theorem ggX7_isShadowed_X7_isRule : GoodIn wsX7_isShadowed wsX7_isRule := goodIn_r _ [5, 6, 7, 8, 4, 9, 33, 34, 35, 36, 37, 38, 39, 40, 41, 42, 43, 44, 45, 46, 47, 48, 49, 50, 51, 52, 53, 54, 55, 56, 57, 58, 59, 60, 61, 62, 63, 64, 65, 66, 67, 68, 69] (by decide +kernel) (by decide +kernel)
set_option maxRecDepth 20000 in
theorem gX7_isShadowed_X7_isRule : GoodIn wsX7_isShadowed (wsV RX7 147 RX7 yX7_isRule wsX7_isRule) := goodIn_app (goodIn_of _ (by decide +kernel)) ggX7_isShadowed_X7_isRule
set_option maxRecDepth 20000 in
theorem ggX7_isShadowed_X7_isCovered : GoodIn wsX7_isShadowed wsX7_isCovered := goodIn_r _ [13, 14, 15, 16, 4, 17, 18, 19, 20, 21, 22, 23, 6, 24, 25, 26, 27, 28, 29, 30, 31, 32, 33, 34, 35, 36, 37, 38, 39, 40, 41, 42, 43, 44, 45, 46, 47, 48, 49, 50, 51, 52, 53, 54, 55, 56, 57, 58, 59, 60, 61, 62, 63, 64, 65, 66, 67, 68, 69] (by decide +kernel) (by decide +kernel)
set_option maxRecDepth 20000 in
theorem gX7_isShadowed_X7_isCovered : GoodIn wsX7_isShadowed (wsV RX7 177 RX7 yX7_isCovered wsX7_isCovered) := goodIn_app (goodIn_of _ (by decide +kernel)) ggX7_isShadowed_X7_isCovered
theorem dX7_isShadowed_0 : decode cX7_isShadowed 0 = .ok (.aload_n 0, 1) := by decide +kernel
theorem dX7_isShadowed_1 : decode cX7_isShadowed 1 = .ok (.iload_n 1, 1) := by decide +kernel
theorem dX7_isShadowed_2 : decode cX7_isShadowed 2 = .ok (.invokevirtual 147, 3) := by decide +kernel
theorem dX7_isShadowed_5 : decode cX7_isShadowed 5 = .ok (.ifCond .ne 8, 3) := by decide +kernel
theorem dX7_isShadowed_8 : decode cX7_isShadowed 8 = .ok (.bipush (-3), 2) := by decide +kernel
theorem dX7_isShadowed_10 : decode cX7_isShadowed 10 = .ok (.goto 16, 3) := by decide +kernel
theorem dX7_isShadowed_13 : decode cX7_isShadowed 13 = .ok (.aload_n 0, 1) := by decide +kernel
theorem dX7_isShadowed_14 : decode cX7_isShadowed 14 = .ok (.iload_n 1, 1) := by decide +kernel
theorem dX7_isShadowed_15 : decode cX7_isShadowed 15 = .ok (.invokevirtual 177, 3) := by decide +kernel
theorem dX7_isShadowed_18 : decode cX7_isShadowed 18 = .ok (.ifCond .eq 7, 3) := by decide +kernel
theorem dX7_isShadowed_21 : decode cX7_isShadowed 21 = .ok (.iconst 1, 1) := by decide +kernel
theorem dX7_isShadowed_22 : decode cX7_isShadowed 22 = .ok (.goto 4, 3) := by decide +kernel
theorem dX7_isShadowed_25 : decode cX7_isShadowed 25 = .ok (.iconst 0, 1) := by decide +kernel
theorem dX7_isShadowed_26 : decode cX7_isShadowed 26 = .ok (.ireturn, 1) := by decide +kernel
set_option maxRecDepth 20000 in
theorem ggX7_removeShadowed_X7_isCovered : GoodIn wsX7_removeShadowed wsX7_isCovered := goodIn_r _ [6, 7, 8, 9, 5, 10, 11, 12, 13, 14, 15, 16, 1, 17, 18, 19, 20, 21, 22, 23, 24, 25, 32, 33, 34, 35, 36, 37, 38, 39, 40, 41, 42, 43, 44, 45, 46, 47, 48, 49, 50, 51, 52, 53, 54, 55, 56, 57, 58, 59, 60, 61, 62, 63, 64, 65, 66, 67, 68] (by decide +kernel) (by decide +kernel)
set_option maxRecDepth 20000 in
theorem gX7_removeShadowed_X7_isCovered : GoodIn wsX7_removeShadowed (wsV RX7 177 RX7 yX7_isCovered wsX7_isCovered) := goodIn_app (goodIn_of _ (by decide +kernel)) ggX7_removeShadowed_X7_isCovered
set_option maxRecDepth 20000 in
theorem ggX7_removeShadowed_X7_delete : GoodIn wsX7_removeShadowed wsX7_delete := goodIn_r _ [29, 1, 30, 21, 31, 32, 33, 34, 35, 36, 37, 38, 39, 40, 41, 42, 43, 44, 45, 46, 47, 48, 49, 50, 51, 52, 53, 54, 55, 56, 57, 58, 59, 60, 61, 62, 63, 64, 65, 66, 67, 68] (by decide +kernel) (by decide +kernel)
set_option maxRecDepth 20000 in
theorem gX7_removeShadowed_X7_delete : GoodIn wsX7_removeShadowed (wsV RX7 150 RX7 yX7_delete wsX7_delete) := goodIn_app (goodIn_of _ (by decide +kernel)) ggX7_removeShadowed_X7_delete
theorem dX7_removeShadowed_0 : decode cX7_removeShadowed 0 = .ok (.iconst 0, 1) := by decide +kernel
theorem dX7_removeShadowed_1 : decode cX7_removeShadowed 1 = .ok (.istore_n 1, 1) := by decide +kernel
theorem dX7_removeShadowed_2 : decode cX7_removeShadowed 2 = .ok (.aload_n 0, 1) := by decide +kernel
theorem dX7_removeShadowed_3 : decode cX7_removeShadowed 3 = .ok (.getfield 99, 3) := by decide +kernel
theorem dX7_removeShadowed_6 : decode cX7_removeShadowed 6 = .ok (.iconst 1, 1) := by decide +kernel
theorem dX7_removeShadowed_7 : decode cX7_removeShadowed 7 = .ok (.isub, 1) := by decide +kernel
theorem dX7_removeShadowed_8 : decode cX7_removeShadowed 8 = .ok (.istore_n 2, 1) := by decide +kernel
theorem dX7_removeShadowed_9 : decode cX7_removeShadowed 9 = .ok (.iload_n 2, 1) := by decide +kernel
theorem dX7_removeShadowed_10 : decode cX7_removeShadowed 10 = .ok (.ifCond .lt 25, 3) := by decide +kernel
theorem dX7_removeShadowed_13 : decode cX7_removeShadowed 13 = .ok (.aload_n 0, 1) := by decide +kernel
theorem dX7_removeShadowed_14 : decode cX7_removeShadowed 14 = .ok (.iload_n 2, 1) := by decide +kernel
theorem dX7_removeShadowed_15 : decode cX7_removeShadowed 15 = .ok (.invokevirtual 177, 3) := by decide +kernel
theorem dX7_removeShadowed_18 : decode cX7_removeShadowed 18 = .ok (.ifCond .eq 11, 3) := by decide +kernel
theorem dX7_removeShadowed_21 : decode cX7_removeShadowed 21 = .ok (.aload_n 0, 1) := by decide +kernel
theorem dX7_removeShadowed_22 : decode cX7_removeShadowed 22 = .ok (.iload_n 2, 1) := by decide +kernel
theorem dX7_removeShadowed_23 : decode cX7_removeShadowed 23 = .ok (.invokevirtual 150, 3) := by decide +kernel
theorem dX7_removeShadowed_26 : decode cX7_removeShadowed 26 = .ok (.iinc 1 1, 3) := by decide +kernel
theorem dX7_removeShadowed_29 : decode cX7_removeShadowed 29 = .ok (.iinc 2 (-1), 3) := by decide +kernel
theorem dX7_removeShadowed_32 : decode cX7_removeShadowed 32 = .ok (.goto (-23), 3) := by decide +kernel
theorem dX7_removeShadowed_35 : decode cX7_removeShadowed 35 = .ok (.iload_n 1, 1) := by decide +kernel
theorem dX7_removeShadowed_36 : decode cX7_removeShadowed 36 = .ok (.ireturn, 1) := by decide +kernel
theorem dX7_canMerge_0 : decode cX7_canMerge 0 = .ok (.iconst 0, 1) := by decide +kernel
theorem dX7_canMerge_1 : decode cX7_canMerge 1 = .ok (.istore_n 2, 1) := by decide +kernel
theorem dX7_canMerge_2 : decode cX7_canMerge 2 = .ok (.iconst 0, 1) := by decide +kernel
theorem dX7_canMerge_3 : decode cX7_canMerge 3 = .ok (.istore_n 3, 1) := by decide +kernel
theorem dX7_canMerge_4 : decode cX7_canMerge 4 = .ok (.iload_n 3, 1) := by decide +kernel
theorem dX7_canMerge_5 : decode cX7_canMerge 5 = .ok (.aload_n 0, 1) := by decide +kernel
theorem dX7_canMerge_6 : decode cX7_canMerge 6 = .ok (.getfield 9, 3) := by decide +kernel
theorem dX7_canMerge_9 : decode cX7_canMerge 9 = .ok (.if_icmp .ge 42, 3) := by decide +kernel
theorem dX7_canMerge_12 : decode cX7_canMerge 12 = .ok (.iload_n 2, 1) := by decide +kernel
theorem dX7_canMerge_13 : decode cX7_canMerge 13 = .ok (.aload_n 0, 1) := by decide +kernel
theorem dX7_canMerge_14 : decode cX7_canMerge 14 = .ok (.getfield 25, 3) := by decide +kernel
theorem dX7_canMerge_17 : decode cX7_canMerge 17 = .ok (.iconst 4, 1) := by decide +kernel
theorem dX7_canMerge_18 : decode cX7_canMerge 18 = .ok (.iload_n 1, 1) := by decide +kernel
theorem dX7_canMerge_19 : decode cX7_canMerge 19 = .ok (.imul, 1) := by decide +kernel
theorem dX7_canMerge_20 : decode cX7_canMerge 20 = .ok (.iload_n 3, 1) := by decide +kernel
theorem dX7_canMerge_21 : decode cX7_canMerge 21 = .ok (.iadd, 1) := by decide +kernel
theorem dX7_canMerge_22 : decode cX7_canMerge 22 = .ok (.iaload, 1) := by decide +kernel
theorem dX7_canMerge_23 : decode cX7_canMerge 23 = .ok (.aload_n 0, 1) := by decide +kernel
theorem dX7_canMerge_24 : decode cX7_canMerge 24 = .ok (.getfield 25, 3) := by decide +kernel
theorem dX7_canMerge_27 : decode cX7_canMerge 27 = .ok (.iconst 4, 1) := by decide +kernel
theorem dX7_canMerge_28 : decode cX7_canMerge 28 = .ok (.iload_n 1, 1) := by decide +kernel
theorem dX7_canMerge_29 : decode cX7_canMerge 29 = .ok (.iconst 1, 1) := by decide +kernel
theorem dX7_canMerge_30 : decode cX7_canMerge 30 = .ok (.iadd, 1) := by decide +kernel
theorem dX7_canMerge_31 : decode cX7_canMerge 31 = .ok (.imul, 1) := by decide +kernel
theorem dX7_canMerge_32 : decode cX7_canMerge 32 = .ok (.iload_n 3, 1) := by decide +kernel
theorem dX7_canMerge_33 : decode cX7_canMerge 33 = .ok (.iadd, 1) := by decide +kernel
theorem dX7_canMerge_34 : decode cX7_canMerge 34 = .ok (.iaload, 1) := by decide +kernel
theorem dX7_canMerge_35 : decode cX7_canMerge 35 = .ok (.if_icmp .eq 7, 3) := by decide +kernel
theorem dX7_canMerge_38 : decode cX7_canMerge 38 = .ok (.iconst 1, 1) := by decide +kernel
theorem dX7_canMerge_39 : decode cX7_canMerge 39 = .ok (.goto 4, 3) := by decide +kernel
theorem dX7_canMerge_42 : decode cX7_canMerge 42 = .ok (.iconst 0, 1) := by decide +kernel
theorem dX7_canMerge_43 : decode cX7_canMerge 43 = .ok (.iadd, 1) := by decide +kernel
theorem dX7_canMerge_44 : decode cX7_canMerge 44 = .ok (.istore_n 2, 1) := by decide +kernel
theorem dX7_canMerge_45 : decode cX7_canMerge 45 = .ok (.iinc 3 1, 3) := by decide +kernel
theorem dX7_canMerge_48 : decode cX7_canMerge 48 = .ok (.goto (-44), 3) := by decide +kernel
theorem dX7_canMerge_51 : decode cX7_canMerge 51 = .ok (.aload_n 0, 1) := by decide +kernel
theorem dX7_canMerge_52 : decode cX7_canMerge 52 = .ok (.getfield 28, 3) := by decide +kernel
theorem dX7_canMerge_55 : decode cX7_canMerge 55 = .ok (.iload_n 1, 1) := by decide +kernel
theorem dX7_canMerge_56 : decode cX7_canMerge 56 = .ok (.iaload, 1) := by decide +kernel
theorem dX7_canMerge_57 : decode cX7_canMerge 57 = .ok (.aload_n 0, 1) := by decide +kernel
theorem dX7_canMerge_58 : decode cX7_canMerge 58 = .ok (.getfield 28, 3) := by decide +kernel
theorem dX7_canMerge_61 : decode cX7_canMerge 61 = .ok (.iload_n 1, 1) := by decide +kernel
theorem dX7_canMerge_62 : decode cX7_canMerge 62 = .ok (.iconst 1, 1) := by decide +kernel
theorem dX7_canMerge_63 : decode cX7_canMerge 63 = .ok (.iadd, 1) := by decide +kernel
theorem dX7_canMerge_64 : decode cX7_canMerge 64 = .ok (.iaload, 1) := by decide +kernel
theorem dX7_canMerge_65 : decode cX7_canMerge 65 = .ok (.if_icmp .ne 12, 3) := by decide +kernel
theorem dX7_canMerge_68 : decode cX7_canMerge 68 = .ok (.iload_n 2, 1) := by decide +kernel
theorem dX7_canMerge_69 : decode cX7_canMerge 69 = .ok (.iconst 1, 1) := by decide +kernel
theorem dX7_canMerge_70 : decode cX7_canMerge 70 = .ok (.if_icmp .gt 7, 3) := by decide +kernel
theorem dX7_canMerge_73 : decode cX7_canMerge 73 = .ok (.iconst 1, 1) := by decide +kernel
theorem dX7_canMerge_74 : decode cX7_canMerge 74 = .ok (.goto 4, 3) := by decide +kernel
theorem dX7_canMerge_77 : decode cX7_canMerge 77 = .ok (.iconst 0, 1) := by decide +kernel
theorem dX7_canMerge_78 : decode cX7_canMerge 78 = .ok (.ireturn, 1) := by decide +kernel
set_option maxRecDepth 20000 in
theorem ggX7_mergeRules_X7_canMerge : GoodIn wsX7_mergeRules wsX7_canMerge := goodIn_r _ [8, 2, 3, 9, 15, 16, 17, 18, 19, 20, 21, 22, 23, 24, 25, 26, 27, 28, 29, 30, 31, 32, 33, 34, 35, 36, 37, 38, 39, 40, 41, 42, 43, 44, 45, 46, 47, 48, 49, 50, 51] (by decide +kernel) (by decide +kernel)
set_option maxRecDepth 20000 in
theorem gX7_mergeRules_X7_canMerge : GoodIn wsX7_mergeRules (wsV RX7 180 RX7 yX7_canMerge wsX7_canMerge) := goodIn_app (goodIn_of _ (by decide +kernel)) ggX7_mergeRules_X7_canMerge
set_option maxRecDepth 20000 in
theorem ggX7_mergeRules_X7_delete : GoodIn wsX7_mergeRules wsX7_delete := goodIn_r _ [13, 1, 9, 3, 14, 15, 16, 17, 18, 19, 20, 21, 22, 23, 24, 25, 26, 27, 28, 29, 30, 31, 32, 33, 34, 35, 36, 37, 38, 39, 40, 41, 42, 43, 44, 45, 46, 47, 48, 49, 50, 51] (by decide +kernel) (by decide +kernel)
set_option maxRecDepth 20000 in
theorem gX7_mergeRules_X7_delete : GoodIn wsX7_mergeRules (wsV RX7 150 RX7 yX7_delete wsX7_delete) := goodIn_app (goodIn_of _ (by decide +kernel)) ggX7_mergeRules_X7_delete
theorem dX7_mergeRules_0 : decode cX7_mergeRules 0 = .ok (.iconst 0, 1) := by decide +kernel
theorem dX7_mergeRules_1 : decode cX7_mergeRules 1 = .ok (.istore_n 1, 1) := by decide +kernel
theorem dX7_mergeRules_2 : decode cX7_mergeRules 2 = .ok (.iload_n 1, 1) := by decide +kernel
theorem dX7_mergeRules_3 : decode cX7_mergeRules 3 = .ok (.iconst 1, 1) := by decide +kernel
theorem dX7_mergeRules_4 : decode cX7_mergeRules 4 = .ok (.iadd, 1) := by decide +kernel
theorem dX7_mergeRules_5 : decode cX7_mergeRules 5 = .ok (.aload_n 0, 1) := by decide +kernel
theorem dX7_mergeRules_6 : decode cX7_mergeRules 6 = .ok (.getfield 99, 3) := by decide +kernel
theorem dX7_mergeRules_9 : decode cX7_mergeRules 9 = .ok (.if_icmp .ge 70, 3) := by decide +kernel
theorem dX7_mergeRules_12 : decode cX7_mergeRules 12 = .ok (.aload_n 0, 1) := by decide +kernel
theorem dX7_mergeRules_13 : decode cX7_mergeRules 13 = .ok (.iload_n 1, 1) := by decide +kernel
theorem dX7_mergeRules_14 : decode cX7_mergeRules 14 = .ok (.invokevirtual 180, 3) := by decide +kernel
theorem dX7_mergeRules_17 : decode cX7_mergeRules 17 = .ok (.ifCond .eq 56, 3) := by decide +kernel
theorem dX7_mergeRules_20 : decode cX7_mergeRules 20 = .ok (.iconst 0, 1) := by decide +kernel
theorem dX7_mergeRules_21 : decode cX7_mergeRules 21 = .ok (.istore_n 2, 1) := by decide +kernel
theorem dX7_mergeRules_22 : decode cX7_mergeRules 22 = .ok (.iload_n 2, 1) := by decide +kernel
theorem dX7_mergeRules_23 : decode cX7_mergeRules 23 = .ok (.aload_n 0, 1) := by decide +kernel
theorem dX7_mergeRules_24 : decode cX7_mergeRules 24 = .ok (.getfield 9, 3) := by decide +kernel
theorem dX7_mergeRules_27 : decode cX7_mergeRules 27 = .ok (.if_icmp .ge 34, 3) := by decide +kernel
theorem dX7_mergeRules_30 : decode cX7_mergeRules 30 = .ok (.aload_n 0, 1) := by decide +kernel
theorem dX7_mergeRules_31 : decode cX7_mergeRules 31 = .ok (.getfield 25, 3) := by decide +kernel
theorem dX7_mergeRules_34 : decode cX7_mergeRules 34 = .ok (.iconst 4, 1) := by decide +kernel
theorem dX7_mergeRules_35 : decode cX7_mergeRules 35 = .ok (.iload_n 1, 1) := by decide +kernel
theorem dX7_mergeRules_36 : decode cX7_mergeRules 36 = .ok (.imul, 1) := by decide +kernel
theorem dX7_mergeRules_37 : decode cX7_mergeRules 37 = .ok (.iload_n 2, 1) := by decide +kernel
theorem dX7_mergeRules_38 : decode cX7_mergeRules 38 = .ok (.iadd, 1) := by decide +kernel
theorem dX7_mergeRules_39 : decode cX7_mergeRules 39 = .ok (.dup2, 1) := by decide +kernel
theorem dX7_mergeRules_40 : decode cX7_mergeRules 40 = .ok (.iaload, 1) := by decide +kernel
theorem dX7_mergeRules_41 : decode cX7_mergeRules 41 = .ok (.aload_n 0, 1) := by decide +kernel
theorem dX7_mergeRules_42 : decode cX7_mergeRules 42 = .ok (.getfield 25, 3) := by decide +kernel
theorem dX7_mergeRules_45 : decode cX7_mergeRules 45 = .ok (.iconst 4, 1) := by decide +kernel
theorem dX7_mergeRules_46 : decode cX7_mergeRules 46 = .ok (.iload_n 1, 1) := by decide +kernel
theorem dX7_mergeRules_47 : decode cX7_mergeRules 47 = .ok (.iconst 1, 1) := by decide +kernel
theorem dX7_mergeRules_48 : decode cX7_mergeRules 48 = .ok (.iadd, 1) := by decide +kernel
theorem dX7_mergeRules_49 : decode cX7_mergeRules 49 = .ok (.imul, 1) := by decide +kernel
theorem dX7_mergeRules_50 : decode cX7_mergeRules 50 = .ok (.iload_n 2, 1) := by decide +kernel
theorem dX7_mergeRules_51 : decode cX7_mergeRules 51 = .ok (.iadd, 1) := by decide +kernel
theorem dX7_mergeRules_52 : decode cX7_mergeRules 52 = .ok (.iaload, 1) := by decide +kernel
theorem dX7_mergeRules_53 : decode cX7_mergeRules 53 = .ok (.ior, 1) := by decide +kernel
theorem dX7_mergeRules_54 : decode cX7_mergeRules 54 = .ok (.iastore, 1) := by decide +kernel
theorem dX7_mergeRules_55 : decode cX7_mergeRules 55 = .ok (.iinc 2 1, 3) := by decide +kernel
theorem dX7_mergeRules_58 : decode cX7_mergeRules 58 = .ok (.goto (-36), 3) := by decide +kernel
theorem dX7_mergeRules_61 : decode cX7_mergeRules 61 = .ok (.aload_n 0, 1) := by decide +kernel
theorem dX7_mergeRules_62 : decode cX7_mergeRules 62 = .ok (.iload_n 1, 1) := by decide +kernel
theorem dX7_mergeRules_63 : decode cX7_mergeRules 63 = .ok (.iconst 1, 1) := by decide +kernel
theorem dX7_mergeRules_64 : decode cX7_mergeRules 64 = .ok (.iadd, 1) := by decide +kernel
theorem dX7_mergeRules_65 : decode cX7_mergeRules 65 = .ok (.invokevirtual 150, 3) := by decide +kernel
theorem dX7_mergeRules_68 : decode cX7_mergeRules 68 = .ok (.iconst 0, 1) := by decide +kernel
theorem dX7_mergeRules_69 : decode cX7_mergeRules 69 = .ok (.istore_n 1, 1) := by decide +kernel
theorem dX7_mergeRules_70 : decode cX7_mergeRules 70 = .ok (.goto (-68), 3) := by decide +kernel
theorem dX7_mergeRules_73 : decode cX7_mergeRules 73 = .ok (.iinc 1 1, 3) := by decide +kernel
theorem dX7_mergeRules_76 : decode cX7_mergeRules 76 = .ok (.goto (-74), 3) := by decide +kernel
theorem dX7_mergeRules_79 : decode cX7_mergeRules 79 = .ok (.aload_n 0, 1) := by decide +kernel
theorem dX7_mergeRules_80 : decode cX7_mergeRules 80 = .ok (.getfield 99, 3) := by decide +kernel
theorem dX7_mergeRules_83 : decode cX7_mergeRules 83 = .ok (.ireturn, 1) := by decide +kernel
theorem dX7_unit_0 : decode cX7_unit 0 = .ok (.iload_n 0, 1) := by decide +kernel
theorem dX7_unit_1 : decode cX7_unit 1 = .ok (.ifCond .ne 7, 3) := by decide +kernel
theorem dX7_unit_4 : decode cX7_unit 4 = .ok (.iconst 1, 1) := by decide +kernel
theorem dX7_unit_5 : decode cX7_unit 5 = .ok (.goto 26, 3) := by decide +kernel
theorem dX7_unit_8 : decode cX7_unit 8 = .ok (.iload_n 0, 1) := by decide +kernel
theorem dX7_unit_9 : decode cX7_unit 9 = .ok (.iconst 1, 1) := by decide +kernel
theorem dX7_unit_10 : decode cX7_unit 10 = .ok (.if_icmp .ne 8, 3) := by decide +kernel
theorem dX7_unit_13 : decode cX7_unit 13 = .ok (.bipush 6, 2) := by decide +kernel
theorem dX7_unit_15 : decode cX7_unit 15 = .ok (.goto 16, 3) := by decide +kernel
theorem dX7_unit_18 : decode cX7_unit 18 = .ok (.iload_n 0, 1) := by decide +kernel
theorem dX7_unit_19 : decode cX7_unit 19 = .ok (.iconst 2, 1) := by decide +kernel
theorem dX7_unit_20 : decode cX7_unit 20 = .ok (.if_icmp .ne 8, 3) := by decide +kernel
theorem dX7_unit_23 : decode cX7_unit 23 = .ok (.bipush 36, 2) := by decide +kernel
theorem dX7_unit_25 : decode cX7_unit 25 = .ok (.goto 6, 3) := by decide +kernel
theorem dX7_unit_28 : decode cX7_unit 28 = .ok (.sipush 216, 3) := by decide +kernel
theorem dX7_unit_31 : decode cX7_unit 31 = .ok (.ireturn, 1) := by decide +kernel
set_option maxRecDepth 20000 in
theorem ggX7_digit_X7_unit : GoodIn wsX7_digit wsX7_unit := goodIn_r _ [4] (by decide +kernel) (by decide +kernel)
set_option maxRecDepth 20000 in
theorem gX7_digit_X7_unit : GoodIn wsX7_digit (va_wsS RX7 183 yX7_unit wsX7_unit) := goodIn_app (goodIn_of _ (by decide +kernel)) ggX7_digit_X7_unit
theorem dX7_digit_0 : decode cX7_digit 0 = .ok (.iload_n 0, 1) := by decide +kernel
theorem dX7_digit_1 : decode cX7_digit 1 = .ok (.iload_n 1, 1) := by decide +kernel
theorem dX7_digit_2 : decode cX7_digit 2 = .ok (.invokestatic 183, 3) := by decide +kernel
theorem dX7_digit_5 : decode cX7_digit 5 = .ok (.idiv, 1) := by decide +kernel
theorem dX7_digit_6 : decode cX7_digit 6 = .ok (.bipush 6, 2) := by decide +kernel
theorem dX7_digit_8 : decode cX7_digit 8 = .ok (.irem, 1) := by decide +kernel
theorem dX7_digit_9 : decode cX7_digit 9 = .ok (.ireturn, 1) := by decide +kernel
set_option maxRecDepth 20000 in
theorem ggX7_isPart_X7_digit : GoodIn wsX7_isPart wsX7_digit := goodIn_r _ [6, 7, 8, 5, 9] (by decide +kernel) (by decide +kernel)
set_option maxRecDepth 20000 in
theorem gX7_isPart_X7_digit : GoodIn wsX7_isPart (va_wsS RX7 186 yX7_digit wsX7_digit) := goodIn_app (goodIn_of _ (by decide +kernel)) ggX7_isPart_X7_digit
theorem dX7_isPart_0 : decode cX7_isPart 0 = .ok (.iconst 0, 1) := by decide +kernel
theorem dX7_isPart_1 : decode cX7_isPart 1 = .ok (.istore_n 2, 1) := by decide +kernel
theorem dX7_isPart_2 : decode cX7_isPart 2 = .ok (.iload_n 2, 1) := by decide +kernel
theorem dX7_isPart_3 : decode cX7_isPart 3 = .ok (.iconst 4, 1) := by decide +kernel
theorem dX7_isPart_4 : decode cX7_isPart 4 = .ok (.if_icmp .ge 37, 3) := by decide +kernel
theorem dX7_isPart_7 : decode cX7_isPart 7 = .ok (.iload_n 1, 1) := by decide +kernel
theorem dX7_isPart_8 : decode cX7_isPart 8 = .ok (.iload_n 2, 1) := by decide +kernel
theorem dX7_isPart_9 : decode cX7_isPart 9 = .ok (.invokestatic 186, 3) := by decide +kernel
theorem dX7_isPart_12 : decode cX7_isPart 12 = .ok (.iload_n 2, 1) := by decide +kernel
theorem dX7_isPart_13 : decode cX7_isPart 13 = .ok (.aload_n 0, 1) := by decide +kernel
theorem dX7_isPart_14 : decode cX7_isPart 14 = .ok (.getfield 9, 3) := by decide +kernel
theorem dX7_isPart_17 : decode cX7_isPart 17 = .ok (.if_icmp .ge 12, 3) := by decide +kernel
theorem dX7_isPart_20 : decode cX7_isPart 20 = .ok (.aload_n 0, 1) := by decide +kernel
theorem dX7_isPart_21 : decode cX7_isPart 21 = .ok (.getfield 15, 3) := by decide +kernel
theorem dX7_isPart_24 : decode cX7_isPart 24 = .ok (.iload_n 2, 1) := by decide +kernel
theorem dX7_isPart_25 : decode cX7_isPart 25 = .ok (.iaload, 1) := by decide +kernel
theorem dX7_isPart_26 : decode cX7_isPart 26 = .ok (.goto 4, 3) := by decide +kernel
theorem dX7_isPart_29 : decode cX7_isPart 29 = .ok (.iconst 0, 1) := by decide +kernel
theorem dX7_isPart_30 : decode cX7_isPart 30 = .ok (.if_icmp .le 5, 3) := by decide +kernel
theorem dX7_isPart_33 : decode cX7_isPart 33 = .ok (.iconst 0, 1) := by decide +kernel
theorem dX7_isPart_34 : decode cX7_isPart 34 = .ok (.ireturn, 1) := by decide +kernel
theorem dX7_isPart_35 : decode cX7_isPart 35 = .ok (.iinc 2 1, 3) := by decide +kernel
theorem dX7_isPart_38 : decode cX7_isPart 38 = .ok (.goto (-36), 3) := by decide +kernel
theorem dX7_isPart_41 : decode cX7_isPart 41 = .ok (.iconst 1, 1) := by decide +kernel
theorem dX7_isPart_42 : decode cX7_isPart 42 = .ok (.ireturn, 1) := by decide +kernel
set_option maxRecDepth 20000 in
theorem ggX7_weightOf_X7_digit : GoodIn wsX7_weightOf wsX7_digit := goodIn_r _ [6, 7, 8, 5, 9] (by decide +kernel) (by decide +kernel)
set_option maxRecDepth 20000 in
theorem gX7_weightOf_X7_digit : GoodIn wsX7_weightOf (va_wsS RX7 186 yX7_digit wsX7_digit) := goodIn_app (goodIn_of _ (by decide +kernel)) ggX7_weightOf_X7_digit
set_option maxRecDepth 20000 in
theorem ggX7_weightOf_X7_weightSum : GoodIn wsX7_weightOf wsX7_weightSum := goodIn_r _ [13, 14, 2, 15, 16, 17, 18, 19, 20, 21, 22, 23, 24, 25, 26, 27, 28, 29, 30, 31, 32, 33, 34, 35, 36, 37, 38, 39, 40, 41, 42, 43, 44, 45, 46, 47, 48, 49, 50, 51] (by decide +kernel) (by decide +kernel)
set_option maxRecDepth 20000 in
theorem gX7_weightOf_X7_weightSum : GoodIn wsX7_weightOf (wsV RX7 124 RX7 yX7_weightSum wsX7_weightSum) := goodIn_app (goodIn_of _ (by decide +kernel)) ggX7_weightOf_X7_weightSum
theorem dX7_weightOf_0 : decode cX7_weightOf 0 = .ok (.lconst 1, 1) := by decide +kernel
theorem dX7_weightOf_1 : decode cX7_weightOf 1 = .ok (.lstore_n 2, 1) := by decide +kernel
theorem dX7_weightOf_2 : decode cX7_weightOf 2 = .ok (.iconst 0, 1) := by decide +kernel
theorem dX7_weightOf_3 : decode cX7_weightOf 3 = .ok (.istore 4, 2) := by decide +kernel
theorem dX7_weightOf_5 : decode cX7_weightOf 5 = .ok (.iload 4, 2) := by decide +kernel
theorem dX7_weightOf_7 : decode cX7_weightOf 7 = .ok (.aload_n 0, 1) := by decide +kernel
theorem dX7_weightOf_8 : decode cX7_weightOf 8 = .ok (.getfield 9, 3) := by decide +kernel
theorem dX7_weightOf_11 : decode cX7_weightOf 11 = .ok (.if_icmp .ge 50, 3) := by decide +kernel
theorem dX7_weightOf_14 : decode cX7_weightOf 14 = .ok (.iload_n 1, 1) := by decide +kernel
theorem dX7_weightOf_15 : decode cX7_weightOf 15 = .ok (.iload 4, 2) := by decide +kernel
theorem dX7_weightOf_17 : decode cX7_weightOf 17 = .ok (.invokestatic 186, 3) := by decide +kernel
theorem dX7_weightOf_20 : decode cX7_weightOf 20 = .ok (.istore 5, 2) := by decide +kernel
theorem dX7_weightOf_22 : decode cX7_weightOf 22 = .ok (.lload_n 2, 1) := by decide +kernel
theorem dX7_weightOf_23 : decode cX7_weightOf 23 = .ok (.iload 5, 2) := by decide +kernel
theorem dX7_weightOf_25 : decode cX7_weightOf 25 = .ok (.ifCond .ne 13, 3) := by decide +kernel
theorem dX7_weightOf_28 : decode cX7_weightOf 28 = .ok (.aload_n 0, 1) := by decide +kernel
theorem dX7_weightOf_29 : decode cX7_weightOf 29 = .ok (.iload 4, 2) := by decide +kernel
theorem dX7_weightOf_31 : decode cX7_weightOf 31 = .ok (.invokevirtual 124, 3) := by decide +kernel
theorem dX7_weightOf_34 : decode cX7_weightOf 34 = .ok (.i2l, 1) := by decide +kernel
theorem dX7_weightOf_35 : decode cX7_weightOf 35 = .ok (.goto 18, 3) := by decide +kernel
theorem dX7_weightOf_38 : decode cX7_weightOf 38 = .ok (.aload_n 0, 1) := by decide +kernel
theorem dX7_weightOf_39 : decode cX7_weightOf 39 = .ok (.getfield 19, 3) := by decide +kernel
theorem dX7_weightOf_42 : decode cX7_weightOf 42 = .ok (.iconst 5, 1) := by decide +kernel
theorem dX7_weightOf_43 : decode cX7_weightOf 43 = .ok (.iload 4, 2) := by decide +kernel
theorem dX7_weightOf_45 : decode cX7_weightOf 45 = .ok (.imul, 1) := by decide +kernel
theorem dX7_weightOf_46 : decode cX7_weightOf 46 = .ok (.iload 5, 2) := by decide +kernel
theorem dX7_weightOf_48 : decode cX7_weightOf 48 = .ok (.iadd, 1) := by decide +kernel
theorem dX7_weightOf_49 : decode cX7_weightOf 49 = .ok (.iconst 1, 1) := by decide +kernel
theorem dX7_weightOf_50 : decode cX7_weightOf 50 = .ok (.isub, 1) := by decide +kernel
theorem dX7_weightOf_51 : decode cX7_weightOf 51 = .ok (.iaload, 1) := by decide +kernel
theorem dX7_weightOf_52 : decode cX7_weightOf 52 = .ok (.i2l, 1) := by decide +kernel
theorem dX7_weightOf_53 : decode cX7_weightOf 53 = .ok (.lmul, 1) := by decide +kernel
theorem dX7_weightOf_54 : decode cX7_weightOf 54 = .ok (.lstore_n 2, 1) := by decide +kernel
theorem dX7_weightOf_55 : decode cX7_weightOf 55 = .ok (.iinc 4 1, 3) := by decide +kernel
theorem dX7_weightOf_58 : decode cX7_weightOf 58 = .ok (.goto (-53), 3) := by decide +kernel
theorem dX7_weightOf_61 : decode cX7_weightOf 61 = .ok (.lload_n 2, 1) := by decide +kernel
theorem dX7_weightOf_62 : decode cX7_weightOf 62 = .ok (.lreturn, 1) := by decide +kernel
set_option maxRecDepth 20000 in
theorem ggX7_caseOf_X7_digit : GoodIn wsX7_caseOf wsX7_digit := goodIn_r _ [6, 7, 8, 5, 9] (by decide +kernel) (by decide +kernel)
set_option maxRecDepth 20000 in
theorem gX7_caseOf_X7_digit : GoodIn wsX7_caseOf (va_wsS RX7 186 yX7_digit wsX7_digit) := goodIn_app (goodIn_of _ (by decide +kernel)) ggX7_caseOf_X7_digit
theorem dX7_caseOf_0 : decode cX7_caseOf 0 = .ok (.iconst 0, 1) := by decide +kernel
theorem dX7_caseOf_1 : decode cX7_caseOf 1 = .ok (.istore_n 2, 1) := by decide +kernel
theorem dX7_caseOf_2 : decode cX7_caseOf 2 = .ok (.iconst 0, 1) := by decide +kernel
theorem dX7_caseOf_3 : decode cX7_caseOf 3 = .ok (.istore_n 3, 1) := by decide +kernel
theorem dX7_caseOf_4 : decode cX7_caseOf 4 = .ok (.iload_n 3, 1) := by decide +kernel
theorem dX7_caseOf_5 : decode cX7_caseOf 5 = .ok (.aload_n 0, 1) := by decide +kernel
theorem dX7_caseOf_6 : decode cX7_caseOf 6 = .ok (.getfield 9, 3) := by decide +kernel
theorem dX7_caseOf_9 : decode cX7_caseOf 9 = .ok (.if_icmp .ge 26, 3) := by decide +kernel
theorem dX7_caseOf_12 : decode cX7_caseOf 12 = .ok (.iload_n 2, 1) := by decide +kernel
theorem dX7_caseOf_13 : decode cX7_caseOf 13 = .ok (.aload_n 0, 1) := by decide +kernel
theorem dX7_caseOf_14 : decode cX7_caseOf 14 = .ok (.getfield 15, 3) := by decide +kernel
theorem dX7_caseOf_17 : decode cX7_caseOf 17 = .ok (.iload_n 3, 1) := by decide +kernel
theorem dX7_caseOf_18 : decode cX7_caseOf 18 = .ok (.iaload, 1) := by decide +kernel
theorem dX7_caseOf_19 : decode cX7_caseOf 19 = .ok (.imul, 1) := by decide +kernel
theorem dX7_caseOf_20 : decode cX7_caseOf 20 = .ok (.iload_n 1, 1) := by decide +kernel
theorem dX7_caseOf_21 : decode cX7_caseOf 21 = .ok (.iload_n 3, 1) := by decide +kernel
theorem dX7_caseOf_22 : decode cX7_caseOf 22 = .ok (.invokestatic 186, 3) := by decide +kernel
theorem dX7_caseOf_25 : decode cX7_caseOf 25 = .ok (.iadd, 1) := by decide +kernel
theorem dX7_caseOf_26 : decode cX7_caseOf 26 = .ok (.iconst 1, 1) := by decide +kernel
theorem dX7_caseOf_27 : decode cX7_caseOf 27 = .ok (.isub, 1) := by decide +kernel
theorem dX7_caseOf_28 : decode cX7_caseOf 28 = .ok (.istore_n 2, 1) := by decide +kernel
theorem dX7_caseOf_29 : decode cX7_caseOf 29 = .ok (.iinc 3 1, 3) := by decide +kernel
theorem dX7_caseOf_32 : decode cX7_caseOf 32 = .ok (.goto (-28), 3) := by decide +kernel
theorem dX7_caseOf_35 : decode cX7_caseOf 35 = .ok (.iload_n 2, 1) := by decide +kernel
theorem dX7_caseOf_36 : decode cX7_caseOf 36 = .ok (.ireturn, 1) := by decide +kernel
set_option maxRecDepth 20000 in
theorem ggX7_sameOf_X7_digit : GoodIn wsX7_sameOf wsX7_digit := goodIn_r _ [7, 8, 9, 6, 10] (by decide +kernel) (by decide +kernel)
set_option maxRecDepth 20000 in
theorem gX7_sameOf_X7_digit : GoodIn wsX7_sameOf (va_wsS RX7 186 yX7_digit wsX7_digit) := goodIn_app (goodIn_of _ (by decide +kernel)) ggX7_sameOf_X7_digit
set_option maxRecDepth 20000 in
theorem ggX7_sameOf_X7_unit : GoodIn wsX7_sameOf wsX7_unit := goodIn_r _ [10] (by decide +kernel) (by decide +kernel)
set_option maxRecDepth 20000 in
theorem gX7_sameOf_X7_unit : GoodIn wsX7_sameOf (va_wsS RX7 183 yX7_unit wsX7_unit) := goodIn_app (goodIn_of _ (by decide +kernel)) ggX7_sameOf_X7_unit
set_option maxRecDepth 20000 in
theorem ggX7_sameOf_X7_caseOf : GoodIn wsX7_sameOf wsX7_caseOf := goodIn_r _ [14, 1, 3, 4, 5, 6, 7, 8, 9, 10, 35, 36, 37, 38, 39, 40, 41, 42, 43, 44, 45, 46, 47, 48, 49, 50, 51, 52, 53, 54, 55, 56, 57, 58, 59, 60, 61, 62, 63, 64, 65, 66, 67, 68, 69, 70, 71] (by decide +kernel) (by decide +kernel)
set_option maxRecDepth 20000 in
theorem gX7_sameOf_X7_caseOf : GoodIn wsX7_sameOf (wsV RX7 189 RX7 yX7_caseOf wsX7_caseOf) := goodIn_app (goodIn_of _ (by decide +kernel)) ggX7_sameOf_X7_caseOf
set_option maxRecDepth 20000 in
theorem ggX7_sameOf_X7_actionOf : GoodIn wsX7_sameOf wsX7_actionOf := goodIn_r _ [18, 19, 20, 21, 22, 23, 6, 24, 25, 26, 27, 28, 29, 1, 30, 31, 32, 33, 34, 3, 35, 36, 37, 38, 39, 40, 41, 42, 43, 44, 45, 46, 47, 48, 49, 50, 51, 52, 53, 54, 55, 56, 57, 58, 59, 60, 61, 62, 63, 64, 65, 66, 67, 68, 69, 70, 71] (by decide +kernel) (by decide +kernel)
set_option maxRecDepth 20000 in
theorem gX7_sameOf_X7_actionOf : GoodIn wsX7_sameOf (wsV RX7 165 RX7 yX7_actionOf wsX7_actionOf) := goodIn_app (goodIn_of _ (by decide +kernel)) ggX7_sameOf_X7_actionOf
theorem dX7_sameOf_0 : decode cX7_sameOf 0 = .ok (.iconst 0, 1) := by decide +kernel
theorem dX7_sameOf_1 : decode cX7_sameOf 1 = .ok (.istore_n 2, 1) := by decide +kernel
theorem dX7_sameOf_2 : decode cX7_sameOf 2 = .ok (.iload_n 2, 1) := by decide +kernel
theorem dX7_sameOf_3 : decode cX7_sameOf 3 = .ok (.aload_n 0, 1) := by decide +kernel
theorem dX7_sameOf_4 : decode cX7_sameOf 4 = .ok (.getfield 9, 3) := by decide +kernel
theorem dX7_sameOf_7 : decode cX7_sameOf 7 = .ok (.if_icmp .ge 76, 3) := by decide +kernel
theorem dX7_sameOf_10 : decode cX7_sameOf 10 = .ok (.iload_n 1, 1) := by decide +kernel
theorem dX7_sameOf_11 : decode cX7_sameOf 11 = .ok (.iload_n 2, 1) := by decide +kernel
theorem dX7_sameOf_12 : decode cX7_sameOf 12 = .ok (.invokestatic 186, 3) := by decide +kernel
theorem dX7_sameOf_15 : decode cX7_sameOf 15 = .ok (.ifCond .ne 62, 3) := by decide +kernel
theorem dX7_sameOf_18 : decode cX7_sameOf 18 = .ok (.aload_n 0, 1) := by decide +kernel
theorem dX7_sameOf_19 : decode cX7_sameOf 19 = .ok (.getfield 40, 3) := by decide +kernel
theorem dX7_sameOf_22 : decode cX7_sameOf 22 = .ok (.iload_n 1, 1) := by decide +kernel
theorem dX7_sameOf_23 : decode cX7_sameOf 23 = .ok (.iload_n 2, 1) := by decide +kernel
theorem dX7_sameOf_24 : decode cX7_sameOf 24 = .ok (.invokestatic 183, 3) := by decide +kernel
theorem dX7_sameOf_27 : decode cX7_sameOf 27 = .ok (.iadd, 1) := by decide +kernel
theorem dX7_sameOf_28 : decode cX7_sameOf 28 = .ok (.iaload, 1) := by decide +kernel
theorem dX7_sameOf_29 : decode cX7_sameOf 29 = .ok (.istore_n 3, 1) := by decide +kernel
theorem dX7_sameOf_30 : decode cX7_sameOf 30 = .ok (.iconst 2, 1) := by decide +kernel
theorem dX7_sameOf_31 : decode cX7_sameOf 31 = .ok (.istore 4, 2) := by decide +kernel
theorem dX7_sameOf_33 : decode cX7_sameOf 33 = .ok (.iload 4, 2) := by decide +kernel
theorem dX7_sameOf_35 : decode cX7_sameOf 35 = .ok (.aload_n 0, 1) := by decide +kernel
theorem dX7_sameOf_36 : decode cX7_sameOf 36 = .ok (.getfield 15, 3) := by decide +kernel
theorem dX7_sameOf_39 : decode cX7_sameOf 39 = .ok (.iload_n 2, 1) := by decide +kernel
theorem dX7_sameOf_40 : decode cX7_sameOf 40 = .ok (.iaload, 1) := by decide +kernel
theorem dX7_sameOf_41 : decode cX7_sameOf 41 = .ok (.if_icmp .gt 34, 3) := by decide +kernel
theorem dX7_sameOf_44 : decode cX7_sameOf 44 = .ok (.aload_n 0, 1) := by decide +kernel
theorem dX7_sameOf_45 : decode cX7_sameOf 45 = .ok (.getfield 40, 3) := by decide +kernel
theorem dX7_sameOf_48 : decode cX7_sameOf 48 = .ok (.iload_n 1, 1) := by decide +kernel
theorem dX7_sameOf_49 : decode cX7_sameOf 49 = .ok (.iload 4, 2) := by decide +kernel
theorem dX7_sameOf_51 : decode cX7_sameOf 51 = .ok (.iload_n 2, 1) := by decide +kernel
theorem dX7_sameOf_52 : decode cX7_sameOf 52 = .ok (.invokestatic 183, 3) := by decide +kernel
theorem dX7_sameOf_55 : decode cX7_sameOf 55 = .ok (.imul, 1) := by decide +kernel
theorem dX7_sameOf_56 : decode cX7_sameOf 56 = .ok (.iadd, 1) := by decide +kernel
theorem dX7_sameOf_57 : decode cX7_sameOf 57 = .ok (.iaload, 1) := by decide +kernel
theorem dX7_sameOf_58 : decode cX7_sameOf 58 = .ok (.iload_n 3, 1) := by decide +kernel
theorem dX7_sameOf_59 : decode cX7_sameOf 59 = .ok (.if_icmp .ne 7, 3) := by decide +kernel
theorem dX7_sameOf_62 : decode cX7_sameOf 62 = .ok (.iload_n 3, 1) := by decide +kernel
theorem dX7_sameOf_63 : decode cX7_sameOf 63 = .ok (.goto 5, 3) := by decide +kernel
theorem dX7_sameOf_66 : decode cX7_sameOf 66 = .ok (.bipush (-9), 2) := by decide +kernel
theorem dX7_sameOf_68 : decode cX7_sameOf 68 = .ok (.istore_n 3, 1) := by decide +kernel
theorem dX7_sameOf_69 : decode cX7_sameOf 69 = .ok (.iinc 4 1, 3) := by decide +kernel
theorem dX7_sameOf_72 : decode cX7_sameOf 72 = .ok (.goto (-39), 3) := by decide +kernel
theorem dX7_sameOf_75 : decode cX7_sameOf 75 = .ok (.iload_n 3, 1) := by decide +kernel
theorem dX7_sameOf_76 : decode cX7_sameOf 76 = .ok (.ireturn, 1) := by decide +kernel
theorem dX7_sameOf_77 : decode cX7_sameOf 77 = .ok (.iinc 2 1, 3) := by decide +kernel
theorem dX7_sameOf_80 : decode cX7_sameOf 80 = .ok (.goto (-78), 3) := by decide +kernel
theorem dX7_sameOf_83 : decode cX7_sameOf 83 = .ok (.aload_n 0, 1) := by decide +kernel
theorem dX7_sameOf_84 : decode cX7_sameOf 84 = .ok (.aload_n 0, 1) := by decide +kernel
theorem dX7_sameOf_85 : decode cX7_sameOf 85 = .ok (.iload_n 1, 1) := by decide +kernel
theorem dX7_sameOf_86 : decode cX7_sameOf 86 = .ok (.invokevirtual 189, 3) := by decide +kernel
theorem dX7_sameOf_89 : decode cX7_sameOf 89 = .ok (.invokevirtual 165, 3) := by decide +kernel
theorem dX7_sameOf_92 : decode cX7_sameOf 92 = .ok (.ireturn, 1) := by decide +kernel
set_option maxRecDepth 20000 in
theorem ggX7_costBy_X7_weightOf : GoodIn wsX7_costBy wsX7_weightOf := goodIn_r _ [8, 9, 10, 11, 12, 7, 13, 14, 15, 16, 17, 18, 19, 20, 2, 21, 22, 23, 24, 25, 26, 27, 28, 29, 30, 31, 32, 33, 34, 35, 36, 37, 38, 39, 40, 41, 42, 43, 44, 45, 46, 47, 48, 49, 50, 51, 52, 53, 54, 55, 56, 57] (by decide +kernel) (by decide +kernel)
set_option maxRecDepth 20000 in
theorem gX7_costBy_X7_weightOf : GoodIn wsX7_costBy (wsV RX7 192 RX7 yX7_weightOf wsX7_weightOf) := goodIn_app (goodIn_of _ (by decide +kernel)) ggX7_costBy_X7_weightOf
set_option maxRecDepth 20000 in
theorem ggX7_costBy_X7_unit : GoodIn wsX7_costBy wsX7_unit := goodIn_r _ [16] (by decide +kernel) (by decide +kernel)
set_option maxRecDepth 20000 in
theorem gX7_costBy_X7_unit : GoodIn wsX7_costBy (va_wsS RX7 183 yX7_unit wsX7_unit) := goodIn_app (goodIn_of _ (by decide +kernel)) ggX7_costBy_X7_unit
theorem dX7_costBy_0 : decode cX7_costBy 0 = .ok (.aload_n 0, 1) := by decide +kernel
theorem dX7_costBy_1 : decode cX7_costBy 1 = .ok (.getfield 22, 3) := by decide +kernel
theorem dX7_costBy_4 : decode cX7_costBy 4 = .ok (.iload_n 2, 1) := by decide +kernel
theorem dX7_costBy_5 : decode cX7_costBy 5 = .ok (.iaload, 1) := by decide +kernel
theorem dX7_costBy_6 : decode cX7_costBy 6 = .ok (.i2l, 1) := by decide +kernel
theorem dX7_costBy_7 : decode cX7_costBy 7 = .ok (.aload_n 0, 1) := by decide +kernel
theorem dX7_costBy_8 : decode cX7_costBy 8 = .ok (.iload_n 1, 1) := by decide +kernel
theorem dX7_costBy_9 : decode cX7_costBy 9 = .ok (.invokevirtual 192, 3) := by decide +kernel
theorem dX7_costBy_12 : decode cX7_costBy 12 = .ok (.lmul, 1) := by decide +kernel
theorem dX7_costBy_13 : decode cX7_costBy 13 = .ok (.lstore_n 3, 1) := by decide +kernel
theorem dX7_costBy_14 : decode cX7_costBy 14 = .ok (.iconst 1, 1) := by decide +kernel
theorem dX7_costBy_15 : decode cX7_costBy 15 = .ok (.istore 5, 2) := by decide +kernel
theorem dX7_costBy_17 : decode cX7_costBy 17 = .ok (.iload 5, 2) := by decide +kernel
theorem dX7_costBy_19 : decode cX7_costBy 19 = .ok (.aload_n 0, 1) := by decide +kernel
theorem dX7_costBy_20 : decode cX7_costBy 20 = .ok (.getfield 15, 3) := by decide +kernel
theorem dX7_costBy_23 : decode cX7_costBy 23 = .ok (.iload_n 2, 1) := by decide +kernel
theorem dX7_costBy_24 : decode cX7_costBy 24 = .ok (.iaload, 1) := by decide +kernel
theorem dX7_costBy_25 : decode cX7_costBy 25 = .ok (.if_icmp .gt 26, 3) := by decide +kernel
theorem dX7_costBy_28 : decode cX7_costBy 28 = .ok (.lload_n 3, 1) := by decide +kernel
theorem dX7_costBy_29 : decode cX7_costBy 29 = .ok (.aload_n 0, 1) := by decide +kernel
theorem dX7_costBy_30 : decode cX7_costBy 30 = .ok (.getfield 43, 3) := by decide +kernel
theorem dX7_costBy_33 : decode cX7_costBy 33 = .ok (.iload_n 1, 1) := by decide +kernel
theorem dX7_costBy_34 : decode cX7_costBy 34 = .ok (.iload 5, 2) := by decide +kernel
theorem dX7_costBy_36 : decode cX7_costBy 36 = .ok (.iload_n 2, 1) := by decide +kernel
theorem dX7_costBy_37 : decode cX7_costBy 37 = .ok (.invokestatic 183, 3) := by decide +kernel
theorem dX7_costBy_40 : decode cX7_costBy 40 = .ok (.imul, 1) := by decide +kernel
theorem dX7_costBy_41 : decode cX7_costBy 41 = .ok (.iadd, 1) := by decide +kernel
theorem dX7_costBy_42 : decode cX7_costBy 42 = .ok (.laload, 1) := by decide +kernel
theorem dX7_costBy_43 : decode cX7_costBy 43 = .ok (.ladd, 1) := by decide +kernel
theorem dX7_costBy_44 : decode cX7_costBy 44 = .ok (.lstore_n 3, 1) := by decide +kernel
theorem dX7_costBy_45 : decode cX7_costBy 45 = .ok (.iinc 5 1, 3) := by decide +kernel
theorem dX7_costBy_48 : decode cX7_costBy 48 = .ok (.goto (-31), 3) := by decide +kernel
theorem dX7_costBy_51 : decode cX7_costBy 51 = .ok (.lload_n 3, 1) := by decide +kernel
theorem dX7_costBy_52 : decode cX7_costBy 52 = .ok (.lreturn, 1) := by decide +kernel
set_option maxRecDepth 20000 in
theorem ggX7_nodesBy_X7_unit : GoodIn wsX7_nodesBy wsX7_unit := goodIn_r _ [6] (by decide +kernel) (by decide +kernel)
set_option maxRecDepth 20000 in
theorem gX7_nodesBy_X7_unit : GoodIn wsX7_nodesBy (va_wsS RX7 183 yX7_unit wsX7_unit) := goodIn_app (goodIn_of _ (by decide +kernel)) ggX7_nodesBy_X7_unit
theorem dX7_nodesBy_0 : decode cX7_nodesBy 0 = .ok (.iconst 1, 1) := by decide +kernel
theorem dX7_nodesBy_1 : decode cX7_nodesBy 1 = .ok (.istore_n 3, 1) := by decide +kernel
theorem dX7_nodesBy_2 : decode cX7_nodesBy 2 = .ok (.iconst 1, 1) := by decide +kernel
theorem dX7_nodesBy_3 : decode cX7_nodesBy 3 = .ok (.istore 4, 2) := by decide +kernel
theorem dX7_nodesBy_5 : decode cX7_nodesBy 5 = .ok (.iload 4, 2) := by decide +kernel
theorem dX7_nodesBy_7 : decode cX7_nodesBy 7 = .ok (.aload_n 0, 1) := by decide +kernel
theorem dX7_nodesBy_8 : decode cX7_nodesBy 8 = .ok (.getfield 15, 3) := by decide +kernel
theorem dX7_nodesBy_11 : decode cX7_nodesBy 11 = .ok (.iload_n 2, 1) := by decide +kernel
theorem dX7_nodesBy_12 : decode cX7_nodesBy 12 = .ok (.iaload, 1) := by decide +kernel
theorem dX7_nodesBy_13 : decode cX7_nodesBy 13 = .ok (.if_icmp .gt 26, 3) := by decide +kernel
theorem dX7_nodesBy_16 : decode cX7_nodesBy 16 = .ok (.iload_n 3, 1) := by decide +kernel
theorem dX7_nodesBy_17 : decode cX7_nodesBy 17 = .ok (.aload_n 0, 1) := by decide +kernel
theorem dX7_nodesBy_18 : decode cX7_nodesBy 18 = .ok (.getfield 47, 3) := by decide +kernel
theorem dX7_nodesBy_21 : decode cX7_nodesBy 21 = .ok (.iload_n 1, 1) := by decide +kernel
theorem dX7_nodesBy_22 : decode cX7_nodesBy 22 = .ok (.iload 4, 2) := by decide +kernel
theorem dX7_nodesBy_24 : decode cX7_nodesBy 24 = .ok (.iload_n 2, 1) := by decide +kernel
theorem dX7_nodesBy_25 : decode cX7_nodesBy 25 = .ok (.invokestatic 183, 3) := by decide +kernel
theorem dX7_nodesBy_28 : decode cX7_nodesBy 28 = .ok (.imul, 1) := by decide +kernel
theorem dX7_nodesBy_29 : decode cX7_nodesBy 29 = .ok (.iadd, 1) := by decide +kernel
theorem dX7_nodesBy_30 : decode cX7_nodesBy 30 = .ok (.iaload, 1) := by decide +kernel
theorem dX7_nodesBy_31 : decode cX7_nodesBy 31 = .ok (.iadd, 1) := by decide +kernel
theorem dX7_nodesBy_32 : decode cX7_nodesBy 32 = .ok (.istore_n 3, 1) := by decide +kernel
theorem dX7_nodesBy_33 : decode cX7_nodesBy 33 = .ok (.iinc 4 1, 3) := by decide +kernel
theorem dX7_nodesBy_36 : decode cX7_nodesBy 36 = .ok (.goto (-31), 3) := by decide +kernel
theorem dX7_nodesBy_39 : decode cX7_nodesBy 39 = .ok (.iload_n 3, 1) := by decide +kernel
theorem dX7_nodesBy_40 : decode cX7_nodesBy 40 = .ok (.ireturn, 1) := by decide +kernel
set_option maxRecDepth 20000 in
theorem ggX7_solve_X7_isPart : GoodIn wsX7_solve wsX7_isPart := goodIn_r _ [5, 6, 7, 8, 9, 4, 10, 11, 12, 13, 68, 69, 70, 71, 72, 73, 74, 75, 76, 77, 78, 79, 80, 81, 82, 83, 84, 85, 86, 87, 88, 89, 90, 91, 92, 93, 94, 95, 96, 97, 98, 99, 100, 101, 102, 103, 104] (by decide +kernel) (by decide +kernel)
set_option maxRecDepth 20000 in
theorem gX7_solve_X7_isPart : GoodIn wsX7_solve (wsV RX7 196 RX7 yX7_isPart wsX7_isPart) := goodIn_app (goodIn_of _ (by decide +kernel)) ggX7_solve_X7_isPart
set_option maxRecDepth 20000 in
theorem ggX7_solve_X7_solvePart : GoodIn wsX7_solve wsX7_solvePart := goodIn_r _ [17, 18, 19, 20, 21, 6, 22, 23, 24, 4, 25, 7, 8, 9, 10, 11, 12, 13, 26, 27, 28, 29, 30, 31, 32, 33, 34, 35, 36, 37, 38, 39, 40, 41, 42, 43, 44, 45, 46, 47, 48, 49, 50, 51, 52, 53, 54, 55, 56, 57, 58, 59, 60, 61, 62, 63, 64, 65, 66, 67, 68, 69, 70, 71, 72, 73, 74, 75, 76, 77, 78, 79, 80, 81, 82, 83, 84, 85, 86, 87, 88, 89, 90, 91, 92, 93, 94, 95, 96, 97, 98, 99, 100, 101, 102, 103, 104] (by decide +kernel) (by decide +kernel)
set_option maxRecDepth 20000 in
theorem gX7_solve_X7_solvePart : GoodIn wsX7_solve (wsV RX7 199 RX7 yX7_solvePart wsX7_solvePart) := goodIn_app (goodIn_of _ (by decide +kernel)) ggX7_solve_X7_solvePart
theorem dX7_solve_0 : decode cX7_solve 0 = .ok (.sipush 1295, 3) := by decide +kernel
theorem dX7_solve_3 : decode cX7_solve 3 = .ok (.istore_n 1, 1) := by decide +kernel
theorem dX7_solve_4 : decode cX7_solve 4 = .ok (.iload_n 1, 1) := by decide +kernel
theorem dX7_solve_5 : decode cX7_solve 5 = .ok (.ifCond .lt 22, 3) := by decide +kernel
theorem dX7_solve_8 : decode cX7_solve 8 = .ok (.aload_n 0, 1) := by decide +kernel
theorem dX7_solve_9 : decode cX7_solve 9 = .ok (.iload_n 1, 1) := by decide +kernel
theorem dX7_solve_10 : decode cX7_solve 10 = .ok (.invokevirtual 196, 3) := by decide +kernel
theorem dX7_solve_13 : decode cX7_solve 13 = .ok (.ifCond .eq 8, 3) := by decide +kernel
theorem dX7_solve_16 : decode cX7_solve 16 = .ok (.aload_n 0, 1) := by decide +kernel
theorem dX7_solve_17 : decode cX7_solve 17 = .ok (.iload_n 1, 1) := by decide +kernel
theorem dX7_solve_18 : decode cX7_solve 18 = .ok (.invokevirtual 199, 3) := by decide +kernel
theorem dX7_solve_21 : decode cX7_solve 21 = .ok (.iinc 1 (-1), 3) := by decide +kernel
theorem dX7_solve_24 : decode cX7_solve 24 = .ok (.goto (-20), 3) := by decide +kernel
theorem dX7_solve_27 : decode cX7_solve 27 = .ok (.return_, 1) := by decide +kernel
set_option maxRecDepth 20000 in
theorem ggX7_solvePart_X7_sameOf : GoodIn wsX7_solvePart wsX7_sameOf := goodIn_r _ [10, 5, 1, 11, 12, 13, 9, 14, 15, 16, 17, 18, 19, 20, 21, 22, 23, 24, 25, 26, 27, 28, 29, 30, 31, 32, 33, 34, 35, 36, 37, 38, 39, 40, 41, 60, 61, 62, 63, 64, 65, 66, 67, 68, 69, 70, 71, 72, 73, 74, 75, 76, 77, 78, 79, 80, 81, 82, 83, 84, 85, 86, 87, 88, 89, 90, 91, 92, 93, 94, 95, 96] (by decide +kernel) (by decide +kernel)
set_option maxRecDepth 20000 in
theorem gX7_solvePart_X7_sameOf : GoodIn wsX7_solvePart (wsV RX7 202 RX7 yX7_sameOf wsX7_sameOf) := goodIn_app (goodIn_of _ (by decide +kernel)) ggX7_solvePart_X7_sameOf
set_option maxRecDepth 20000 in
theorem ggX7_solvePart_X7_digit : GoodIn wsX7_solvePart wsX7_digit := goodIn_r _ [14, 15, 16, 9, 17] (by decide +kernel) (by decide +kernel)
set_option maxRecDepth 20000 in
theorem gX7_solvePart_X7_digit : GoodIn wsX7_solvePart (va_wsS RX7 186 yX7_digit wsX7_digit) := goodIn_app (goodIn_of _ (by decide +kernel)) ggX7_solvePart_X7_digit
set_option maxRecDepth 20000 in
theorem ggX7_solvePart_X7_costBy : GoodIn wsX7_solvePart wsX7_costBy := goodIn_r _ [45, 46, 11, 2, 47, 48, 49, 9, 50, 5, 51, 12, 13, 14, 15, 16, 17, 52, 53, 54, 55, 60, 61, 62, 63, 64, 65, 66, 67, 68, 69, 70, 71, 72, 73, 74, 75, 76, 77, 78, 79, 80, 81, 82, 83, 84, 85, 86, 87, 88, 89, 90, 91, 92, 93, 94, 95, 96] (by decide +kernel) (by decide +kernel)
set_option maxRecDepth 20000 in
theorem gX7_solvePart_X7_costBy : GoodIn wsX7_solvePart (wsV RX7 205 RX7 yX7_costBy wsX7_costBy) := goodIn_app (goodIn_of _ (by decide +kernel)) ggX7_solvePart_X7_costBy
set_option maxRecDepth 20000 in
theorem ggX7_solvePart_X7_nodesBy : GoodIn wsX7_solvePart wsX7_nodesBy := goodIn_r _ [59, 11, 3, 15, 16, 9, 17, 60, 61, 62, 63, 64, 65, 66, 67, 68, 69, 70, 71, 72, 73, 74, 75, 76, 77, 78, 79, 80, 81, 82, 83, 84, 85, 86, 87, 88, 89, 90, 91, 92, 93, 94, 95, 96] (by decide +kernel) (by decide +kernel)
set_option maxRecDepth 20000 in
theorem gX7_solvePart_X7_nodesBy : GoodIn wsX7_solvePart (wsV RX7 209 RX7 yX7_nodesBy wsX7_nodesBy) := goodIn_app (goodIn_of _ (by decide +kernel)) ggX7_solvePart_X7_nodesBy
theorem dX7_solvePart_0 : decode cX7_solvePart 0 = .ok (.aload_n 0, 1) := by decide +kernel
theorem dX7_solvePart_1 : decode cX7_solvePart 1 = .ok (.getfield 40, 3) := by decide +kernel
theorem dX7_solvePart_4 : decode cX7_solvePart 4 = .ok (.iload_n 1, 1) := by decide +kernel
theorem dX7_solvePart_5 : decode cX7_solvePart 5 = .ok (.aload_n 0, 1) := by decide +kernel
theorem dX7_solvePart_6 : decode cX7_solvePart 6 = .ok (.iload_n 1, 1) := by decide +kernel
theorem dX7_solvePart_7 : decode cX7_solvePart 7 = .ok (.invokevirtual 202, 3) := by decide +kernel
theorem dX7_solvePart_10 : decode cX7_solvePart 10 = .ok (.iastore, 1) := by decide +kernel
theorem dX7_solvePart_11 : decode cX7_solvePart 11 = .ok (.aload_n 0, 1) := by decide +kernel
theorem dX7_solvePart_12 : decode cX7_solvePart 12 = .ok (.getfield 43, 3) := by decide +kernel
theorem dX7_solvePart_15 : decode cX7_solvePart 15 = .ok (.iload_n 1, 1) := by decide +kernel
theorem dX7_solvePart_16 : decode cX7_solvePart 16 = .ok (.lconst 0, 1) := by decide +kernel
theorem dX7_solvePart_17 : decode cX7_solvePart 17 = .ok (.lastore, 1) := by decide +kernel
theorem dX7_solvePart_18 : decode cX7_solvePart 18 = .ok (.aload_n 0, 1) := by decide +kernel
theorem dX7_solvePart_19 : decode cX7_solvePart 19 = .ok (.getfield 47, 3) := by decide +kernel
theorem dX7_solvePart_22 : decode cX7_solvePart 22 = .ok (.iload_n 1, 1) := by decide +kernel
theorem dX7_solvePart_23 : decode cX7_solvePart 23 = .ok (.iconst 1, 1) := by decide +kernel
theorem dX7_solvePart_24 : decode cX7_solvePart 24 = .ok (.iastore, 1) := by decide +kernel
theorem dX7_solvePart_25 : decode cX7_solvePart 25 = .ok (.aload_n 0, 1) := by decide +kernel
theorem dX7_solvePart_26 : decode cX7_solvePart 26 = .ok (.getfield 50, 3) := by decide +kernel
theorem dX7_solvePart_29 : decode cX7_solvePart 29 = .ok (.iload_n 1, 1) := by decide +kernel
theorem dX7_solvePart_30 : decode cX7_solvePart 30 = .ok (.bipush (-6), 2) := by decide +kernel
theorem dX7_solvePart_32 : decode cX7_solvePart 32 = .ok (.iastore, 1) := by decide +kernel
theorem dX7_solvePart_33 : decode cX7_solvePart 33 = .ok (.iconst 0, 1) := by decide +kernel
theorem dX7_solvePart_34 : decode cX7_solvePart 34 = .ok (.istore_n 2, 1) := by decide +kernel
theorem dX7_solvePart_35 : decode cX7_solvePart 35 = .ok (.iload_n 2, 1) := by decide +kernel
theorem dX7_solvePart_36 : decode cX7_solvePart 36 = .ok (.aload_n 0, 1) := by decide +kernel
theorem dX7_solvePart_37 : decode cX7_solvePart 37 = .ok (.getfield 9, 3) := by decide +kernel
theorem dX7_solvePart_40 : decode cX7_solvePart 40 = .ok (.if_icmp .ge 109, 3) := by decide +kernel
theorem dX7_solvePart_43 : decode cX7_solvePart 43 = .ok (.aload_n 0, 1) := by decide +kernel
theorem dX7_solvePart_44 : decode cX7_solvePart 44 = .ok (.getfield 40, 3) := by decide +kernel
theorem dX7_solvePart_47 : decode cX7_solvePart 47 = .ok (.iload_n 1, 1) := by decide +kernel
theorem dX7_solvePart_48 : decode cX7_solvePart 48 = .ok (.iaload, 1) := by decide +kernel
theorem dX7_solvePart_49 : decode cX7_solvePart 49 = .ok (.bipush (-9), 2) := by decide +kernel
theorem dX7_solvePart_51 : decode cX7_solvePart 51 = .ok (.if_icmp .ne 98, 3) := by decide +kernel
theorem dX7_solvePart_54 : decode cX7_solvePart 54 = .ok (.iload_n 1, 1) := by decide +kernel
theorem dX7_solvePart_55 : decode cX7_solvePart 55 = .ok (.iload_n 2, 1) := by decide +kernel
theorem dX7_solvePart_56 : decode cX7_solvePart 56 = .ok (.invokestatic 186, 3) := by decide +kernel
theorem dX7_solvePart_59 : decode cX7_solvePart 59 = .ok (.ifCond .ne 84, 3) := by decide +kernel
theorem dX7_solvePart_62 : decode cX7_solvePart 62 = .ok (.aload_n 0, 1) := by decide +kernel
theorem dX7_solvePart_63 : decode cX7_solvePart 63 = .ok (.iload_n 1, 1) := by decide +kernel
theorem dX7_solvePart_64 : decode cX7_solvePart 64 = .ok (.iload_n 2, 1) := by decide +kernel
theorem dX7_solvePart_65 : decode cX7_solvePart 65 = .ok (.invokevirtual 205, 3) := by decide +kernel
theorem dX7_solvePart_68 : decode cX7_solvePart 68 = .ok (.lstore_n 3, 1) := by decide +kernel
theorem dX7_solvePart_69 : decode cX7_solvePart 69 = .ok (.aload_n 0, 1) := by decide +kernel
theorem dX7_solvePart_70 : decode cX7_solvePart 70 = .ok (.iload_n 1, 1) := by decide +kernel
theorem dX7_solvePart_71 : decode cX7_solvePart 71 = .ok (.iload_n 2, 1) := by decide +kernel
theorem dX7_solvePart_72 : decode cX7_solvePart 72 = .ok (.invokevirtual 209, 3) := by decide +kernel
theorem dX7_solvePart_75 : decode cX7_solvePart 75 = .ok (.istore 5, 2) := by decide +kernel
theorem dX7_solvePart_77 : decode cX7_solvePart 77 = .ok (.aload_n 0, 1) := by decide +kernel
theorem dX7_solvePart_78 : decode cX7_solvePart 78 = .ok (.getfield 50, 3) := by decide +kernel
theorem dX7_solvePart_81 : decode cX7_solvePart 81 = .ok (.iload_n 1, 1) := by decide +kernel
theorem dX7_solvePart_82 : decode cX7_solvePart 82 = .ok (.iaload, 1) := by decide +kernel
theorem dX7_solvePart_83 : decode cX7_solvePart 83 = .ok (.bipush (-6), 2) := by decide +kernel
theorem dX7_solvePart_85 : decode cX7_solvePart 85 = .ok (.if_icmp .eq 36, 3) := by decide +kernel
theorem dX7_solvePart_88 : decode cX7_solvePart 88 = .ok (.lload_n 3, 1) := by decide +kernel
theorem dX7_solvePart_89 : decode cX7_solvePart 89 = .ok (.aload_n 0, 1) := by decide +kernel
theorem dX7_solvePart_90 : decode cX7_solvePart 90 = .ok (.getfield 43, 3) := by decide +kernel
theorem dX7_solvePart_93 : decode cX7_solvePart 93 = .ok (.iload_n 1, 1) := by decide +kernel
theorem dX7_solvePart_94 : decode cX7_solvePart 94 = .ok (.laload, 1) := by decide +kernel
theorem dX7_solvePart_95 : decode cX7_solvePart 95 = .ok (.lcmp, 1) := by decide +kernel
theorem dX7_solvePart_96 : decode cX7_solvePart 96 = .ok (.ifCond .lt 25, 3) := by decide +kernel
theorem dX7_solvePart_99 : decode cX7_solvePart 99 = .ok (.lload_n 3, 1) := by decide +kernel
theorem dX7_solvePart_100 : decode cX7_solvePart 100 = .ok (.aload_n 0, 1) := by decide +kernel
theorem dX7_solvePart_101 : decode cX7_solvePart 101 = .ok (.getfield 43, 3) := by decide +kernel
theorem dX7_solvePart_104 : decode cX7_solvePart 104 = .ok (.iload_n 1, 1) := by decide +kernel
theorem dX7_solvePart_105 : decode cX7_solvePart 105 = .ok (.laload, 1) := by decide +kernel
theorem dX7_solvePart_106 : decode cX7_solvePart 106 = .ok (.lcmp, 1) := by decide +kernel
theorem dX7_solvePart_107 : decode cX7_solvePart 107 = .ok (.ifCond .ne 36, 3) := by decide +kernel
theorem dX7_solvePart_110 : decode cX7_solvePart 110 = .ok (.iload 5, 2) := by decide +kernel
theorem dX7_solvePart_112 : decode cX7_solvePart 112 = .ok (.aload_n 0, 1) := by decide +kernel
theorem dX7_solvePart_113 : decode cX7_solvePart 113 = .ok (.getfield 47, 3) := by decide +kernel
theorem dX7_solvePart_116 : decode cX7_solvePart 116 = .ok (.iload_n 1, 1) := by decide +kernel
theorem dX7_solvePart_117 : decode cX7_solvePart 117 = .ok (.iaload, 1) := by decide +kernel
theorem dX7_solvePart_118 : decode cX7_solvePart 118 = .ok (.if_icmp .ge 25, 3) := by decide +kernel
theorem dX7_solvePart_121 : decode cX7_solvePart 121 = .ok (.aload_n 0, 1) := by decide +kernel
theorem dX7_solvePart_122 : decode cX7_solvePart 122 = .ok (.getfield 50, 3) := by decide +kernel
theorem dX7_solvePart_125 : decode cX7_solvePart 125 = .ok (.iload_n 1, 1) := by decide +kernel
theorem dX7_solvePart_126 : decode cX7_solvePart 126 = .ok (.iload_n 2, 1) := by decide +kernel
theorem dX7_solvePart_127 : decode cX7_solvePart 127 = .ok (.iastore, 1) := by decide +kernel
theorem dX7_solvePart_128 : decode cX7_solvePart 128 = .ok (.aload_n 0, 1) := by decide +kernel
theorem dX7_solvePart_129 : decode cX7_solvePart 129 = .ok (.getfield 43, 3) := by decide +kernel
theorem dX7_solvePart_132 : decode cX7_solvePart 132 = .ok (.iload_n 1, 1) := by decide +kernel
theorem dX7_solvePart_133 : decode cX7_solvePart 133 = .ok (.lload_n 3, 1) := by decide +kernel
theorem dX7_solvePart_134 : decode cX7_solvePart 134 = .ok (.lastore, 1) := by decide +kernel
theorem dX7_solvePart_135 : decode cX7_solvePart 135 = .ok (.aload_n 0, 1) := by decide +kernel
theorem dX7_solvePart_136 : decode cX7_solvePart 136 = .ok (.getfield 47, 3) := by decide +kernel
theorem dX7_solvePart_139 : decode cX7_solvePart 139 = .ok (.iload_n 1, 1) := by decide +kernel
theorem dX7_solvePart_140 : decode cX7_solvePart 140 = .ok (.iload 5, 2) := by decide +kernel
theorem dX7_solvePart_142 : decode cX7_solvePart 142 = .ok (.iastore, 1) := by decide +kernel
theorem dX7_solvePart_143 : decode cX7_solvePart 143 = .ok (.iinc 2 1, 3) := by decide +kernel
theorem dX7_solvePart_146 : decode cX7_solvePart 146 = .ok (.goto (-111), 3) := by decide +kernel
theorem dX7_solvePart_149 : decode cX7_solvePart 149 = .ok (.return_, 1) := by decide +kernel
set_option maxRecDepth 20000 in
theorem ggX7_grow_X7_told : GoodIn wsX7_grow wsX7_told := goodIn_r _ [14] (by decide +kernel) (by decide +kernel)
set_option maxRecDepth 20000 in
theorem gX7_grow_X7_told : GoodIn wsX7_grow (va_wsS RX7 128 yX7_told wsX7_told) := goodIn_app (goodIn_of _ (by decide +kernel)) ggX7_grow_X7_told
set_option maxRecDepth 20000 in
theorem ggX7_grow_X7_unit : GoodIn wsX7_grow wsX7_unit := goodIn_r _ [17] (by decide +kernel) (by decide +kernel)
set_option maxRecDepth 20000 in
theorem gX7_grow_X7_unit : GoodIn wsX7_grow (va_wsS RX7 183 yX7_unit wsX7_unit) := goodIn_app (goodIn_of _ (by decide +kernel)) ggX7_grow_X7_unit
set_option maxRecDepth 20000 in
theorem ggX7_grow_X7_grow : GoodIn wsX7_grow wsX7_grow := goodIn_r _ [0, 1, 2, 3, 4, 5, 6, 7, 8, 9, 10, 11, 12, 13, 14, 15, 16, 17, 18, 19, 20, 21, 22, 23, 24, 25, 26, 27, 28, 29, 30, 31, 32, 33, 34, 35, 36, 37, 38, 39, 40, 41, 42, 43, 44, 45, 46, 47, 48, 49, 50, 51, 52, 53, 54, 55, 56, 57] (by decide +kernel) (by decide +kernel)
set_option maxRecDepth 20000 in
theorem gX7_grow_X7_grow : GoodIn wsX7_grow (wsV RX7 215 RX7 yX7_grow wsX7_grow) := goodIn_app (goodIn_of _ (by decide +kernel)) ggX7_grow_X7_grow
theorem dX7_grow_0 : decode cX7_grow 0 = .ok (.aload_n 0, 1) := by decide +kernel
theorem dX7_grow_1 : decode cX7_grow 1 = .ok (.getfield 212, 3) := by decide +kernel
theorem dX7_grow_4 : decode cX7_grow 4 = .ok (.istore 4, 2) := by decide +kernel
theorem dX7_grow_6 : decode cX7_grow 6 = .ok (.aload_n 0, 1) := by decide +kernel
theorem dX7_grow_7 : decode cX7_grow 7 = .ok (.dup, 1) := by decide +kernel
theorem dX7_grow_8 : decode cX7_grow 8 = .ok (.getfield 212, 3) := by decide +kernel
theorem dX7_grow_11 : decode cX7_grow 11 = .ok (.iconst 1, 1) := by decide +kernel
theorem dX7_grow_12 : decode cX7_grow 12 = .ok (.iadd, 1) := by decide +kernel
theorem dX7_grow_13 : decode cX7_grow 13 = .ok (.putfield 212, 3) := by decide +kernel
theorem dX7_grow_16 : decode cX7_grow 16 = .ok (.aload_n 0, 1) := by decide +kernel
theorem dX7_grow_17 : decode cX7_grow 17 = .ok (.getfield 53, 3) := by decide +kernel
theorem dX7_grow_20 : decode cX7_grow 20 = .ok (.iload 4, 2) := by decide +kernel
theorem dX7_grow_22 : decode cX7_grow 22 = .ok (.aload_n 0, 1) := by decide +kernel
theorem dX7_grow_23 : decode cX7_grow 23 = .ok (.getfield 50, 3) := by decide +kernel
theorem dX7_grow_26 : decode cX7_grow 26 = .ok (.iload_n 1, 1) := by decide +kernel
theorem dX7_grow_27 : decode cX7_grow 27 = .ok (.iaload, 1) := by decide +kernel
theorem dX7_grow_28 : decode cX7_grow 28 = .ok (.iastore, 1) := by decide +kernel
theorem dX7_grow_29 : decode cX7_grow 29 = .ok (.aload_n 0, 1) := by decide +kernel
theorem dX7_grow_30 : decode cX7_grow 30 = .ok (.getfield 56, 3) := by decide +kernel
theorem dX7_grow_33 : decode cX7_grow 33 = .ok (.iload 4, 2) := by decide +kernel
theorem dX7_grow_35 : decode cX7_grow 35 = .ok (.aload_n 0, 1) := by decide +kernel
theorem dX7_grow_36 : decode cX7_grow 36 = .ok (.getfield 50, 3) := by decide +kernel
theorem dX7_grow_39 : decode cX7_grow 39 = .ok (.iload_n 1, 1) := by decide +kernel
theorem dX7_grow_40 : decode cX7_grow 40 = .ok (.iaload, 1) := by decide +kernel
theorem dX7_grow_41 : decode cX7_grow 41 = .ok (.bipush (-6), 2) := by decide +kernel
theorem dX7_grow_43 : decode cX7_grow 43 = .ok (.if_icmp .ne 15, 3) := by decide +kernel
theorem dX7_grow_46 : decode cX7_grow 46 = .ok (.aload_n 0, 1) := by decide +kernel
theorem dX7_grow_47 : decode cX7_grow 47 = .ok (.getfield 40, 3) := by decide +kernel
theorem dX7_grow_50 : decode cX7_grow 50 = .ok (.iload_n 1, 1) := by decide +kernel
theorem dX7_grow_51 : decode cX7_grow 51 = .ok (.iaload, 1) := by decide +kernel
theorem dX7_grow_52 : decode cX7_grow 52 = .ok (.invokestatic 128, 3) := by decide +kernel
theorem dX7_grow_55 : decode cX7_grow 55 = .ok (.goto 5, 3) := by decide +kernel
theorem dX7_grow_58 : decode cX7_grow 58 = .ok (.bipush (-6), 2) := by decide +kernel
theorem dX7_grow_60 : decode cX7_grow 60 = .ok (.iastore, 1) := by decide +kernel
theorem dX7_grow_61 : decode cX7_grow 61 = .ok (.aload_n 0, 1) := by decide +kernel
theorem dX7_grow_62 : decode cX7_grow 62 = .ok (.getfield 62, 3) := by decide +kernel
theorem dX7_grow_65 : decode cX7_grow 65 = .ok (.iload 4, 2) := by decide +kernel
theorem dX7_grow_67 : decode cX7_grow 67 = .ok (.iload_n 2, 1) := by decide +kernel
theorem dX7_grow_68 : decode cX7_grow 68 = .ok (.iastore, 1) := by decide +kernel
theorem dX7_grow_69 : decode cX7_grow 69 = .ok (.aload_n 0, 1) := by decide +kernel
theorem dX7_grow_70 : decode cX7_grow 70 = .ok (.getfield 65, 3) := by decide +kernel
theorem dX7_grow_73 : decode cX7_grow 73 = .ok (.iload 4, 2) := by decide +kernel
theorem dX7_grow_75 : decode cX7_grow 75 = .ok (.iload_n 3, 1) := by decide +kernel
theorem dX7_grow_76 : decode cX7_grow 76 = .ok (.iastore, 1) := by decide +kernel
theorem dX7_grow_77 : decode cX7_grow 77 = .ok (.aload_n 0, 1) := by decide +kernel
theorem dX7_grow_78 : decode cX7_grow 78 = .ok (.getfield 50, 3) := by decide +kernel
theorem dX7_grow_81 : decode cX7_grow 81 = .ok (.iload_n 1, 1) := by decide +kernel
theorem dX7_grow_82 : decode cX7_grow 82 = .ok (.iaload, 1) := by decide +kernel
theorem dX7_grow_83 : decode cX7_grow 83 = .ok (.bipush (-6), 2) := by decide +kernel
theorem dX7_grow_85 : decode cX7_grow 85 = .ok (.if_icmp .eq 62, 3) := by decide +kernel
theorem dX7_grow_88 : decode cX7_grow 88 = .ok (.iconst 1, 1) := by decide +kernel
theorem dX7_grow_89 : decode cX7_grow 89 = .ok (.istore 5, 2) := by decide +kernel
theorem dX7_grow_91 : decode cX7_grow 91 = .ok (.iload 5, 2) := by decide +kernel
theorem dX7_grow_93 : decode cX7_grow 93 = .ok (.aload_n 0, 1) := by decide +kernel
theorem dX7_grow_94 : decode cX7_grow 94 = .ok (.getfield 15, 3) := by decide +kernel
theorem dX7_grow_97 : decode cX7_grow 97 = .ok (.aload_n 0, 1) := by decide +kernel
theorem dX7_grow_98 : decode cX7_grow 98 = .ok (.getfield 50, 3) := by decide +kernel
theorem dX7_grow_101 : decode cX7_grow 101 = .ok (.iload_n 1, 1) := by decide +kernel
theorem dX7_grow_102 : decode cX7_grow 102 = .ok (.iaload, 1) := by decide +kernel
theorem dX7_grow_103 : decode cX7_grow 103 = .ok (.iaload, 1) := by decide +kernel
theorem dX7_grow_104 : decode cX7_grow 104 = .ok (.if_icmp .gt 43, 3) := by decide +kernel
theorem dX7_grow_107 : decode cX7_grow 107 = .ok (.aload_n 0, 1) := by decide +kernel
theorem dX7_grow_108 : decode cX7_grow 108 = .ok (.iload_n 1, 1) := by decide +kernel
theorem dX7_grow_109 : decode cX7_grow 109 = .ok (.iload 5, 2) := by decide +kernel
theorem dX7_grow_111 : decode cX7_grow 111 = .ok (.aload_n 0, 1) := by decide +kernel
theorem dX7_grow_112 : decode cX7_grow 112 = .ok (.getfield 50, 3) := by decide +kernel
theorem dX7_grow_115 : decode cX7_grow 115 = .ok (.iload_n 1, 1) := by decide +kernel
theorem dX7_grow_116 : decode cX7_grow 116 = .ok (.iaload, 1) := by decide +kernel
theorem dX7_grow_117 : decode cX7_grow 117 = .ok (.invokestatic 183, 3) := by decide +kernel
theorem dX7_grow_120 : decode cX7_grow 120 = .ok (.imul, 1) := by decide +kernel
theorem dX7_grow_121 : decode cX7_grow 121 = .ok (.iadd, 1) := by decide +kernel
theorem dX7_grow_122 : decode cX7_grow 122 = .ok (.iload_n 2, 1) := by decide +kernel
theorem dX7_grow_123 : decode cX7_grow 123 = .ok (.iconst 1, 1) := by decide +kernel
theorem dX7_grow_124 : decode cX7_grow 124 = .ok (.iadd, 1) := by decide +kernel
theorem dX7_grow_125 : decode cX7_grow 125 = .ok (.iload_n 3, 1) := by decide +kernel
theorem dX7_grow_126 : decode cX7_grow 126 = .ok (.aload_n 0, 1) := by decide +kernel
theorem dX7_grow_127 : decode cX7_grow 127 = .ok (.getfield 22, 3) := by decide +kernel
theorem dX7_grow_130 : decode cX7_grow 130 = .ok (.aload_n 0, 1) := by decide +kernel
theorem dX7_grow_131 : decode cX7_grow 131 = .ok (.getfield 50, 3) := by decide +kernel
theorem dX7_grow_134 : decode cX7_grow 134 = .ok (.iload_n 1, 1) := by decide +kernel
theorem dX7_grow_135 : decode cX7_grow 135 = .ok (.iaload, 1) := by decide +kernel
theorem dX7_grow_136 : decode cX7_grow 136 = .ok (.iaload, 1) := by decide +kernel
theorem dX7_grow_137 : decode cX7_grow 137 = .ok (.iadd, 1) := by decide +kernel
theorem dX7_grow_138 : decode cX7_grow 138 = .ok (.invokevirtual 215, 3) := by decide +kernel
theorem dX7_grow_141 : decode cX7_grow 141 = .ok (.iinc 5 1, 3) := by decide +kernel
theorem dX7_grow_144 : decode cX7_grow 144 = .ok (.goto (-53), 3) := by decide +kernel
theorem dX7_grow_147 : decode cX7_grow 147 = .ok (.aload_n 0, 1) := by decide +kernel
theorem dX7_grow_148 : decode cX7_grow 148 = .ok (.getfield 59, 3) := by decide +kernel
theorem dX7_grow_151 : decode cX7_grow 151 = .ok (.iload 4, 2) := by decide +kernel
theorem dX7_grow_153 : decode cX7_grow 153 = .ok (.aload_n 0, 1) := by decide +kernel
theorem dX7_grow_154 : decode cX7_grow 154 = .ok (.getfield 212, 3) := by decide +kernel
theorem dX7_grow_157 : decode cX7_grow 157 = .ok (.iload 4, 2) := by decide +kernel
theorem dX7_grow_159 : decode cX7_grow 159 = .ok (.isub, 1) := by decide +kernel
theorem dX7_grow_160 : decode cX7_grow 160 = .ok (.iastore, 1) := by decide +kernel
theorem dX7_grow_161 : decode cX7_grow 161 = .ok (.return_, 1) := by decide +kernel
set_option maxRecDepth 20000 in
theorem ggX7_compile_X7_solve : GoodIn wsX7_compile wsX7_solve := goodIn_r _ [9, 10, 11, 12, 8, 13, 14, 15, 16, 17, 18, 19, 20, 21, 22, 23, 24, 25, 26, 2, 27, 28, 29, 30, 31, 32, 33, 34, 35, 36, 37, 38, 39, 40, 41, 42, 43, 44, 45, 46, 47, 48, 49, 50, 51, 52, 53, 54, 55, 56, 57, 58, 59, 60, 61, 62, 63, 64, 65, 66, 67, 68, 69, 70, 71, 72, 73, 74, 87, 88, 89, 90, 91, 92, 93, 94, 95, 96, 97, 98, 99, 100, 101, 102, 103, 104, 105, 106, 107, 108, 109, 110, 111, 112, 113, 114, 115, 116, 117, 118, 119, 120, 121, 122, 123] (by decide +kernel) (by decide +kernel)
set_option maxRecDepth 20000 in
theorem gX7_compile_X7_solve : GoodIn wsX7_compile (wsV RX7 219 RX7 yX7_solve wsX7_solve) := goodIn_app (goodIn_of _ (by decide +kernel)) ggX7_compile_X7_solve
set_option maxRecDepth 20000 in
theorem ggX7_compile_X7_grow : GoodIn wsX7_compile wsX7_grow := goodIn_r _ [78, 1, 79, 28, 80, 26, 81, 82, 15, 61, 83, 84, 85, 8, 86, 19, 20, 21, 75, 76, 77, 87, 88, 89, 90, 91, 92, 93, 94, 95, 96, 97, 98, 99, 100, 101, 102, 103, 104, 105, 106, 107, 108, 109, 110, 111, 112, 113, 114, 115, 116, 117, 118, 119, 120, 121, 122, 123] (by decide +kernel) (by decide +kernel)
set_option maxRecDepth 20000 in
theorem gX7_compile_X7_grow : GoodIn wsX7_compile (wsV RX7 215 RX7 yX7_grow wsX7_grow) := goodIn_app (goodIn_of _ (by decide +kernel)) ggX7_compile_X7_grow
theorem dX7_compile_0 : decode cX7_compile 0 = .ok (.aload_n 0, 1) := by decide +kernel
theorem dX7_compile_1 : decode cX7_compile 1 = .ok (.invokevirtual 219, 3) := by decide +kernel
theorem dX7_compile_4 : decode cX7_compile 4 = .ok (.aload_n 0, 1) := by decide +kernel
theorem dX7_compile_5 : decode cX7_compile 5 = .ok (.iconst 0, 1) := by decide +kernel
theorem dX7_compile_6 : decode cX7_compile 6 = .ok (.putfield 212, 3) := by decide +kernel
theorem dX7_compile_9 : decode cX7_compile 9 = .ok (.aload_n 0, 1) := by decide +kernel
theorem dX7_compile_10 : decode cX7_compile 10 = .ok (.iconst 0, 1) := by decide +kernel
theorem dX7_compile_11 : decode cX7_compile 11 = .ok (.iconst 0, 1) := by decide +kernel
theorem dX7_compile_12 : decode cX7_compile 12 = .ok (.iconst 0, 1) := by decide +kernel
theorem dX7_compile_13 : decode cX7_compile 13 = .ok (.invokevirtual 215, 3) := by decide +kernel
theorem dX7_compile_16 : decode cX7_compile 16 = .ok (.aload_n 0, 1) := by decide +kernel
theorem dX7_compile_17 : decode cX7_compile 17 = .ok (.aload_n 0, 1) := by decide +kernel
theorem dX7_compile_18 : decode cX7_compile 18 = .ok (.getfield 43, 3) := by decide +kernel
theorem dX7_compile_21 : decode cX7_compile 21 = .ok (.iconst 0, 1) := by decide +kernel
theorem dX7_compile_22 : decode cX7_compile 22 = .ok (.laload, 1) := by decide +kernel
theorem dX7_compile_23 : decode cX7_compile 23 = .ok (.putfield 222, 3) := by decide +kernel
theorem dX7_compile_26 : decode cX7_compile 26 = .ok (.aload_n 0, 1) := by decide +kernel
theorem dX7_compile_27 : decode cX7_compile 27 = .ok (.iconst 1, 1) := by decide +kernel
theorem dX7_compile_28 : decode cX7_compile 28 = .ok (.putfield 110, 3) := by decide +kernel
theorem dX7_compile_31 : decode cX7_compile 31 = .ok (.aload_n 0, 1) := by decide +kernel
theorem dX7_compile_32 : decode cX7_compile 32 = .ok (.getfield 212, 3) := by decide +kernel
theorem dX7_compile_35 : decode cX7_compile 35 = .ok (.ireturn, 1) := by decide +kernel
theorem dX7_expectedCost_0 : decode cX7_expectedCost 0 = .ok (.aload_n 0, 1) := by decide +kernel
theorem dX7_expectedCost_1 : decode cX7_expectedCost 1 = .ok (.getfield 110, 3) := by decide +kernel
theorem dX7_expectedCost_4 : decode cX7_expectedCost 4 = .ok (.ifCond .eq 10, 3) := by decide +kernel
theorem dX7_expectedCost_7 : decode cX7_expectedCost 7 = .ok (.aload_n 0, 1) := by decide +kernel
theorem dX7_expectedCost_8 : decode cX7_expectedCost 8 = .ok (.getfield 222, 3) := by decide +kernel
theorem dX7_expectedCost_11 : decode cX7_expectedCost 11 = .ok (.goto 6, 3) := by decide +kernel
theorem dX7_expectedCost_14 : decode cX7_expectedCost 14 = .ok (.ldc2_w 226, 3) := by decide +kernel
theorem dX7_expectedCost_17 : decode cX7_expectedCost 17 = .ok (.lreturn, 1) := by decide +kernel
theorem dX7_worstCost_0 : decode cX7_worstCost 0 = .ok (.iconst 0, 1) := by decide +kernel
theorem dX7_worstCost_1 : decode cX7_worstCost 1 = .ok (.istore_n 1, 1) := by decide +kernel
theorem dX7_worstCost_2 : decode cX7_worstCost 2 = .ok (.iconst 0, 1) := by decide +kernel
theorem dX7_worstCost_3 : decode cX7_worstCost 3 = .ok (.istore_n 2, 1) := by decide +kernel
theorem dX7_worstCost_4 : decode cX7_worstCost 4 = .ok (.iload_n 2, 1) := by decide +kernel
theorem dX7_worstCost_5 : decode cX7_worstCost 5 = .ok (.aload_n 0, 1) := by decide +kernel
theorem dX7_worstCost_6 : decode cX7_worstCost 6 = .ok (.getfield 212, 3) := by decide +kernel
theorem dX7_worstCost_9 : decode cX7_worstCost 9 = .ok (.if_icmp .ge 20, 3) := by decide +kernel
theorem dX7_worstCost_12 : decode cX7_worstCost 12 = .ok (.iload_n 1, 1) := by decide +kernel
theorem dX7_worstCost_13 : decode cX7_worstCost 13 = .ok (.aload_n 0, 1) := by decide +kernel
theorem dX7_worstCost_14 : decode cX7_worstCost 14 = .ok (.getfield 65, 3) := by decide +kernel
theorem dX7_worstCost_17 : decode cX7_worstCost 17 = .ok (.iload_n 2, 1) := by decide +kernel
theorem dX7_worstCost_18 : decode cX7_worstCost 18 = .ok (.iaload, 1) := by decide +kernel
theorem dX7_worstCost_19 : decode cX7_worstCost 19 = .ok (.invokestatic 228, 3) := by decide +kernel
theorem dX7_worstCost_22 : decode cX7_worstCost 22 = .ok (.istore_n 1, 1) := by decide +kernel
theorem dX7_worstCost_23 : decode cX7_worstCost 23 = .ok (.iinc 2 1, 3) := by decide +kernel
theorem dX7_worstCost_26 : decode cX7_worstCost 26 = .ok (.goto (-22), 3) := by decide +kernel
theorem dX7_worstCost_29 : decode cX7_worstCost 29 = .ok (.aload_n 0, 1) := by decide +kernel
theorem dX7_worstCost_30 : decode cX7_worstCost 30 = .ok (.getfield 110, 3) := by decide +kernel
theorem dX7_worstCost_33 : decode cX7_worstCost 33 = .ok (.ifCond .eq 7, 3) := by decide +kernel
theorem dX7_worstCost_36 : decode cX7_worstCost 36 = .ok (.iload_n 1, 1) := by decide +kernel
theorem dX7_worstCost_37 : decode cX7_worstCost 37 = .ok (.goto 5, 3) := by decide +kernel
theorem dX7_worstCost_40 : decode cX7_worstCost 40 = .ok (.bipush (-7), 2) := by decide +kernel
theorem dX7_worstCost_42 : decode cX7_worstCost 42 = .ok (.ireturn, 1) := by decide +kernel
set_option maxRecDepth 20000 in
theorem ggX7_isNode_X7_isIn : GoodIn wsX7_isNode wsX7_isIn := goodIn_r _ [5] (by decide +kernel) (by decide +kernel)
set_option maxRecDepth 20000 in
theorem gX7_isNode_X7_isIn : GoodIn wsX7_isNode (va_wsS RX7 95 yX7_isIn wsX7_isIn) := goodIn_app (goodIn_of _ (by decide +kernel)) ggX7_isNode_X7_isIn
theorem dX7_isNode_0 : decode cX7_isNode 0 = .ok (.iload_n 1, 1) := by decide +kernel
theorem dX7_isNode_1 : decode cX7_isNode 1 = .ok (.iconst 0, 1) := by decide +kernel
theorem dX7_isNode_2 : decode cX7_isNode 2 = .ok (.aload_n 0, 1) := by decide +kernel
theorem dX7_isNode_3 : decode cX7_isNode 3 = .ok (.getfield 212, 3) := by decide +kernel
theorem dX7_isNode_6 : decode cX7_isNode 6 = .ok (.iconst 1, 1) := by decide +kernel
theorem dX7_isNode_7 : decode cX7_isNode 7 = .ok (.isub, 1) := by decide +kernel
theorem dX7_isNode_8 : decode cX7_isNode 8 = .ok (.invokestatic 95, 3) := by decide +kernel
theorem dX7_isNode_11 : decode cX7_isNode 11 = .ok (.ireturn, 1) := by decide +kernel
set_option maxRecDepth 20000 in
theorem ggX7_node_X7_isNode : GoodIn wsX7_node wsX7_isNode := goodIn_r _ [10, 11, 12, 13, 9, 14, 15, 16, 17, 18, 19, 20, 21, 22, 23, 24, 25, 26, 27, 28, 29, 30, 31, 32, 33, 34, 35, 36, 37, 38, 39, 40, 41, 42, 43, 44, 45, 46, 47, 48, 49, 50, 51] (by decide +kernel) (by decide +kernel)
set_option maxRecDepth 20000 in
theorem gX7_node_X7_isNode : GoodIn wsX7_node (wsV RX7 233 RX7 yX7_isNode wsX7_isNode) := goodIn_app (goodIn_of _ (by decide +kernel)) ggX7_node_X7_isNode
theorem dX7_node_0 : decode cX7_node 0 = .ok (.aload_n 0, 1) := by decide +kernel
theorem dX7_node_1 : decode cX7_node 1 = .ok (.getfield 110, 3) := by decide +kernel
theorem dX7_node_4 : decode cX7_node 4 = .ok (.ifCond .ne 6, 3) := by decide +kernel
theorem dX7_node_7 : decode cX7_node 7 = .ok (.bipush (-7), 2) := by decide +kernel
theorem dX7_node_9 : decode cX7_node 9 = .ok (.ireturn, 1) := by decide +kernel
theorem dX7_node_10 : decode cX7_node 10 = .ok (.aload_n 0, 1) := by decide +kernel
theorem dX7_node_11 : decode cX7_node 11 = .ok (.iload_n 1, 1) := by decide +kernel
theorem dX7_node_12 : decode cX7_node 12 = .ok (.invokevirtual 233, 3) := by decide +kernel
theorem dX7_node_15 : decode cX7_node 15 = .ok (.ifCond .ne 5, 3) := by decide +kernel
theorem dX7_node_18 : decode cX7_node 18 = .ok (.iconst (-1), 1) := by decide +kernel
theorem dX7_node_19 : decode cX7_node 19 = .ok (.ireturn, 1) := by decide +kernel
theorem dX7_node_20 : decode cX7_node 20 = .ok (.iload_n 2, 1) := by decide +kernel
theorem dX7_node_21 : decode cX7_node 21 = .ok (.tableswitch 59 0 3 #[31, 38, 45, 52], 31) := by decide +kernel
theorem dX7_node_52 : decode cX7_node 52 = .ok (.aload_n 0, 1) := by decide +kernel
theorem dX7_node_53 : decode cX7_node 53 = .ok (.getfield 53, 3) := by decide +kernel
theorem dX7_node_56 : decode cX7_node 56 = .ok (.iload_n 1, 1) := by decide +kernel
theorem dX7_node_57 : decode cX7_node 57 = .ok (.iaload, 1) := by decide +kernel
theorem dX7_node_58 : decode cX7_node 58 = .ok (.ireturn, 1) := by decide +kernel
theorem dX7_node_59 : decode cX7_node 59 = .ok (.aload_n 0, 1) := by decide +kernel
theorem dX7_node_60 : decode cX7_node 60 = .ok (.getfield 56, 3) := by decide +kernel
theorem dX7_node_63 : decode cX7_node 63 = .ok (.iload_n 1, 1) := by decide +kernel
theorem dX7_node_64 : decode cX7_node 64 = .ok (.iaload, 1) := by decide +kernel
theorem dX7_node_65 : decode cX7_node 65 = .ok (.ireturn, 1) := by decide +kernel
theorem dX7_node_66 : decode cX7_node 66 = .ok (.aload_n 0, 1) := by decide +kernel
theorem dX7_node_67 : decode cX7_node 67 = .ok (.getfield 59, 3) := by decide +kernel
theorem dX7_node_70 : decode cX7_node 70 = .ok (.iload_n 1, 1) := by decide +kernel
theorem dX7_node_71 : decode cX7_node 71 = .ok (.iaload, 1) := by decide +kernel
theorem dX7_node_72 : decode cX7_node 72 = .ok (.ireturn, 1) := by decide +kernel
theorem dX7_node_73 : decode cX7_node 73 = .ok (.aload_n 0, 1) := by decide +kernel
theorem dX7_node_74 : decode cX7_node 74 = .ok (.getfield 62, 3) := by decide +kernel
theorem dX7_node_77 : decode cX7_node 77 = .ok (.iload_n 1, 1) := by decide +kernel
theorem dX7_node_78 : decode cX7_node 78 = .ok (.iaload, 1) := by decide +kernel
theorem dX7_node_79 : decode cX7_node 79 = .ok (.ireturn, 1) := by decide +kernel
theorem dX7_node_80 : decode cX7_node 80 = .ok (.iconst (-1), 1) := by decide +kernel
theorem dX7_node_81 : decode cX7_node 81 = .ok (.ireturn, 1) := by decide +kernel
theorem dX7_childOf_0 : decode cX7_childOf 0 = .ok (.iload_n 1, 1) := by decide +kernel
theorem dX7_childOf_1 : decode cX7_childOf 1 = .ok (.iconst 1, 1) := by decide +kernel
theorem dX7_childOf_2 : decode cX7_childOf 2 = .ok (.iadd, 1) := by decide +kernel
theorem dX7_childOf_3 : decode cX7_childOf 3 = .ok (.istore_n 3, 1) := by decide +kernel
theorem dX7_childOf_4 : decode cX7_childOf 4 = .ok (.iconst 0, 1) := by decide +kernel
theorem dX7_childOf_5 : decode cX7_childOf 5 = .ok (.istore 4, 2) := by decide +kernel
theorem dX7_childOf_7 : decode cX7_childOf 7 = .ok (.iload 4, 2) := by decide +kernel
theorem dX7_childOf_9 : decode cX7_childOf 9 = .ok (.iload_n 2, 1) := by decide +kernel
theorem dX7_childOf_10 : decode cX7_childOf 10 = .ok (.if_icmp .ge 18, 3) := by decide +kernel
theorem dX7_childOf_13 : decode cX7_childOf 13 = .ok (.iload_n 3, 1) := by decide +kernel
theorem dX7_childOf_14 : decode cX7_childOf 14 = .ok (.aload_n 0, 1) := by decide +kernel
theorem dX7_childOf_15 : decode cX7_childOf 15 = .ok (.getfield 59, 3) := by decide +kernel
theorem dX7_childOf_18 : decode cX7_childOf 18 = .ok (.iload_n 3, 1) := by decide +kernel
theorem dX7_childOf_19 : decode cX7_childOf 19 = .ok (.iaload, 1) := by decide +kernel
theorem dX7_childOf_20 : decode cX7_childOf 20 = .ok (.iadd, 1) := by decide +kernel
theorem dX7_childOf_21 : decode cX7_childOf 21 = .ok (.istore_n 3, 1) := by decide +kernel
theorem dX7_childOf_22 : decode cX7_childOf 22 = .ok (.iinc 4 1, 3) := by decide +kernel
theorem dX7_childOf_25 : decode cX7_childOf 25 = .ok (.goto (-18), 3) := by decide +kernel
theorem dX7_childOf_28 : decode cX7_childOf 28 = .ok (.iload_n 3, 1) := by decide +kernel
theorem dX7_childOf_29 : decode cX7_childOf 29 = .ok (.ireturn, 1) := by decide +kernel
set_option maxRecDepth 20000 in
theorem ggX7_child_X7_isNode : GoodIn wsX7_child wsX7_isNode := goodIn_r _ [8, 9, 10, 11, 7, 12, 18, 19, 20, 21, 22, 23, 24, 25, 26, 27, 28, 29, 30, 31, 32, 33, 34, 35, 36, 37, 38, 39, 40, 41, 42, 43, 44, 45, 46, 47, 48, 49, 50, 51, 52, 53, 54] (by decide +kernel) (by decide +kernel)
set_option maxRecDepth 20000 in
theorem gX7_child_X7_isNode : GoodIn wsX7_child (wsV RX7 233 RX7 yX7_isNode wsX7_isNode) := goodIn_app (goodIn_of _ (by decide +kernel)) ggX7_child_X7_isNode
set_option maxRecDepth 20000 in
theorem ggX7_child_X7_isIn : GoodIn wsX7_child wsX7_isIn := goodIn_r _ [12] (by decide +kernel) (by decide +kernel)
set_option maxRecDepth 20000 in
theorem gX7_child_X7_isIn : GoodIn wsX7_child (va_wsS RX7 95 yX7_isIn wsX7_isIn) := goodIn_app (goodIn_of _ (by decide +kernel)) ggX7_child_X7_isIn
set_option maxRecDepth 20000 in
theorem ggX7_child_X7_childOf : GoodIn wsX7_child wsX7_childOf := goodIn_r _ [16, 17, 18, 19, 20, 21, 22, 23, 24, 25, 26, 27, 28, 29, 30, 31, 32, 33, 34, 35, 36, 37, 38, 39, 40, 41, 42, 43, 44, 45, 46, 47, 48, 49, 50, 51, 52, 53, 54] (by decide +kernel) (by decide +kernel)
set_option maxRecDepth 20000 in
theorem gX7_child_X7_childOf : GoodIn wsX7_child (wsV RX7 236 RX7 yX7_childOf wsX7_childOf) := goodIn_app (goodIn_of _ (by decide +kernel)) ggX7_child_X7_childOf
theorem dX7_child_0 : decode cX7_child 0 = .ok (.aload_n 0, 1) := by decide +kernel
theorem dX7_child_1 : decode cX7_child 1 = .ok (.getfield 110, 3) := by decide +kernel
theorem dX7_child_4 : decode cX7_child 4 = .ok (.ifCond .ne 6, 3) := by decide +kernel
theorem dX7_child_7 : decode cX7_child 7 = .ok (.bipush (-7), 2) := by decide +kernel
theorem dX7_child_9 : decode cX7_child 9 = .ok (.ireturn, 1) := by decide +kernel
theorem dX7_child_10 : decode cX7_child 10 = .ok (.aload_n 0, 1) := by decide +kernel
theorem dX7_child_11 : decode cX7_child 11 = .ok (.iload_n 1, 1) := by decide +kernel
theorem dX7_child_12 : decode cX7_child 12 = .ok (.invokevirtual 233, 3) := by decide +kernel
theorem dX7_child_15 : decode cX7_child 15 = .ok (.ifCond .ne 5, 3) := by decide +kernel
theorem dX7_child_18 : decode cX7_child 18 = .ok (.iconst (-1), 1) := by decide +kernel
theorem dX7_child_19 : decode cX7_child 19 = .ok (.ireturn, 1) := by decide +kernel
theorem dX7_child_20 : decode cX7_child 20 = .ok (.aload_n 0, 1) := by decide +kernel
theorem dX7_child_21 : decode cX7_child 21 = .ok (.getfield 53, 3) := by decide +kernel
theorem dX7_child_24 : decode cX7_child 24 = .ok (.iload_n 1, 1) := by decide +kernel
theorem dX7_child_25 : decode cX7_child 25 = .ok (.iaload, 1) := by decide +kernel
theorem dX7_child_26 : decode cX7_child 26 = .ok (.bipush (-6), 2) := by decide +kernel
theorem dX7_child_28 : decode cX7_child 28 = .ok (.if_icmp .eq 24, 3) := by decide +kernel
theorem dX7_child_31 : decode cX7_child 31 = .ok (.iload_n 2, 1) := by decide +kernel
theorem dX7_child_32 : decode cX7_child 32 = .ok (.iconst 0, 1) := by decide +kernel
theorem dX7_child_33 : decode cX7_child 33 = .ok (.aload_n 0, 1) := by decide +kernel
theorem dX7_child_34 : decode cX7_child 34 = .ok (.getfield 15, 3) := by decide +kernel
theorem dX7_child_37 : decode cX7_child 37 = .ok (.aload_n 0, 1) := by decide +kernel
theorem dX7_child_38 : decode cX7_child 38 = .ok (.getfield 53, 3) := by decide +kernel
theorem dX7_child_41 : decode cX7_child 41 = .ok (.iload_n 1, 1) := by decide +kernel
theorem dX7_child_42 : decode cX7_child 42 = .ok (.iaload, 1) := by decide +kernel
theorem dX7_child_43 : decode cX7_child 43 = .ok (.iaload, 1) := by decide +kernel
theorem dX7_child_44 : decode cX7_child 44 = .ok (.iconst 1, 1) := by decide +kernel
theorem dX7_child_45 : decode cX7_child 45 = .ok (.isub, 1) := by decide +kernel
theorem dX7_child_46 : decode cX7_child 46 = .ok (.invokestatic 95, 3) := by decide +kernel
theorem dX7_child_49 : decode cX7_child 49 = .ok (.ifCond .ne 8, 3) := by decide +kernel
theorem dX7_child_52 : decode cX7_child 52 = .ok (.bipush (-6), 2) := by decide +kernel
theorem dX7_child_54 : decode cX7_child 54 = .ok (.goto 9, 3) := by decide +kernel
theorem dX7_child_57 : decode cX7_child 57 = .ok (.aload_n 0, 1) := by decide +kernel
theorem dX7_child_58 : decode cX7_child 58 = .ok (.iload_n 1, 1) := by decide +kernel
theorem dX7_child_59 : decode cX7_child 59 = .ok (.iload_n 2, 1) := by decide +kernel
theorem dX7_child_60 : decode cX7_child 60 = .ok (.invokevirtual 236, 3) := by decide +kernel
theorem dX7_child_63 : decode cX7_child 63 = .ok (.ireturn, 1) := by decide +kernel
set_option maxRecDepth 20000 in
theorem ggX7_leafOf_X7_isCase : GoodIn wsX7_leafOf wsX7_isCase := goodIn_r _ [7, 8, 9, 10, 6, 11, 12, 13, 14, 15, 16, 26, 27, 28, 29, 30, 31, 32, 33, 34, 35, 36, 37, 38, 39, 40, 41, 42, 43, 44, 45, 46, 47, 48, 49, 50, 51, 52, 53, 54, 55, 56, 57, 58, 59, 60, 61, 62] (by decide +kernel) (by decide +kernel)
set_option maxRecDepth 20000 in
theorem gX7_leafOf_X7_isCase : GoodIn wsX7_leafOf (wsV RX7 114 RX7 yX7_isCase wsX7_isCase) := goodIn_app (goodIn_of _ (by decide +kernel)) ggX7_leafOf_X7_isCase
set_option maxRecDepth 20000 in
theorem ggX7_leafOf_X7_valueOf : GoodIn wsX7_leafOf wsX7_valueOf := goodIn_r _ [20, 12, 13, 26, 27, 28, 29, 30, 31, 32, 33, 34, 35, 36, 37, 38, 39, 40, 41, 42, 43, 44, 45, 46, 47, 48, 49, 50, 51, 52, 53, 54, 55, 56, 57, 58, 59, 60, 61, 62] (by decide +kernel) (by decide +kernel)
set_option maxRecDepth 20000 in
theorem gX7_leafOf_X7_valueOf : GoodIn wsX7_leafOf (wsV RX7 120 RX7 yX7_valueOf wsX7_valueOf) := goodIn_app (goodIn_of _ (by decide +kernel)) ggX7_leafOf_X7_valueOf
set_option maxRecDepth 20000 in
theorem ggX7_leafOf_X7_childOf : GoodIn wsX7_leafOf wsX7_childOf := goodIn_r _ [24, 25, 26, 27, 28, 29, 30, 31, 32, 33, 34, 35, 36, 37, 38, 39, 40, 41, 42, 43, 44, 45, 46, 47, 48, 49, 50, 51, 52, 53, 54, 55, 56, 57, 58, 59, 60, 61, 62] (by decide +kernel) (by decide +kernel)
set_option maxRecDepth 20000 in
theorem gX7_leafOf_X7_childOf : GoodIn wsX7_leafOf (wsV RX7 236 RX7 yX7_childOf wsX7_childOf) := goodIn_app (goodIn_of _ (by decide +kernel)) ggX7_leafOf_X7_childOf
theorem dX7_leafOf_0 : decode cX7_leafOf 0 = .ok (.aload_n 0, 1) := by decide +kernel
theorem dX7_leafOf_1 : decode cX7_leafOf 1 = .ok (.getfield 110, 3) := by decide +kernel
theorem dX7_leafOf_4 : decode cX7_leafOf 4 = .ok (.ifCond .ne 6, 3) := by decide +kernel
theorem dX7_leafOf_7 : decode cX7_leafOf 7 = .ok (.bipush (-7), 2) := by decide +kernel
theorem dX7_leafOf_9 : decode cX7_leafOf 9 = .ok (.ireturn, 1) := by decide +kernel
theorem dX7_leafOf_10 : decode cX7_leafOf 10 = .ok (.aload_n 0, 1) := by decide +kernel
theorem dX7_leafOf_11 : decode cX7_leafOf 11 = .ok (.iload_n 1, 1) := by decide +kernel
theorem dX7_leafOf_12 : decode cX7_leafOf 12 = .ok (.invokevirtual 114, 3) := by decide +kernel
theorem dX7_leafOf_15 : decode cX7_leafOf 15 = .ok (.ifCond .ne 6, 3) := by decide +kernel
theorem dX7_leafOf_18 : decode cX7_leafOf 18 = .ok (.bipush (-5), 2) := by decide +kernel
theorem dX7_leafOf_20 : decode cX7_leafOf 20 = .ok (.ireturn, 1) := by decide +kernel
theorem dX7_leafOf_21 : decode cX7_leafOf 21 = .ok (.iconst 0, 1) := by decide +kernel
theorem dX7_leafOf_22 : decode cX7_leafOf 22 = .ok (.istore_n 2, 1) := by decide +kernel
theorem dX7_leafOf_23 : decode cX7_leafOf 23 = .ok (.aload_n 0, 1) := by decide +kernel
theorem dX7_leafOf_24 : decode cX7_leafOf 24 = .ok (.getfield 53, 3) := by decide +kernel
theorem dX7_leafOf_27 : decode cX7_leafOf 27 = .ok (.iload_n 2, 1) := by decide +kernel
theorem dX7_leafOf_28 : decode cX7_leafOf 28 = .ok (.iaload, 1) := by decide +kernel
theorem dX7_leafOf_29 : decode cX7_leafOf 29 = .ok (.bipush (-6), 2) := by decide +kernel
theorem dX7_leafOf_31 : decode cX7_leafOf 31 = .ok (.if_icmp .eq 23, 3) := by decide +kernel
theorem dX7_leafOf_34 : decode cX7_leafOf 34 = .ok (.aload_n 0, 1) := by decide +kernel
theorem dX7_leafOf_35 : decode cX7_leafOf 35 = .ok (.iload_n 2, 1) := by decide +kernel
theorem dX7_leafOf_36 : decode cX7_leafOf 36 = .ok (.aload_n 0, 1) := by decide +kernel
theorem dX7_leafOf_37 : decode cX7_leafOf 37 = .ok (.iload_n 1, 1) := by decide +kernel
theorem dX7_leafOf_38 : decode cX7_leafOf 38 = .ok (.aload_n 0, 1) := by decide +kernel
theorem dX7_leafOf_39 : decode cX7_leafOf 39 = .ok (.getfield 53, 3) := by decide +kernel
theorem dX7_leafOf_42 : decode cX7_leafOf 42 = .ok (.iload_n 2, 1) := by decide +kernel
theorem dX7_leafOf_43 : decode cX7_leafOf 43 = .ok (.iaload, 1) := by decide +kernel
theorem dX7_leafOf_44 : decode cX7_leafOf 44 = .ok (.invokevirtual 120, 3) := by decide +kernel
theorem dX7_leafOf_47 : decode cX7_leafOf 47 = .ok (.invokevirtual 236, 3) := by decide +kernel
theorem dX7_leafOf_50 : decode cX7_leafOf 50 = .ok (.istore_n 2, 1) := by decide +kernel
theorem dX7_leafOf_51 : decode cX7_leafOf 51 = .ok (.goto (-28), 3) := by decide +kernel
theorem dX7_leafOf_54 : decode cX7_leafOf 54 = .ok (.iload_n 2, 1) := by decide +kernel
theorem dX7_leafOf_55 : decode cX7_leafOf 55 = .ok (.ireturn, 1) := by decide +kernel
theorem dX7_areAlike_0 : decode cX7_areAlike 0 = .ok (.aload_n 0, 1) := by decide +kernel
theorem dX7_areAlike_1 : decode cX7_areAlike 1 = .ok (.getfield 59, 3) := by decide +kernel
theorem dX7_areAlike_4 : decode cX7_areAlike 4 = .ok (.iload_n 1, 1) := by decide +kernel
theorem dX7_areAlike_5 : decode cX7_areAlike 5 = .ok (.iaload, 1) := by decide +kernel
theorem dX7_areAlike_6 : decode cX7_areAlike 6 = .ok (.aload_n 0, 1) := by decide +kernel
theorem dX7_areAlike_7 : decode cX7_areAlike 7 = .ok (.getfield 59, 3) := by decide +kernel
theorem dX7_areAlike_10 : decode cX7_areAlike 10 = .ok (.iload_n 2, 1) := by decide +kernel
theorem dX7_areAlike_11 : decode cX7_areAlike 11 = .ok (.iaload, 1) := by decide +kernel
theorem dX7_areAlike_12 : decode cX7_areAlike 12 = .ok (.if_icmp .eq 5, 3) := by decide +kernel
theorem dX7_areAlike_15 : decode cX7_areAlike 15 = .ok (.iconst 0, 1) := by decide +kernel
theorem dX7_areAlike_16 : decode cX7_areAlike 16 = .ok (.ireturn, 1) := by decide +kernel
theorem dX7_areAlike_17 : decode cX7_areAlike 17 = .ok (.iconst 0, 1) := by decide +kernel
theorem dX7_areAlike_18 : decode cX7_areAlike 18 = .ok (.istore_n 3, 1) := by decide +kernel
theorem dX7_areAlike_19 : decode cX7_areAlike 19 = .ok (.iload_n 3, 1) := by decide +kernel
theorem dX7_areAlike_20 : decode cX7_areAlike 20 = .ok (.aload_n 0, 1) := by decide +kernel
theorem dX7_areAlike_21 : decode cX7_areAlike 21 = .ok (.getfield 59, 3) := by decide +kernel
theorem dX7_areAlike_24 : decode cX7_areAlike 24 = .ok (.iload_n 1, 1) := by decide +kernel
theorem dX7_areAlike_25 : decode cX7_areAlike 25 = .ok (.iaload, 1) := by decide +kernel
theorem dX7_areAlike_26 : decode cX7_areAlike 26 = .ok (.if_icmp .ge 49, 3) := by decide +kernel
theorem dX7_areAlike_29 : decode cX7_areAlike 29 = .ok (.aload_n 0, 1) := by decide +kernel
theorem dX7_areAlike_30 : decode cX7_areAlike 30 = .ok (.getfield 53, 3) := by decide +kernel
theorem dX7_areAlike_33 : decode cX7_areAlike 33 = .ok (.iload_n 1, 1) := by decide +kernel
theorem dX7_areAlike_34 : decode cX7_areAlike 34 = .ok (.iload_n 3, 1) := by decide +kernel
theorem dX7_areAlike_35 : decode cX7_areAlike 35 = .ok (.iadd, 1) := by decide +kernel
theorem dX7_areAlike_36 : decode cX7_areAlike 36 = .ok (.iaload, 1) := by decide +kernel
theorem dX7_areAlike_37 : decode cX7_areAlike 37 = .ok (.aload_n 0, 1) := by decide +kernel
theorem dX7_areAlike_38 : decode cX7_areAlike 38 = .ok (.getfield 53, 3) := by decide +kernel
theorem dX7_areAlike_41 : decode cX7_areAlike 41 = .ok (.iload_n 2, 1) := by decide +kernel
theorem dX7_areAlike_42 : decode cX7_areAlike 42 = .ok (.iload_n 3, 1) := by decide +kernel
theorem dX7_areAlike_43 : decode cX7_areAlike 43 = .ok (.iadd, 1) := by decide +kernel
theorem dX7_areAlike_44 : decode cX7_areAlike 44 = .ok (.iaload, 1) := by decide +kernel
theorem dX7_areAlike_45 : decode cX7_areAlike 45 = .ok (.if_icmp .ne 22, 3) := by decide +kernel
theorem dX7_areAlike_48 : decode cX7_areAlike 48 = .ok (.aload_n 0, 1) := by decide +kernel
theorem dX7_areAlike_49 : decode cX7_areAlike 49 = .ok (.getfield 56, 3) := by decide +kernel
theorem dX7_areAlike_52 : decode cX7_areAlike 52 = .ok (.iload_n 1, 1) := by decide +kernel
theorem dX7_areAlike_53 : decode cX7_areAlike 53 = .ok (.iload_n 3, 1) := by decide +kernel
theorem dX7_areAlike_54 : decode cX7_areAlike 54 = .ok (.iadd, 1) := by decide +kernel
theorem dX7_areAlike_55 : decode cX7_areAlike 55 = .ok (.iaload, 1) := by decide +kernel
theorem dX7_areAlike_56 : decode cX7_areAlike 56 = .ok (.aload_n 0, 1) := by decide +kernel
theorem dX7_areAlike_57 : decode cX7_areAlike 57 = .ok (.getfield 56, 3) := by decide +kernel
theorem dX7_areAlike_60 : decode cX7_areAlike 60 = .ok (.iload_n 2, 1) := by decide +kernel
theorem dX7_areAlike_61 : decode cX7_areAlike 61 = .ok (.iload_n 3, 1) := by decide +kernel
theorem dX7_areAlike_62 : decode cX7_areAlike 62 = .ok (.iadd, 1) := by decide +kernel
theorem dX7_areAlike_63 : decode cX7_areAlike 63 = .ok (.iaload, 1) := by decide +kernel
theorem dX7_areAlike_64 : decode cX7_areAlike 64 = .ok (.if_icmp .eq 5, 3) := by decide +kernel
theorem dX7_areAlike_67 : decode cX7_areAlike 67 = .ok (.iconst 0, 1) := by decide +kernel
theorem dX7_areAlike_68 : decode cX7_areAlike 68 = .ok (.ireturn, 1) := by decide +kernel
theorem dX7_areAlike_69 : decode cX7_areAlike 69 = .ok (.iinc 3 1, 3) := by decide +kernel
theorem dX7_areAlike_72 : decode cX7_areAlike 72 = .ok (.goto (-53), 3) := by decide +kernel
theorem dX7_areAlike_75 : decode cX7_areAlike 75 = .ok (.iconst 1, 1) := by decide +kernel
theorem dX7_areAlike_76 : decode cX7_areAlike 76 = .ok (.ireturn, 1) := by decide +kernel
set_option maxRecDepth 20000 in
theorem ggX7_firstAlike_X7_areAlike : GoodIn wsX7_firstAlike wsX7_areAlike := goodIn_r _ [5, 6, 7, 8, 9, 10, 11, 12, 13, 14, 15, 16, 17, 18, 19, 20, 21, 22, 23, 24, 25, 26, 27, 28, 29, 30, 31, 32, 33, 34, 35, 36, 37, 38, 39, 40, 41, 42, 43, 44, 45] (by decide +kernel) (by decide +kernel)
set_option maxRecDepth 20000 in
theorem gX7_firstAlike_X7_areAlike : GoodIn wsX7_firstAlike (wsV RX7 239 RX7 yX7_areAlike wsX7_areAlike) := goodIn_app (goodIn_of _ (by decide +kernel)) ggX7_firstAlike_X7_areAlike
theorem dX7_firstAlike_0 : decode cX7_firstAlike 0 = .ok (.iconst 0, 1) := by decide +kernel
theorem dX7_firstAlike_1 : decode cX7_firstAlike 1 = .ok (.istore_n 2, 1) := by decide +kernel
theorem dX7_firstAlike_2 : decode cX7_firstAlike 2 = .ok (.aload_n 0, 1) := by decide +kernel
theorem dX7_firstAlike_3 : decode cX7_firstAlike 3 = .ok (.iload_n 2, 1) := by decide +kernel
theorem dX7_firstAlike_4 : decode cX7_firstAlike 4 = .ok (.iload_n 1, 1) := by decide +kernel
theorem dX7_firstAlike_5 : decode cX7_firstAlike 5 = .ok (.invokevirtual 239, 3) := by decide +kernel
theorem dX7_firstAlike_8 : decode cX7_firstAlike 8 = .ok (.ifCond .ne 9, 3) := by decide +kernel
theorem dX7_firstAlike_11 : decode cX7_firstAlike 11 = .ok (.iinc 2 1, 3) := by decide +kernel
theorem dX7_firstAlike_14 : decode cX7_firstAlike 14 = .ok (.goto (-12), 3) := by decide +kernel
theorem dX7_firstAlike_17 : decode cX7_firstAlike 17 = .ok (.iload_n 2, 1) := by decide +kernel
theorem dX7_firstAlike_18 : decode cX7_firstAlike 18 = .ok (.ireturn, 1) := by decide +kernel
set_option maxRecDepth 20000 in
theorem ggX7_sharedNodeCount_X7_firstAlike : GoodIn wsX7_sharedNodeCount wsX7_firstAlike := goodIn_r _ [7, 8, 9, 10, 6, 11, 12, 13, 14, 15, 16, 17, 18, 19, 20, 21, 22, 23, 24, 25, 26, 27, 28, 29, 30, 31, 32, 33, 34, 35, 36, 37, 38, 39, 40, 41, 42, 43, 44, 45, 46, 47, 48, 49, 50, 51] (by decide +kernel) (by decide +kernel)
set_option maxRecDepth 20000 in
theorem gX7_sharedNodeCount_X7_firstAlike : GoodIn wsX7_sharedNodeCount (wsV RX7 242 RX7 yX7_firstAlike wsX7_firstAlike) := goodIn_app (goodIn_of _ (by decide +kernel)) ggX7_sharedNodeCount_X7_firstAlike
theorem dX7_sharedNodeCount_0 : decode cX7_sharedNodeCount 0 = .ok (.aload_n 0, 1) := by decide +kernel
theorem dX7_sharedNodeCount_1 : decode cX7_sharedNodeCount 1 = .ok (.getfield 110, 3) := by decide +kernel
theorem dX7_sharedNodeCount_4 : decode cX7_sharedNodeCount 4 = .ok (.ifCond .ne 6, 3) := by decide +kernel
theorem dX7_sharedNodeCount_7 : decode cX7_sharedNodeCount 7 = .ok (.bipush (-7), 2) := by decide +kernel
theorem dX7_sharedNodeCount_9 : decode cX7_sharedNodeCount 9 = .ok (.ireturn, 1) := by decide +kernel
theorem dX7_sharedNodeCount_10 : decode cX7_sharedNodeCount 10 = .ok (.iconst 0, 1) := by decide +kernel
theorem dX7_sharedNodeCount_11 : decode cX7_sharedNodeCount 11 = .ok (.istore_n 1, 1) := by decide +kernel
theorem dX7_sharedNodeCount_12 : decode cX7_sharedNodeCount 12 = .ok (.iconst 0, 1) := by decide +kernel
theorem dX7_sharedNodeCount_13 : decode cX7_sharedNodeCount 13 = .ok (.istore_n 2, 1) := by decide +kernel
theorem dX7_sharedNodeCount_14 : decode cX7_sharedNodeCount 14 = .ok (.iload_n 2, 1) := by decide +kernel
theorem dX7_sharedNodeCount_15 : decode cX7_sharedNodeCount 15 = .ok (.aload_n 0, 1) := by decide +kernel
theorem dX7_sharedNodeCount_16 : decode cX7_sharedNodeCount 16 = .ok (.getfield 212, 3) := by decide +kernel
theorem dX7_sharedNodeCount_19 : decode cX7_sharedNodeCount 19 = .ok (.if_icmp .ge 26, 3) := by decide +kernel
theorem dX7_sharedNodeCount_22 : decode cX7_sharedNodeCount 22 = .ok (.iload_n 1, 1) := by decide +kernel
theorem dX7_sharedNodeCount_23 : decode cX7_sharedNodeCount 23 = .ok (.aload_n 0, 1) := by decide +kernel
theorem dX7_sharedNodeCount_24 : decode cX7_sharedNodeCount 24 = .ok (.iload_n 2, 1) := by decide +kernel
theorem dX7_sharedNodeCount_25 : decode cX7_sharedNodeCount 25 = .ok (.invokevirtual 242, 3) := by decide +kernel
theorem dX7_sharedNodeCount_28 : decode cX7_sharedNodeCount 28 = .ok (.iload_n 2, 1) := by decide +kernel
theorem dX7_sharedNodeCount_29 : decode cX7_sharedNodeCount 29 = .ok (.if_icmp .ne 7, 3) := by decide +kernel
theorem dX7_sharedNodeCount_32 : decode cX7_sharedNodeCount 32 = .ok (.iconst 1, 1) := by decide +kernel
theorem dX7_sharedNodeCount_33 : decode cX7_sharedNodeCount 33 = .ok (.goto 4, 3) := by decide +kernel
theorem dX7_sharedNodeCount_36 : decode cX7_sharedNodeCount 36 = .ok (.iconst 0, 1) := by decide +kernel
theorem dX7_sharedNodeCount_37 : decode cX7_sharedNodeCount 37 = .ok (.iadd, 1) := by decide +kernel
theorem dX7_sharedNodeCount_38 : decode cX7_sharedNodeCount 38 = .ok (.istore_n 1, 1) := by decide +kernel
theorem dX7_sharedNodeCount_39 : decode cX7_sharedNodeCount 39 = .ok (.iinc 2 1, 3) := by decide +kernel
theorem dX7_sharedNodeCount_42 : decode cX7_sharedNodeCount 42 = .ok (.goto (-28), 3) := by decide +kernel
theorem dX7_sharedNodeCount_45 : decode cX7_sharedNodeCount 45 = .ok (.iload_n 1, 1) := by decide +kernel
theorem dX7_sharedNodeCount_46 : decode cX7_sharedNodeCount 46 = .ok (.ireturn, 1) := by decide +kernel
set_option maxRecDepth 20000 in
theorem ggX7_sharedNode_X7_isNode : GoodIn wsX7_sharedNode wsX7_isNode := goodIn_r _ [6, 7, 8, 9, 5, 10, 22, 23, 24, 25, 26, 27, 28, 29, 30, 31, 32, 33, 34, 35, 36, 37, 38, 39, 40, 41, 42, 43, 44, 45, 46, 47, 48, 49, 50, 51, 52, 53, 54, 55, 56, 57, 58] (by decide +kernel) (by decide +kernel)
set_option maxRecDepth 20000 in
theorem gX7_sharedNode_X7_isNode : GoodIn wsX7_sharedNode (wsV RX7 233 RX7 yX7_isNode wsX7_isNode) := goodIn_app (goodIn_of _ (by decide +kernel)) ggX7_sharedNode_X7_isNode
set_option maxRecDepth 20000 in
theorem ggX7_sharedNode_X7_firstAlike : GoodIn wsX7_sharedNode wsX7_firstAlike := goodIn_r _ [14, 15, 16, 17, 5, 18, 19, 20, 21, 22, 23, 24, 25, 26, 27, 28, 29, 30, 31, 32, 33, 34, 35, 36, 37, 38, 39, 40, 41, 42, 43, 44, 45, 46, 47, 48, 49, 50, 51, 52, 53, 54, 55, 56, 57, 58] (by decide +kernel) (by decide +kernel)
set_option maxRecDepth 20000 in
theorem gX7_sharedNode_X7_firstAlike : GoodIn wsX7_sharedNode (wsV RX7 242 RX7 yX7_firstAlike wsX7_firstAlike) := goodIn_app (goodIn_of _ (by decide +kernel)) ggX7_sharedNode_X7_firstAlike
theorem dX7_sharedNode_0 : decode cX7_sharedNode 0 = .ok (.aload_n 0, 1) := by decide +kernel
theorem dX7_sharedNode_1 : decode cX7_sharedNode 1 = .ok (.getfield 110, 3) := by decide +kernel
theorem dX7_sharedNode_4 : decode cX7_sharedNode 4 = .ok (.ifCond .ne 8, 3) := by decide +kernel
theorem dX7_sharedNode_7 : decode cX7_sharedNode 7 = .ok (.bipush (-7), 2) := by decide +kernel
theorem dX7_sharedNode_9 : decode cX7_sharedNode 9 = .ok (.goto 20, 3) := by decide +kernel
theorem dX7_sharedNode_12 : decode cX7_sharedNode 12 = .ok (.aload_n 0, 1) := by decide +kernel
theorem dX7_sharedNode_13 : decode cX7_sharedNode 13 = .ok (.iload_n 1, 1) := by decide +kernel
theorem dX7_sharedNode_14 : decode cX7_sharedNode 14 = .ok (.invokevirtual 233, 3) := by decide +kernel
theorem dX7_sharedNode_17 : decode cX7_sharedNode 17 = .ok (.ifCond .ne 7, 3) := by decide +kernel
theorem dX7_sharedNode_20 : decode cX7_sharedNode 20 = .ok (.iconst (-1), 1) := by decide +kernel
theorem dX7_sharedNode_21 : decode cX7_sharedNode 21 = .ok (.goto 8, 3) := by decide +kernel
theorem dX7_sharedNode_24 : decode cX7_sharedNode 24 = .ok (.aload_n 0, 1) := by decide +kernel
theorem dX7_sharedNode_25 : decode cX7_sharedNode 25 = .ok (.iload_n 1, 1) := by decide +kernel
theorem dX7_sharedNode_26 : decode cX7_sharedNode 26 = .ok (.invokevirtual 242, 3) := by decide +kernel
theorem dX7_sharedNode_29 : decode cX7_sharedNode 29 = .ok (.ireturn, 1) := by decide +kernel
set_option maxRecDepth 20000 in
theorem ggX7_costWithRoot_X7_isCondition : GoodIn wsX7_costWithRoot wsX7_isCondition := goodIn_r _ [6, 7, 8, 9, 5, 10, 80, 81, 82, 83, 84, 85, 86, 87, 88, 89, 90, 91, 92, 93, 94, 95, 96, 97, 98, 99, 100, 101, 102, 103, 104, 105, 106, 107, 108, 109, 110, 111, 112, 113, 114, 115, 116] (by decide +kernel) (by decide +kernel)
set_option maxRecDepth 20000 in
theorem gX7_costWithRoot_X7_isCondition : GoodIn wsX7_costWithRoot (wsV RX7 117 RX7 yX7_isCondition wsX7_isCondition) := goodIn_app (goodIn_of _ (by decide +kernel)) ggX7_costWithRoot_X7_isCondition
set_option maxRecDepth 20000 in
theorem ggX7_costWithRoot_X7_solve : GoodIn wsX7_costWithRoot wsX7_solve := goodIn_r _ [14, 15, 16, 17, 5, 18, 7, 19, 20, 21, 22, 23, 24, 25, 26, 27, 28, 29, 30, 31, 32, 33, 34, 35, 36, 37, 38, 39, 40, 41, 42, 43, 44, 45, 46, 47, 48, 49, 50, 51, 52, 53, 54, 55, 56, 57, 58, 59, 60, 61, 62, 63, 64, 65, 66, 67, 68, 69, 70, 71, 72, 73, 74, 75, 76, 77, 78, 79, 80, 81, 82, 83, 84, 85, 86, 87, 88, 89, 90, 91, 92, 93, 94, 95, 96, 97, 98, 99, 100, 101, 102, 103, 104, 105, 106, 107, 108, 109, 110, 111, 112, 113, 114, 115, 116] (by decide +kernel) (by decide +kernel)
set_option maxRecDepth 20000 in
theorem gX7_costWithRoot_X7_solve : GoodIn wsX7_costWithRoot (wsV RX7 219 RX7 yX7_solve wsX7_solve) := goodIn_app (goodIn_of _ (by decide +kernel)) ggX7_costWithRoot_X7_solve
set_option maxRecDepth 20000 in
theorem ggX7_costWithRoot_X7_costBy : GoodIn wsX7_costWithRoot wsX7_costBy := goodIn_r _ [65, 66, 19, 31, 67, 68, 69, 5, 70, 7, 71, 20, 21, 22, 23, 24, 25, 72, 73, 74, 75, 80, 81, 82, 83, 84, 85, 86, 87, 88, 89, 90, 91, 92, 93, 94, 95, 96, 97, 98, 99, 100, 101, 102, 103, 104, 105, 106, 107, 108, 109, 110, 111, 112, 113, 114, 115, 116] (by decide +kernel) (by decide +kernel)
set_option maxRecDepth 20000 in
theorem gX7_costWithRoot_X7_costBy : GoodIn wsX7_costWithRoot (wsV RX7 205 RX7 yX7_costBy wsX7_costBy) := goodIn_app (goodIn_of _ (by decide +kernel)) ggX7_costWithRoot_X7_costBy
theorem dX7_costWithRoot_0 : decode cX7_costWithRoot 0 = .ok (.aload_n 0, 1) := by decide +kernel
theorem dX7_costWithRoot_1 : decode cX7_costWithRoot 1 = .ok (.iload_n 1, 1) := by decide +kernel
theorem dX7_costWithRoot_2 : decode cX7_costWithRoot 2 = .ok (.invokevirtual 117, 3) := by decide +kernel
theorem dX7_costWithRoot_5 : decode cX7_costWithRoot 5 = .ok (.ifCond .ne 7, 3) := by decide +kernel
theorem dX7_costWithRoot_8 : decode cX7_costWithRoot 8 = .ok (.ldc2_w 226, 3) := by decide +kernel
theorem dX7_costWithRoot_11 : decode cX7_costWithRoot 11 = .ok (.lreturn, 1) := by decide +kernel
theorem dX7_costWithRoot_12 : decode cX7_costWithRoot 12 = .ok (.aload_n 0, 1) := by decide +kernel
theorem dX7_costWithRoot_13 : decode cX7_costWithRoot 13 = .ok (.invokevirtual 219, 3) := by decide +kernel
theorem dX7_costWithRoot_16 : decode cX7_costWithRoot 16 = .ok (.aload_n 0, 1) := by decide +kernel
theorem dX7_costWithRoot_17 : decode cX7_costWithRoot 17 = .ok (.iconst 0, 1) := by decide +kernel
theorem dX7_costWithRoot_18 : decode cX7_costWithRoot 18 = .ok (.iload_n 1, 1) := by decide +kernel
theorem dX7_costWithRoot_19 : decode cX7_costWithRoot 19 = .ok (.invokevirtual 205, 3) := by decide +kernel
theorem dX7_costWithRoot_22 : decode cX7_costWithRoot 22 = .ok (.lreturn, 1) := by decide +kernel
set_option maxRecDepth 20000 in
theorem ggX7_sample_X7_isIn : GoodIn wsX7_sample wsX7_isIn := goodIn_r _ [8] (by decide +kernel) (by decide +kernel)
set_option maxRecDepth 20000 in
theorem gX7_sample_X7_isIn : GoodIn wsX7_sample (va_wsS RX7 95 yX7_isIn wsX7_isIn) := goodIn_app (goodIn_of _ (by decide +kernel)) ggX7_sample_X7_isIn
set_option maxRecDepth 20000 in
theorem ggX7_sample_X7_weightSum : GoodIn wsX7_sample wsX7_weightSum := goodIn_r _ [12, 4, 3, 33, 34, 35, 36, 37, 38, 39, 40, 41, 42, 43, 44, 45, 46, 47, 48, 49, 50, 51, 52, 53, 54, 55, 56, 57, 58, 59, 60, 61, 62, 63, 64, 65, 66, 67, 68, 69] (by decide +kernel) (by decide +kernel)
set_option maxRecDepth 20000 in
theorem gX7_sample_X7_weightSum : GoodIn wsX7_sample (wsV RX7 124 RX7 yX7_weightSum wsX7_weightSum) := goodIn_app (goodIn_of _ (by decide +kernel)) ggX7_sample_X7_weightSum
set_option maxRecDepth 20000 in
theorem ggX7_sample_X7_actionOf : GoodIn wsX7_sample wsX7_actionOf := goodIn_r _ [16, 17, 18, 19, 20, 21, 7, 22, 23, 24, 25, 26, 27, 1, 28, 29, 30, 31, 32, 4, 33, 34, 35, 36, 37, 38, 39, 40, 41, 42, 43, 44, 45, 46, 47, 48, 49, 50, 51, 52, 53, 54, 55, 56, 57, 58, 59, 60, 61, 62, 63, 64, 65, 66, 67, 68, 69] (by decide +kernel) (by decide +kernel)
set_option maxRecDepth 20000 in
theorem gX7_sample_X7_actionOf : GoodIn wsX7_sample (wsV RX7 165 RX7 yX7_actionOf wsX7_actionOf) := goodIn_app (goodIn_of _ (by decide +kernel)) ggX7_sample_X7_actionOf
theorem dX7_sample_0 : decode cX7_sample 0 = .ok (.iload_n 2, 1) := by decide +kernel
theorem dX7_sample_1 : decode cX7_sample 1 = .ok (.iconst 0, 1) := by decide +kernel
theorem dX7_sample_2 : decode cX7_sample 2 = .ok (.sipush 500, 3) := by decide +kernel
theorem dX7_sample_5 : decode cX7_sample 5 = .ok (.invokestatic 95, 3) := by decide +kernel
theorem dX7_sample_8 : decode cX7_sample 8 = .ok (.ifCond .eq 13, 3) := by decide +kernel
theorem dX7_sample_11 : decode cX7_sample 11 = .ok (.iload_n 3, 1) := by decide +kernel
theorem dX7_sample_12 : decode cX7_sample 12 = .ok (.iconst (-1), 1) := by decide +kernel
theorem dX7_sample_13 : decode cX7_sample 13 = .ok (.bipush 9, 2) := by decide +kernel
theorem dX7_sample_15 : decode cX7_sample 15 = .ok (.invokestatic 95, 3) := by decide +kernel
theorem dX7_sample_18 : decode cX7_sample 18 = .ok (.ifCond .ne 5, 3) := by decide +kernel
theorem dX7_sample_21 : decode cX7_sample 21 = .ok (.iconst (-1), 1) := by decide +kernel
theorem dX7_sample_22 : decode cX7_sample 22 = .ok (.ireturn, 1) := by decide +kernel
theorem dX7_sample_23 : decode cX7_sample 23 = .ok (.iload_n 1, 1) := by decide +kernel
theorem dX7_sample_24 : decode cX7_sample 24 = .ok (.istore 4, 2) := by decide +kernel
theorem dX7_sample_26 : decode cX7_sample 26 = .ok (.iconst 0, 1) := by decide +kernel
theorem dX7_sample_27 : decode cX7_sample 27 = .ok (.istore 5, 2) := by decide +kernel
theorem dX7_sample_29 : decode cX7_sample 29 = .ok (.iconst 0, 1) := by decide +kernel
theorem dX7_sample_30 : decode cX7_sample 30 = .ok (.istore 6, 2) := by decide +kernel
theorem dX7_sample_32 : decode cX7_sample 32 = .ok (.iload 6, 2) := by decide +kernel
theorem dX7_sample_34 : decode cX7_sample 34 = .ok (.iload_n 2, 1) := by decide +kernel
theorem dX7_sample_35 : decode cX7_sample 35 = .ok (.if_icmp .ge 133, 3) := by decide +kernel
theorem dX7_sample_38 : decode cX7_sample 38 = .ok (.iconst 0, 1) := by decide +kernel
theorem dX7_sample_39 : decode cX7_sample 39 = .ok (.istore 7, 2) := by decide +kernel
theorem dX7_sample_41 : decode cX7_sample 41 = .ok (.iconst 0, 1) := by decide +kernel
theorem dX7_sample_42 : decode cX7_sample 42 = .ok (.istore 8, 2) := by decide +kernel
theorem dX7_sample_44 : decode cX7_sample 44 = .ok (.iload 8, 2) := by decide +kernel
theorem dX7_sample_46 : decode cX7_sample 46 = .ok (.aload_n 0, 1) := by decide +kernel
theorem dX7_sample_47 : decode cX7_sample 47 = .ok (.getfield 9, 3) := by decide +kernel
theorem dX7_sample_50 : decode cX7_sample 50 = .ok (.if_icmp .ge 92, 3) := by decide +kernel
theorem dX7_sample_53 : decode cX7_sample 53 = .ok (.iload 4, 2) := by decide +kernel
theorem dX7_sample_55 : decode cX7_sample 55 = .ok (.ldc 245, 2) := by decide +kernel
theorem dX7_sample_57 : decode cX7_sample 57 = .ok (.imul, 1) := by decide +kernel
theorem dX7_sample_58 : decode cX7_sample 58 = .ok (.sipush 12345, 3) := by decide +kernel
theorem dX7_sample_61 : decode cX7_sample 61 = .ok (.iadd, 1) := by decide +kernel
theorem dX7_sample_62 : decode cX7_sample 62 = .ok (.istore 4, 2) := by decide +kernel
theorem dX7_sample_64 : decode cX7_sample 64 = .ok (.iload 4, 2) := by decide +kernel
theorem dX7_sample_66 : decode cX7_sample 66 = .ok (.bipush 16, 2) := by decide +kernel
theorem dX7_sample_68 : decode cX7_sample 68 = .ok (.iushr, 1) := by decide +kernel
theorem dX7_sample_69 : decode cX7_sample 69 = .ok (.aload_n 0, 1) := by decide +kernel
theorem dX7_sample_70 : decode cX7_sample 70 = .ok (.iload 8, 2) := by decide +kernel
theorem dX7_sample_72 : decode cX7_sample 72 = .ok (.invokevirtual 124, 3) := by decide +kernel
theorem dX7_sample_75 : decode cX7_sample 75 = .ok (.irem, 1) := by decide +kernel
theorem dX7_sample_76 : decode cX7_sample 76 = .ok (.istore 9, 2) := by decide +kernel
theorem dX7_sample_78 : decode cX7_sample 78 = .ok (.iconst 0, 1) := by decide +kernel
theorem dX7_sample_79 : decode cX7_sample 79 = .ok (.istore 10, 2) := by decide +kernel
theorem dX7_sample_81 : decode cX7_sample 81 = .ok (.iload 9, 2) := by decide +kernel
theorem dX7_sample_83 : decode cX7_sample 83 = .ok (.aload_n 0, 1) := by decide +kernel
theorem dX7_sample_84 : decode cX7_sample 84 = .ok (.getfield 19, 3) := by decide +kernel
theorem dX7_sample_87 : decode cX7_sample 87 = .ok (.iconst 5, 1) := by decide +kernel
theorem dX7_sample_88 : decode cX7_sample 88 = .ok (.iload 8, 2) := by decide +kernel
theorem dX7_sample_90 : decode cX7_sample 90 = .ok (.imul, 1) := by decide +kernel
theorem dX7_sample_91 : decode cX7_sample 91 = .ok (.iload 10, 2) := by decide +kernel
theorem dX7_sample_93 : decode cX7_sample 93 = .ok (.iadd, 1) := by decide +kernel
theorem dX7_sample_94 : decode cX7_sample 94 = .ok (.iaload, 1) := by decide +kernel
theorem dX7_sample_95 : decode cX7_sample 95 = .ok (.if_icmp .lt 26, 3) := by decide +kernel
theorem dX7_sample_98 : decode cX7_sample 98 = .ok (.iload 9, 2) := by decide +kernel
theorem dX7_sample_100 : decode cX7_sample 100 = .ok (.aload_n 0, 1) := by decide +kernel
theorem dX7_sample_101 : decode cX7_sample 101 = .ok (.getfield 19, 3) := by decide +kernel
theorem dX7_sample_104 : decode cX7_sample 104 = .ok (.iconst 5, 1) := by decide +kernel
theorem dX7_sample_105 : decode cX7_sample 105 = .ok (.iload 8, 2) := by decide +kernel
theorem dX7_sample_107 : decode cX7_sample 107 = .ok (.imul, 1) := by decide +kernel
theorem dX7_sample_108 : decode cX7_sample 108 = .ok (.iload 10, 2) := by decide +kernel
theorem dX7_sample_110 : decode cX7_sample 110 = .ok (.iadd, 1) := by decide +kernel
theorem dX7_sample_111 : decode cX7_sample 111 = .ok (.iaload, 1) := by decide +kernel
theorem dX7_sample_112 : decode cX7_sample 112 = .ok (.isub, 1) := by decide +kernel
theorem dX7_sample_113 : decode cX7_sample 113 = .ok (.istore 9, 2) := by decide +kernel
theorem dX7_sample_115 : decode cX7_sample 115 = .ok (.iinc 10 1, 3) := by decide +kernel
theorem dX7_sample_118 : decode cX7_sample 118 = .ok (.goto (-37), 3) := by decide +kernel
theorem dX7_sample_121 : decode cX7_sample 121 = .ok (.iload 7, 2) := by decide +kernel
theorem dX7_sample_123 : decode cX7_sample 123 = .ok (.aload_n 0, 1) := by decide +kernel
theorem dX7_sample_124 : decode cX7_sample 124 = .ok (.getfield 15, 3) := by decide +kernel
theorem dX7_sample_127 : decode cX7_sample 127 = .ok (.iload 8, 2) := by decide +kernel
theorem dX7_sample_129 : decode cX7_sample 129 = .ok (.iaload, 1) := by decide +kernel
theorem dX7_sample_130 : decode cX7_sample 130 = .ok (.imul, 1) := by decide +kernel
theorem dX7_sample_131 : decode cX7_sample 131 = .ok (.iload 10, 2) := by decide +kernel
theorem dX7_sample_133 : decode cX7_sample 133 = .ok (.iadd, 1) := by decide +kernel
theorem dX7_sample_134 : decode cX7_sample 134 = .ok (.istore 7, 2) := by decide +kernel
theorem dX7_sample_136 : decode cX7_sample 136 = .ok (.iinc 8 1, 3) := by decide +kernel
theorem dX7_sample_139 : decode cX7_sample 139 = .ok (.goto (-95), 3) := by decide +kernel
theorem dX7_sample_142 : decode cX7_sample 142 = .ok (.iload 5, 2) := by decide +kernel
theorem dX7_sample_144 : decode cX7_sample 144 = .ok (.aload_n 0, 1) := by decide +kernel
theorem dX7_sample_145 : decode cX7_sample 145 = .ok (.iload 7, 2) := by decide +kernel
theorem dX7_sample_147 : decode cX7_sample 147 = .ok (.invokevirtual 165, 3) := by decide +kernel
theorem dX7_sample_150 : decode cX7_sample 150 = .ok (.iload_n 3, 1) := by decide +kernel
theorem dX7_sample_151 : decode cX7_sample 151 = .ok (.if_icmp .ne 7, 3) := by decide +kernel
theorem dX7_sample_154 : decode cX7_sample 154 = .ok (.iconst 1, 1) := by decide +kernel
theorem dX7_sample_155 : decode cX7_sample 155 = .ok (.goto 4, 3) := by decide +kernel
theorem dX7_sample_158 : decode cX7_sample 158 = .ok (.iconst 0, 1) := by decide +kernel
theorem dX7_sample_159 : decode cX7_sample 159 = .ok (.iadd, 1) := by decide +kernel
theorem dX7_sample_160 : decode cX7_sample 160 = .ok (.istore 5, 2) := by decide +kernel
theorem dX7_sample_162 : decode cX7_sample 162 = .ok (.iinc 6 1, 3) := by decide +kernel
theorem dX7_sample_165 : decode cX7_sample 165 = .ok (.goto (-133), 3) := by decide +kernel
theorem dX7_sample_168 : decode cX7_sample 168 = .ok (.iload 5, 2) := by decide +kernel
theorem dX7_sample_170 : decode cX7_sample 170 = .ok (.ireturn, 1) := by decide +kernel
set_option maxRecDepth 20000 in
theorem ggX7_isSlot_X7_isIn : GoodIn wsX7_isSlot wsX7_isIn := goodIn_r _ [4] (by decide +kernel) (by decide +kernel)
set_option maxRecDepth 20000 in
theorem gX7_isSlot_X7_isIn : GoodIn wsX7_isSlot (va_wsS RX7 95 yX7_isIn wsX7_isIn) := goodIn_app (goodIn_of _ (by decide +kernel)) ggX7_isSlot_X7_isIn
theorem dX7_isSlot_0 : decode cX7_isSlot 0 = .ok (.iload_n 0, 1) := by decide +kernel
theorem dX7_isSlot_1 : decode cX7_isSlot 1 = .ok (.iconst 0, 1) := by decide +kernel
theorem dX7_isSlot_2 : decode cX7_isSlot 2 = .ok (.iconst 3, 1) := by decide +kernel
theorem dX7_isSlot_3 : decode cX7_isSlot 3 = .ok (.invokestatic 95, 3) := by decide +kernel
theorem dX7_isSlot_6 : decode cX7_isSlot 6 = .ok (.ireturn, 1) := by decide +kernel
theorem dX7_lay_0 : decode cX7_lay 0 = .ok (.aload_n 0, 1) := by decide +kernel
theorem dX7_lay_1 : decode cX7_lay 1 = .ok (.getfield 68, 3) := by decide +kernel
theorem dX7_lay_4 : decode cX7_lay 4 = .ok (.iload_n 1, 1) := by decide +kernel
theorem dX7_lay_5 : decode cX7_lay 5 = .ok (.iload_n 2, 1) := by decide +kernel
theorem dX7_lay_6 : decode cX7_lay 6 = .ok (.iastore, 1) := by decide +kernel
theorem dX7_lay_7 : decode cX7_lay 7 = .ok (.aload_n 0, 1) := by decide +kernel
theorem dX7_lay_8 : decode cX7_lay 8 = .ok (.getfield 71, 3) := by decide +kernel
theorem dX7_lay_11 : decode cX7_lay 11 = .ok (.iload_n 1, 1) := by decide +kernel
theorem dX7_lay_12 : decode cX7_lay 12 = .ok (.iload_n 3, 1) := by decide +kernel
theorem dX7_lay_13 : decode cX7_lay 13 = .ok (.iastore, 1) := by decide +kernel
theorem dX7_lay_14 : decode cX7_lay 14 = .ok (.iconst 0, 1) := by decide +kernel
theorem dX7_lay_15 : decode cX7_lay 15 = .ok (.istore 4, 2) := by decide +kernel
theorem dX7_lay_17 : decode cX7_lay 17 = .ok (.iload 4, 2) := by decide +kernel
theorem dX7_lay_19 : decode cX7_lay 19 = .ok (.sipush 700, 3) := by decide +kernel
theorem dX7_lay_22 : decode cX7_lay 22 = .ok (.if_icmp .ge 23, 3) := by decide +kernel
theorem dX7_lay_25 : decode cX7_lay 25 = .ok (.aload_n 0, 1) := by decide +kernel
theorem dX7_lay_26 : decode cX7_lay 26 = .ok (.getfield 74, 3) := by decide +kernel
theorem dX7_lay_29 : decode cX7_lay 29 = .ok (.sipush 700, 3) := by decide +kernel
theorem dX7_lay_32 : decode cX7_lay 32 = .ok (.iload_n 1, 1) := by decide +kernel
theorem dX7_lay_33 : decode cX7_lay 33 = .ok (.imul, 1) := by decide +kernel
theorem dX7_lay_34 : decode cX7_lay 34 = .ok (.iload 4, 2) := by decide +kernel
theorem dX7_lay_36 : decode cX7_lay 36 = .ok (.iadd, 1) := by decide +kernel
theorem dX7_lay_37 : decode cX7_lay 37 = .ok (.lconst 0, 1) := by decide +kernel
theorem dX7_lay_38 : decode cX7_lay 38 = .ok (.lastore, 1) := by decide +kernel
theorem dX7_lay_39 : decode cX7_lay 39 = .ok (.iinc 4 1, 3) := by decide +kernel
theorem dX7_lay_42 : decode cX7_lay 42 = .ok (.goto (-25), 3) := by decide +kernel
theorem dX7_lay_45 : decode cX7_lay 45 = .ok (.return_, 1) := by decide +kernel
set_option maxRecDepth 20000 in
theorem ggX7_allocate_X7_isSlot : GoodIn wsX7_allocate wsX7_isSlot := goodIn_r _ [4, 5, 6, 3, 7] (by decide +kernel) (by decide +kernel)
set_option maxRecDepth 20000 in
theorem gX7_allocate_X7_isSlot : GoodIn wsX7_allocate (va_wsS RX7 246 yX7_isSlot wsX7_isSlot) := goodIn_app (goodIn_of _ (by decide +kernel)) ggX7_allocate_X7_isSlot
set_option maxRecDepth 20000 in
theorem ggX7_allocate_X7_isIn : GoodIn wsX7_allocate wsX7_isIn := goodIn_r _ [7] (by decide +kernel) (by decide +kernel)
set_option maxRecDepth 20000 in
theorem gX7_allocate_X7_isIn : GoodIn wsX7_allocate (va_wsS RX7 95 yX7_isIn wsX7_isIn) := goodIn_app (goodIn_of _ (by decide +kernel)) ggX7_allocate_X7_isIn
set_option maxRecDepth 20000 in
theorem ggX7_allocate_X7_lay : GoodIn wsX7_allocate wsX7_lay := goodIn_r _ [11, 12, 13, 14, 15, 16, 17, 18, 19, 20, 21, 22, 23, 24, 25, 26, 27, 28, 29, 30, 31, 32, 33, 34, 35, 36, 37, 38, 39, 40, 41, 42, 43, 44, 45, 46, 47, 48, 49, 50, 51] (by decide +kernel) (by decide +kernel)
set_option maxRecDepth 20000 in
theorem gX7_allocate_X7_lay : GoodIn wsX7_allocate (wsV RX7 249 RX7 yX7_lay wsX7_lay) := goodIn_app (goodIn_of _ (by decide +kernel)) ggX7_allocate_X7_lay
theorem dX7_allocate_0 : decode cX7_allocate 0 = .ok (.iload_n 1, 1) := by decide +kernel
theorem dX7_allocate_1 : decode cX7_allocate 1 = .ok (.invokestatic 246, 3) := by decide +kernel
theorem dX7_allocate_4 : decode cX7_allocate 4 = .ok (.ifCond .eq 19, 3) := by decide +kernel
theorem dX7_allocate_7 : decode cX7_allocate 7 = .ok (.iload_n 2, 1) := by decide +kernel
theorem dX7_allocate_8 : decode cX7_allocate 8 = .ok (.iconst 0, 1) := by decide +kernel
theorem dX7_allocate_9 : decode cX7_allocate 9 = .ok (.iconst 3, 1) := by decide +kernel
theorem dX7_allocate_10 : decode cX7_allocate 10 = .ok (.invokestatic 95, 3) := by decide +kernel
theorem dX7_allocate_13 : decode cX7_allocate 13 = .ok (.ifCond .eq 10, 3) := by decide +kernel
theorem dX7_allocate_16 : decode cX7_allocate 16 = .ok (.iload_n 3, 1) := by decide +kernel
theorem dX7_allocate_17 : decode cX7_allocate 17 = .ok (.sipush 700, 3) := by decide +kernel
theorem dX7_allocate_20 : decode cX7_allocate 20 = .ok (.if_icmp .le 5, 3) := by decide +kernel
theorem dX7_allocate_23 : decode cX7_allocate 23 = .ok (.iconst (-1), 1) := by decide +kernel
theorem dX7_allocate_24 : decode cX7_allocate 24 = .ok (.ireturn, 1) := by decide +kernel
theorem dX7_allocate_25 : decode cX7_allocate 25 = .ok (.iload_n 3, 1) := by decide +kernel
theorem dX7_allocate_26 : decode cX7_allocate 26 = .ok (.ifCond .ge 6, 3) := by decide +kernel
theorem dX7_allocate_29 : decode cX7_allocate 29 = .ok (.bipush (-14), 2) := by decide +kernel
theorem dX7_allocate_31 : decode cX7_allocate 31 = .ok (.ireturn, 1) := by decide +kernel
theorem dX7_allocate_32 : decode cX7_allocate 32 = .ok (.aload_n 0, 1) := by decide +kernel
theorem dX7_allocate_33 : decode cX7_allocate 33 = .ok (.iload_n 1, 1) := by decide +kernel
theorem dX7_allocate_34 : decode cX7_allocate 34 = .ok (.iload_n 2, 1) := by decide +kernel
theorem dX7_allocate_35 : decode cX7_allocate 35 = .ok (.iload_n 3, 1) := by decide +kernel
theorem dX7_allocate_36 : decode cX7_allocate 36 = .ok (.invokevirtual 249, 3) := by decide +kernel
theorem dX7_allocate_39 : decode cX7_allocate 39 = .ok (.iload_n 3, 1) := by decide +kernel
theorem dX7_allocate_40 : decode cX7_allocate 40 = .ok (.ireturn, 1) := by decide +kernel
set_option maxRecDepth 20000 in
theorem ggX7_release_X7_isSlot : GoodIn wsX7_release wsX7_isSlot := goodIn_r _ [5, 6, 7, 4, 8] (by decide +kernel) (by decide +kernel)
set_option maxRecDepth 20000 in
theorem gX7_release_X7_isSlot : GoodIn wsX7_release (va_wsS RX7 246 yX7_isSlot wsX7_isSlot) := goodIn_app (goodIn_of _ (by decide +kernel)) ggX7_release_X7_isSlot
theorem dX7_release_0 : decode cX7_release 0 = .ok (.iload_n 1, 1) := by decide +kernel
theorem dX7_release_1 : decode cX7_release 1 = .ok (.invokestatic 246, 3) := by decide +kernel
theorem dX7_release_4 : decode cX7_release 4 = .ok (.ifCond .ne 5, 3) := by decide +kernel
theorem dX7_release_7 : decode cX7_release 7 = .ok (.iconst (-1), 1) := by decide +kernel
theorem dX7_release_8 : decode cX7_release 8 = .ok (.ireturn, 1) := by decide +kernel
theorem dX7_release_9 : decode cX7_release 9 = .ok (.aload_n 0, 1) := by decide +kernel
theorem dX7_release_10 : decode cX7_release 10 = .ok (.getfield 68, 3) := by decide +kernel
theorem dX7_release_13 : decode cX7_release 13 = .ok (.iload_n 1, 1) := by decide +kernel
theorem dX7_release_14 : decode cX7_release 14 = .ok (.iaload, 1) := by decide +kernel
theorem dX7_release_15 : decode cX7_release 15 = .ok (.ifCond .ge 7, 3) := by decide +kernel
theorem dX7_release_18 : decode cX7_release 18 = .ok (.iconst 0, 1) := by decide +kernel
theorem dX7_release_19 : decode cX7_release 19 = .ok (.goto 4, 3) := by decide +kernel
theorem dX7_release_22 : decode cX7_release 22 = .ok (.iconst 1, 1) := by decide +kernel
theorem dX7_release_23 : decode cX7_release 23 = .ok (.istore_n 2, 1) := by decide +kernel
theorem dX7_release_24 : decode cX7_release 24 = .ok (.aload_n 0, 1) := by decide +kernel
theorem dX7_release_25 : decode cX7_release 25 = .ok (.getfield 68, 3) := by decide +kernel
theorem dX7_release_28 : decode cX7_release 28 = .ok (.iload_n 1, 1) := by decide +kernel
theorem dX7_release_29 : decode cX7_release 29 = .ok (.iconst (-1), 1) := by decide +kernel
theorem dX7_release_30 : decode cX7_release 30 = .ok (.iastore, 1) := by decide +kernel
theorem dX7_release_31 : decode cX7_release 31 = .ok (.iload_n 2, 1) := by decide +kernel
theorem dX7_release_32 : decode cX7_release 32 = .ok (.ireturn, 1) := by decide +kernel
theorem dX7_narrowed_0 : decode cX7_narrowed 0 = .ok (.iload_n 0, 1) := by decide +kernel
theorem dX7_narrowed_1 : decode cX7_narrowed 1 = .ok (.ifCond .ne 17, 3) := by decide +kernel
theorem dX7_narrowed_4 : decode cX7_narrowed 4 = .ok (.lload_n 1, 1) := by decide +kernel
theorem dX7_narrowed_5 : decode cX7_narrowed 5 = .ok (.lconst 0, 1) := by decide +kernel
theorem dX7_narrowed_6 : decode cX7_narrowed 6 = .ok (.lcmp, 1) := by decide +kernel
theorem dX7_narrowed_7 : decode cX7_narrowed 7 = .ok (.ifCond .eq 7, 3) := by decide +kernel
theorem dX7_narrowed_10 : decode cX7_narrowed 10 = .ok (.lconst 1, 1) := by decide +kernel
theorem dX7_narrowed_11 : decode cX7_narrowed 11 = .ok (.goto 31, 3) := by decide +kernel
theorem dX7_narrowed_14 : decode cX7_narrowed 14 = .ok (.lconst 0, 1) := by decide +kernel
theorem dX7_narrowed_15 : decode cX7_narrowed 15 = .ok (.goto 27, 3) := by decide +kernel
theorem dX7_narrowed_18 : decode cX7_narrowed 18 = .ok (.iload_n 0, 1) := by decide +kernel
theorem dX7_narrowed_19 : decode cX7_narrowed 19 = .ok (.iconst 1, 1) := by decide +kernel
theorem dX7_narrowed_20 : decode cX7_narrowed 20 = .ok (.if_icmp .ne 10, 3) := by decide +kernel
theorem dX7_narrowed_23 : decode cX7_narrowed 23 = .ok (.lload_n 1, 1) := by decide +kernel
theorem dX7_narrowed_24 : decode cX7_narrowed 24 = .ok (.l2i, 1) := by decide +kernel
theorem dX7_narrowed_25 : decode cX7_narrowed 25 = .ok (.i2b, 1) := by decide +kernel
theorem dX7_narrowed_26 : decode cX7_narrowed 26 = .ok (.i2l, 1) := by decide +kernel
theorem dX7_narrowed_27 : decode cX7_narrowed 27 = .ok (.goto 15, 3) := by decide +kernel
theorem dX7_narrowed_30 : decode cX7_narrowed 30 = .ok (.iload_n 0, 1) := by decide +kernel
theorem dX7_narrowed_31 : decode cX7_narrowed 31 = .ok (.iconst 2, 1) := by decide +kernel
theorem dX7_narrowed_32 : decode cX7_narrowed 32 = .ok (.if_icmp .ne 9, 3) := by decide +kernel
theorem dX7_narrowed_35 : decode cX7_narrowed 35 = .ok (.lload_n 1, 1) := by decide +kernel
theorem dX7_narrowed_36 : decode cX7_narrowed 36 = .ok (.l2i, 1) := by decide +kernel
theorem dX7_narrowed_37 : decode cX7_narrowed 37 = .ok (.i2l, 1) := by decide +kernel
theorem dX7_narrowed_38 : decode cX7_narrowed 38 = .ok (.goto 4, 3) := by decide +kernel
theorem dX7_narrowed_41 : decode cX7_narrowed 41 = .ok (.lload_n 1, 1) := by decide +kernel
theorem dX7_narrowed_42 : decode cX7_narrowed 42 = .ok (.lreturn, 1) := by decide +kernel
set_option maxRecDepth 20000 in
theorem ggX7_putElement_X7_isSlot : GoodIn wsX7_putElement wsX7_isSlot := goodIn_r _ [7, 8, 9, 6, 10] (by decide +kernel) (by decide +kernel)
set_option maxRecDepth 20000 in
theorem gX7_putElement_X7_isSlot : GoodIn wsX7_putElement (va_wsS RX7 246 yX7_isSlot wsX7_isSlot) := goodIn_app (goodIn_of _ (by decide +kernel)) ggX7_putElement_X7_isSlot
set_option maxRecDepth 20000 in
theorem ggX7_putElement_X7_isIn : GoodIn wsX7_putElement wsX7_isIn := goodIn_r _ [10] (by decide +kernel) (by decide +kernel)
set_option maxRecDepth 20000 in
theorem gX7_putElement_X7_isIn : GoodIn wsX7_putElement (va_wsS RX7 95 yX7_isIn wsX7_isIn) := goodIn_app (goodIn_of _ (by decide +kernel)) ggX7_putElement_X7_isIn
set_option maxRecDepth 20000 in
theorem ggX7_putElement_X7_narrowed : GoodIn wsX7_putElement wsX7_narrowed := goodIn_r _ [13] (by decide +kernel) (by decide +kernel)
set_option maxRecDepth 20000 in
theorem gX7_putElement_X7_narrowed : GoodIn wsX7_putElement (va_wsS RX7 252 yX7_narrowed wsX7_narrowed) := goodIn_app (goodIn_of _ (by decide +kernel)) ggX7_putElement_X7_narrowed
theorem dX7_putElement_0 : decode cX7_putElement 0 = .ok (.iload_n 1, 1) := by decide +kernel
theorem dX7_putElement_1 : decode cX7_putElement 1 = .ok (.invokestatic 246, 3) := by decide +kernel
theorem dX7_putElement_4 : decode cX7_putElement 4 = .ok (.ifCond .ne 5, 3) := by decide +kernel
theorem dX7_putElement_7 : decode cX7_putElement 7 = .ok (.iconst (-1), 1) := by decide +kernel
theorem dX7_putElement_8 : decode cX7_putElement 8 = .ok (.ireturn, 1) := by decide +kernel
theorem dX7_putElement_9 : decode cX7_putElement 9 = .ok (.aload_n 0, 1) := by decide +kernel
theorem dX7_putElement_10 : decode cX7_putElement 10 = .ok (.getfield 68, 3) := by decide +kernel
theorem dX7_putElement_13 : decode cX7_putElement 13 = .ok (.iload_n 1, 1) := by decide +kernel
theorem dX7_putElement_14 : decode cX7_putElement 14 = .ok (.iaload, 1) := by decide +kernel
theorem dX7_putElement_15 : decode cX7_putElement 15 = .ok (.ifCond .ge 6, 3) := by decide +kernel
theorem dX7_putElement_18 : decode cX7_putElement 18 = .ok (.bipush (-11), 2) := by decide +kernel
theorem dX7_putElement_20 : decode cX7_putElement 20 = .ok (.ireturn, 1) := by decide +kernel
theorem dX7_putElement_21 : decode cX7_putElement 21 = .ok (.iload_n 2, 1) := by decide +kernel
theorem dX7_putElement_22 : decode cX7_putElement 22 = .ok (.iconst 0, 1) := by decide +kernel
theorem dX7_putElement_23 : decode cX7_putElement 23 = .ok (.aload_n 0, 1) := by decide +kernel
theorem dX7_putElement_24 : decode cX7_putElement 24 = .ok (.getfield 71, 3) := by decide +kernel
theorem dX7_putElement_27 : decode cX7_putElement 27 = .ok (.iload_n 1, 1) := by decide +kernel
theorem dX7_putElement_28 : decode cX7_putElement 28 = .ok (.iaload, 1) := by decide +kernel
theorem dX7_putElement_29 : decode cX7_putElement 29 = .ok (.iconst 1, 1) := by decide +kernel
theorem dX7_putElement_30 : decode cX7_putElement 30 = .ok (.isub, 1) := by decide +kernel
theorem dX7_putElement_31 : decode cX7_putElement 31 = .ok (.invokestatic 95, 3) := by decide +kernel
theorem dX7_putElement_34 : decode cX7_putElement 34 = .ok (.ifCond .ne 6, 3) := by decide +kernel
theorem dX7_putElement_37 : decode cX7_putElement 37 = .ok (.bipush (-13), 2) := by decide +kernel
theorem dX7_putElement_39 : decode cX7_putElement 39 = .ok (.ireturn, 1) := by decide +kernel
theorem dX7_putElement_40 : decode cX7_putElement 40 = .ok (.aload_n 0, 1) := by decide +kernel
theorem dX7_putElement_41 : decode cX7_putElement 41 = .ok (.getfield 74, 3) := by decide +kernel
theorem dX7_putElement_44 : decode cX7_putElement 44 = .ok (.sipush 700, 3) := by decide +kernel
theorem dX7_putElement_47 : decode cX7_putElement 47 = .ok (.iload_n 1, 1) := by decide +kernel
theorem dX7_putElement_48 : decode cX7_putElement 48 = .ok (.imul, 1) := by decide +kernel
theorem dX7_putElement_49 : decode cX7_putElement 49 = .ok (.iload_n 2, 1) := by decide +kernel
theorem dX7_putElement_50 : decode cX7_putElement 50 = .ok (.iadd, 1) := by decide +kernel
theorem dX7_putElement_51 : decode cX7_putElement 51 = .ok (.aload_n 0, 1) := by decide +kernel
theorem dX7_putElement_52 : decode cX7_putElement 52 = .ok (.getfield 68, 3) := by decide +kernel
theorem dX7_putElement_55 : decode cX7_putElement 55 = .ok (.iload_n 1, 1) := by decide +kernel
theorem dX7_putElement_56 : decode cX7_putElement 56 = .ok (.iaload, 1) := by decide +kernel
theorem dX7_putElement_57 : decode cX7_putElement 57 = .ok (.lload_n 3, 1) := by decide +kernel
theorem dX7_putElement_58 : decode cX7_putElement 58 = .ok (.invokestatic 252, 3) := by decide +kernel
theorem dX7_putElement_61 : decode cX7_putElement 61 = .ok (.lastore, 1) := by decide +kernel
theorem dX7_putElement_62 : decode cX7_putElement 62 = .ok (.iconst 1, 1) := by decide +kernel
theorem dX7_putElement_63 : decode cX7_putElement 63 = .ok (.ireturn, 1) := by decide +kernel
set_option maxRecDepth 20000 in
theorem ggX7_element_X7_isSlot : GoodIn wsX7_element wsX7_isSlot := goodIn_r _ [8, 9, 10, 7, 11] (by decide +kernel) (by decide +kernel)
set_option maxRecDepth 20000 in
theorem gX7_element_X7_isSlot : GoodIn wsX7_element (va_wsS RX7 246 yX7_isSlot wsX7_isSlot) := goodIn_app (goodIn_of _ (by decide +kernel)) ggX7_element_X7_isSlot
set_option maxRecDepth 20000 in
theorem ggX7_element_X7_isIn : GoodIn wsX7_element wsX7_isIn := goodIn_r _ [11] (by decide +kernel) (by decide +kernel)
set_option maxRecDepth 20000 in
theorem gX7_element_X7_isIn : GoodIn wsX7_element (va_wsS RX7 95 yX7_isIn wsX7_isIn) := goodIn_app (goodIn_of _ (by decide +kernel)) ggX7_element_X7_isIn
theorem dX7_element_0 : decode cX7_element 0 = .ok (.iload_n 1, 1) := by decide +kernel
theorem dX7_element_1 : decode cX7_element 1 = .ok (.invokestatic 246, 3) := by decide +kernel
theorem dX7_element_4 : decode cX7_element 4 = .ok (.ifCond .eq 32, 3) := by decide +kernel
theorem dX7_element_7 : decode cX7_element 7 = .ok (.aload_n 0, 1) := by decide +kernel
theorem dX7_element_8 : decode cX7_element 8 = .ok (.getfield 68, 3) := by decide +kernel
theorem dX7_element_11 : decode cX7_element 11 = .ok (.iload_n 1, 1) := by decide +kernel
theorem dX7_element_12 : decode cX7_element 12 = .ok (.iaload, 1) := by decide +kernel
theorem dX7_element_13 : decode cX7_element 13 = .ok (.ifCond .lt 23, 3) := by decide +kernel
theorem dX7_element_16 : decode cX7_element 16 = .ok (.iload_n 2, 1) := by decide +kernel
theorem dX7_element_17 : decode cX7_element 17 = .ok (.iconst 0, 1) := by decide +kernel
theorem dX7_element_18 : decode cX7_element 18 = .ok (.aload_n 0, 1) := by decide +kernel
theorem dX7_element_19 : decode cX7_element 19 = .ok (.getfield 71, 3) := by decide +kernel
theorem dX7_element_22 : decode cX7_element 22 = .ok (.iload_n 1, 1) := by decide +kernel
theorem dX7_element_23 : decode cX7_element 23 = .ok (.iaload, 1) := by decide +kernel
theorem dX7_element_24 : decode cX7_element 24 = .ok (.iconst 1, 1) := by decide +kernel
theorem dX7_element_25 : decode cX7_element 25 = .ok (.isub, 1) := by decide +kernel
theorem dX7_element_26 : decode cX7_element 26 = .ok (.invokestatic 95, 3) := by decide +kernel
theorem dX7_element_29 : decode cX7_element 29 = .ok (.ifCond .eq 7, 3) := by decide +kernel
theorem dX7_element_32 : decode cX7_element 32 = .ok (.iconst 1, 1) := by decide +kernel
theorem dX7_element_33 : decode cX7_element 33 = .ok (.goto 4, 3) := by decide +kernel
theorem dX7_element_36 : decode cX7_element 36 = .ok (.iconst 0, 1) := by decide +kernel
theorem dX7_element_37 : decode cX7_element 37 = .ok (.istore_n 3, 1) := by decide +kernel
theorem dX7_element_38 : decode cX7_element 38 = .ok (.iload_n 3, 1) := by decide +kernel
theorem dX7_element_39 : decode cX7_element 39 = .ok (.ifCond .eq 18, 3) := by decide +kernel
theorem dX7_element_42 : decode cX7_element 42 = .ok (.aload_n 0, 1) := by decide +kernel
theorem dX7_element_43 : decode cX7_element 43 = .ok (.getfield 74, 3) := by decide +kernel
theorem dX7_element_46 : decode cX7_element 46 = .ok (.sipush 700, 3) := by decide +kernel
theorem dX7_element_49 : decode cX7_element 49 = .ok (.iload_n 1, 1) := by decide +kernel
theorem dX7_element_50 : decode cX7_element 50 = .ok (.imul, 1) := by decide +kernel
theorem dX7_element_51 : decode cX7_element 51 = .ok (.iload_n 2, 1) := by decide +kernel
theorem dX7_element_52 : decode cX7_element 52 = .ok (.iadd, 1) := by decide +kernel
theorem dX7_element_53 : decode cX7_element 53 = .ok (.laload, 1) := by decide +kernel
theorem dX7_element_54 : decode cX7_element 54 = .ok (.goto 6, 3) := by decide +kernel
theorem dX7_element_57 : decode cX7_element 57 = .ok (.ldc2_w 226, 3) := by decide +kernel
theorem dX7_element_60 : decode cX7_element 60 = .ok (.lreturn, 1) := by decide +kernel
set_option maxRecDepth 20000 in
theorem ggX7_copyElements_X7_isSlot : GoodIn wsX7_copyElements wsX7_isSlot := goodIn_r _ [8, 9, 10, 7, 11] (by decide +kernel) (by decide +kernel)
set_option maxRecDepth 20000 in
theorem gX7_copyElements_X7_isSlot : GoodIn wsX7_copyElements (va_wsS RX7 246 yX7_isSlot wsX7_isSlot) := goodIn_app (goodIn_of _ (by decide +kernel)) ggX7_copyElements_X7_isSlot
theorem dX7_copyElements_0 : decode cX7_copyElements 0 = .ok (.iload_n 1, 1) := by decide +kernel
theorem dX7_copyElements_1 : decode cX7_copyElements 1 = .ok (.invokestatic 246, 3) := by decide +kernel
theorem dX7_copyElements_4 : decode cX7_copyElements 4 = .ok (.ifCond .eq 10, 3) := by decide +kernel
theorem dX7_copyElements_7 : decode cX7_copyElements 7 = .ok (.iload_n 3, 1) := by decide +kernel
theorem dX7_copyElements_8 : decode cX7_copyElements 8 = .ok (.invokestatic 246, 3) := by decide +kernel
theorem dX7_copyElements_11 : decode cX7_copyElements 11 = .ok (.ifCond .ne 5, 3) := by decide +kernel
theorem dX7_copyElements_14 : decode cX7_copyElements 14 = .ok (.iconst (-1), 1) := by decide +kernel
theorem dX7_copyElements_15 : decode cX7_copyElements 15 = .ok (.ireturn, 1) := by decide +kernel
theorem dX7_copyElements_16 : decode cX7_copyElements 16 = .ok (.aload_n 0, 1) := by decide +kernel
theorem dX7_copyElements_17 : decode cX7_copyElements 17 = .ok (.getfield 68, 3) := by decide +kernel
theorem dX7_copyElements_20 : decode cX7_copyElements 20 = .ok (.iload_n 1, 1) := by decide +kernel
theorem dX7_copyElements_21 : decode cX7_copyElements 21 = .ok (.iaload, 1) := by decide +kernel
theorem dX7_copyElements_22 : decode cX7_copyElements 22 = .ok (.ifCond .lt 12, 3) := by decide +kernel
theorem dX7_copyElements_25 : decode cX7_copyElements 25 = .ok (.aload_n 0, 1) := by decide +kernel
theorem dX7_copyElements_26 : decode cX7_copyElements 26 = .ok (.getfield 68, 3) := by decide +kernel
theorem dX7_copyElements_29 : decode cX7_copyElements 29 = .ok (.iload_n 3, 1) := by decide +kernel
theorem dX7_copyElements_30 : decode cX7_copyElements 30 = .ok (.iaload, 1) := by decide +kernel
theorem dX7_copyElements_31 : decode cX7_copyElements 31 = .ok (.ifCond .ge 6, 3) := by decide +kernel
theorem dX7_copyElements_34 : decode cX7_copyElements 34 = .ok (.bipush (-11), 2) := by decide +kernel
theorem dX7_copyElements_36 : decode cX7_copyElements 36 = .ok (.ireturn, 1) := by decide +kernel
theorem dX7_copyElements_37 : decode cX7_copyElements 37 = .ok (.aload_n 0, 1) := by decide +kernel
theorem dX7_copyElements_38 : decode cX7_copyElements 38 = .ok (.getfield 68, 3) := by decide +kernel
theorem dX7_copyElements_41 : decode cX7_copyElements 41 = .ok (.iload_n 1, 1) := by decide +kernel
theorem dX7_copyElements_42 : decode cX7_copyElements 42 = .ok (.iaload, 1) := by decide +kernel
theorem dX7_copyElements_43 : decode cX7_copyElements 43 = .ok (.aload_n 0, 1) := by decide +kernel
theorem dX7_copyElements_44 : decode cX7_copyElements 44 = .ok (.getfield 68, 3) := by decide +kernel
theorem dX7_copyElements_47 : decode cX7_copyElements 47 = .ok (.iload_n 3, 1) := by decide +kernel
theorem dX7_copyElements_48 : decode cX7_copyElements 48 = .ok (.iaload, 1) := by decide +kernel
theorem dX7_copyElements_49 : decode cX7_copyElements 49 = .ok (.if_icmp .eq 6, 3) := by decide +kernel
theorem dX7_copyElements_52 : decode cX7_copyElements 52 = .ok (.bipush (-12), 2) := by decide +kernel
theorem dX7_copyElements_54 : decode cX7_copyElements 54 = .ok (.ireturn, 1) := by decide +kernel
theorem dX7_copyElements_55 : decode cX7_copyElements 55 = .ok (.iload_n 2, 1) := by decide +kernel
theorem dX7_copyElements_56 : decode cX7_copyElements 56 = .ok (.ifCond .lt 40, 3) := by decide +kernel
theorem dX7_copyElements_59 : decode cX7_copyElements 59 = .ok (.iload 4, 2) := by decide +kernel
theorem dX7_copyElements_61 : decode cX7_copyElements 61 = .ok (.ifCond .lt 35, 3) := by decide +kernel
theorem dX7_copyElements_64 : decode cX7_copyElements 64 = .ok (.iload 5, 2) := by decide +kernel
theorem dX7_copyElements_66 : decode cX7_copyElements 66 = .ok (.ifCond .lt 30, 3) := by decide +kernel
theorem dX7_copyElements_69 : decode cX7_copyElements 69 = .ok (.iload 5, 2) := by decide +kernel
theorem dX7_copyElements_71 : decode cX7_copyElements 71 = .ok (.aload_n 0, 1) := by decide +kernel
theorem dX7_copyElements_72 : decode cX7_copyElements 72 = .ok (.getfield 71, 3) := by decide +kernel
theorem dX7_copyElements_75 : decode cX7_copyElements 75 = .ok (.iload_n 1, 1) := by decide +kernel
theorem dX7_copyElements_76 : decode cX7_copyElements 76 = .ok (.iaload, 1) := by decide +kernel
theorem dX7_copyElements_77 : decode cX7_copyElements 77 = .ok (.iload_n 2, 1) := by decide +kernel
theorem dX7_copyElements_78 : decode cX7_copyElements 78 = .ok (.isub, 1) := by decide +kernel
theorem dX7_copyElements_79 : decode cX7_copyElements 79 = .ok (.if_icmp .gt 17, 3) := by decide +kernel
theorem dX7_copyElements_82 : decode cX7_copyElements 82 = .ok (.iload 5, 2) := by decide +kernel
theorem dX7_copyElements_84 : decode cX7_copyElements 84 = .ok (.aload_n 0, 1) := by decide +kernel
theorem dX7_copyElements_85 : decode cX7_copyElements 85 = .ok (.getfield 71, 3) := by decide +kernel
theorem dX7_copyElements_88 : decode cX7_copyElements 88 = .ok (.iload_n 3, 1) := by decide +kernel
theorem dX7_copyElements_89 : decode cX7_copyElements 89 = .ok (.iaload, 1) := by decide +kernel
theorem dX7_copyElements_90 : decode cX7_copyElements 90 = .ok (.iload 4, 2) := by decide +kernel
theorem dX7_copyElements_92 : decode cX7_copyElements 92 = .ok (.isub, 1) := by decide +kernel
theorem dX7_copyElements_93 : decode cX7_copyElements 93 = .ok (.if_icmp .le 7, 3) := by decide +kernel
theorem dX7_copyElements_96 : decode cX7_copyElements 96 = .ok (.iconst 1, 1) := by decide +kernel
theorem dX7_copyElements_97 : decode cX7_copyElements 97 = .ok (.goto 4, 3) := by decide +kernel
theorem dX7_copyElements_100 : decode cX7_copyElements 100 = .ok (.iconst 0, 1) := by decide +kernel
theorem dX7_copyElements_101 : decode cX7_copyElements 101 = .ok (.istore 6, 2) := by decide +kernel
theorem dX7_copyElements_103 : decode cX7_copyElements 103 = .ok (.iload 6, 2) := by decide +kernel
theorem dX7_copyElements_105 : decode cX7_copyElements 105 = .ok (.ifCond .eq 6, 3) := by decide +kernel
theorem dX7_copyElements_108 : decode cX7_copyElements 108 = .ok (.bipush (-13), 2) := by decide +kernel
theorem dX7_copyElements_110 : decode cX7_copyElements 110 = .ok (.ireturn, 1) := by decide +kernel
theorem dX7_copyElements_111 : decode cX7_copyElements 111 = .ok (.iconst 0, 1) := by decide +kernel
theorem dX7_copyElements_112 : decode cX7_copyElements 112 = .ok (.istore 7, 2) := by decide +kernel
theorem dX7_copyElements_114 : decode cX7_copyElements 114 = .ok (.iload 7, 2) := by decide +kernel
theorem dX7_copyElements_116 : decode cX7_copyElements 116 = .ok (.iload 5, 2) := by decide +kernel
theorem dX7_copyElements_118 : decode cX7_copyElements 118 = .ok (.if_icmp .ge 31, 3) := by decide +kernel
theorem dX7_copyElements_121 : decode cX7_copyElements 121 = .ok (.aload_n 0, 1) := by decide +kernel
theorem dX7_copyElements_122 : decode cX7_copyElements 122 = .ok (.getfield 77, 3) := by decide +kernel
theorem dX7_copyElements_125 : decode cX7_copyElements 125 = .ok (.iload 7, 2) := by decide +kernel
theorem dX7_copyElements_127 : decode cX7_copyElements 127 = .ok (.aload_n 0, 1) := by decide +kernel
theorem dX7_copyElements_128 : decode cX7_copyElements 128 = .ok (.getfield 74, 3) := by decide +kernel
theorem dX7_copyElements_131 : decode cX7_copyElements 131 = .ok (.sipush 700, 3) := by decide +kernel
theorem dX7_copyElements_134 : decode cX7_copyElements 134 = .ok (.iload_n 1, 1) := by decide +kernel
theorem dX7_copyElements_135 : decode cX7_copyElements 135 = .ok (.imul, 1) := by decide +kernel
theorem dX7_copyElements_136 : decode cX7_copyElements 136 = .ok (.iload_n 2, 1) := by decide +kernel
theorem dX7_copyElements_137 : decode cX7_copyElements 137 = .ok (.iadd, 1) := by decide +kernel
theorem dX7_copyElements_138 : decode cX7_copyElements 138 = .ok (.iload 7, 2) := by decide +kernel
theorem dX7_copyElements_140 : decode cX7_copyElements 140 = .ok (.iadd, 1) := by decide +kernel
theorem dX7_copyElements_141 : decode cX7_copyElements 141 = .ok (.laload, 1) := by decide +kernel
theorem dX7_copyElements_142 : decode cX7_copyElements 142 = .ok (.lastore, 1) := by decide +kernel
theorem dX7_copyElements_143 : decode cX7_copyElements 143 = .ok (.iinc 7 1, 3) := by decide +kernel
theorem dX7_copyElements_146 : decode cX7_copyElements 146 = .ok (.goto (-32), 3) := by decide +kernel
theorem dX7_copyElements_149 : decode cX7_copyElements 149 = .ok (.iconst 0, 1) := by decide +kernel
theorem dX7_copyElements_150 : decode cX7_copyElements 150 = .ok (.istore 7, 2) := by decide +kernel
theorem dX7_copyElements_152 : decode cX7_copyElements 152 = .ok (.iload 7, 2) := by decide +kernel
theorem dX7_copyElements_154 : decode cX7_copyElements 154 = .ok (.iload 5, 2) := by decide +kernel
theorem dX7_copyElements_156 : decode cX7_copyElements 156 = .ok (.if_icmp .ge 32, 3) := by decide +kernel
theorem dX7_copyElements_159 : decode cX7_copyElements 159 = .ok (.aload_n 0, 1) := by decide +kernel
theorem dX7_copyElements_160 : decode cX7_copyElements 160 = .ok (.getfield 74, 3) := by decide +kernel
theorem dX7_copyElements_163 : decode cX7_copyElements 163 = .ok (.sipush 700, 3) := by decide +kernel
theorem dX7_copyElements_166 : decode cX7_copyElements 166 = .ok (.iload_n 3, 1) := by decide +kernel
theorem dX7_copyElements_167 : decode cX7_copyElements 167 = .ok (.imul, 1) := by decide +kernel
theorem dX7_copyElements_168 : decode cX7_copyElements 168 = .ok (.iload 4, 2) := by decide +kernel
theorem dX7_copyElements_170 : decode cX7_copyElements 170 = .ok (.iadd, 1) := by decide +kernel
theorem dX7_copyElements_171 : decode cX7_copyElements 171 = .ok (.iload 7, 2) := by decide +kernel
theorem dX7_copyElements_173 : decode cX7_copyElements 173 = .ok (.iadd, 1) := by decide +kernel
theorem dX7_copyElements_174 : decode cX7_copyElements 174 = .ok (.aload_n 0, 1) := by decide +kernel
theorem dX7_copyElements_175 : decode cX7_copyElements 175 = .ok (.getfield 77, 3) := by decide +kernel
theorem dX7_copyElements_178 : decode cX7_copyElements 178 = .ok (.iload 7, 2) := by decide +kernel
theorem dX7_copyElements_180 : decode cX7_copyElements 180 = .ok (.laload, 1) := by decide +kernel
theorem dX7_copyElements_181 : decode cX7_copyElements 181 = .ok (.lastore, 1) := by decide +kernel
theorem dX7_copyElements_182 : decode cX7_copyElements 182 = .ok (.iinc 7 1, 3) := by decide +kernel
theorem dX7_copyElements_185 : decode cX7_copyElements 185 = .ok (.goto (-33), 3) := by decide +kernel
theorem dX7_copyElements_188 : decode cX7_copyElements 188 = .ok (.iload 5, 2) := by decide +kernel
theorem dX7_copyElements_190 : decode cX7_copyElements 190 = .ok (.ireturn, 1) := by decide +kernel
set_option maxRecDepth 20000 in
theorem ggX7_storeActions_X7_isSlot : GoodIn wsX7_storeActions wsX7_isSlot := goodIn_r _ [5, 6, 7, 4, 8] (by decide +kernel) (by decide +kernel)
set_option maxRecDepth 20000 in
theorem gX7_storeActions_X7_isSlot : GoodIn wsX7_storeActions (va_wsS RX7 246 yX7_isSlot wsX7_isSlot) := goodIn_app (goodIn_of _ (by decide +kernel)) ggX7_storeActions_X7_isSlot
set_option maxRecDepth 20000 in
theorem ggX7_storeActions_X7_cases : GoodIn wsX7_storeActions wsX7_cases := goodIn_r _ [12, 13, 14, 41, 42, 43, 44, 45, 46, 47, 48, 49, 50, 51, 52, 53, 54, 55, 56, 57, 58, 59, 60, 61, 62, 63, 64, 65, 66, 67, 68, 69, 70, 71, 72, 73, 74, 75, 76, 77] (by decide +kernel) (by decide +kernel)
set_option maxRecDepth 20000 in
theorem gX7_storeActions_X7_cases : GoodIn wsX7_storeActions (wsV RX7 102 RX7 yX7_cases wsX7_cases) := goodIn_app (goodIn_of _ (by decide +kernel)) ggX7_storeActions_X7_cases
set_option maxRecDepth 20000 in
theorem ggX7_storeActions_X7_lay : GoodIn wsX7_storeActions wsX7_lay := goodIn_r _ [18, 19, 20, 1, 41, 42, 43, 44, 45, 46, 47, 48, 49, 50, 51, 52, 53, 54, 55, 56, 57, 58, 59, 60, 61, 62, 63, 64, 65, 66, 67, 68, 69, 70, 71, 72, 73, 74, 75, 76, 77] (by decide +kernel) (by decide +kernel)
set_option maxRecDepth 20000 in
theorem gX7_storeActions_X7_lay : GoodIn wsX7_storeActions (wsV RX7 249 RX7 yX7_lay wsX7_lay) := goodIn_app (goodIn_of _ (by decide +kernel)) ggX7_storeActions_X7_lay
set_option maxRecDepth 20000 in
theorem ggX7_storeActions_X7_actionOf : GoodIn wsX7_storeActions wsX7_actionOf := goodIn_r _ [24, 25, 26, 27, 28, 29, 4, 30, 31, 32, 33, 34, 35, 13, 36, 37, 38, 39, 40, 14, 41, 42, 43, 44, 45, 46, 47, 48, 49, 50, 51, 52, 53, 54, 55, 56, 57, 58, 59, 60, 61, 62, 63, 64, 65, 66, 67, 68, 69, 70, 71, 72, 73, 74, 75, 76, 77] (by decide +kernel) (by decide +kernel)
set_option maxRecDepth 20000 in
theorem gX7_storeActions_X7_actionOf : GoodIn wsX7_storeActions (wsV RX7 165 RX7 yX7_actionOf wsX7_actionOf) := goodIn_app (goodIn_of _ (by decide +kernel)) ggX7_storeActions_X7_actionOf
theorem dX7_storeActions_0 : decode cX7_storeActions 0 = .ok (.iload_n 1, 1) := by decide +kernel
theorem dX7_storeActions_1 : decode cX7_storeActions 1 = .ok (.invokestatic 246, 3) := by decide +kernel
theorem dX7_storeActions_4 : decode cX7_storeActions 4 = .ok (.ifCond .ne 5, 3) := by decide +kernel
theorem dX7_storeActions_7 : decode cX7_storeActions 7 = .ok (.iconst (-1), 1) := by decide +kernel
theorem dX7_storeActions_8 : decode cX7_storeActions 8 = .ok (.ireturn, 1) := by decide +kernel
theorem dX7_storeActions_9 : decode cX7_storeActions 9 = .ok (.aload_n 0, 1) := by decide +kernel
theorem dX7_storeActions_10 : decode cX7_storeActions 10 = .ok (.invokevirtual 102, 3) := by decide +kernel
theorem dX7_storeActions_13 : decode cX7_storeActions 13 = .ok (.istore_n 2, 1) := by decide +kernel
theorem dX7_storeActions_14 : decode cX7_storeActions 14 = .ok (.aload_n 0, 1) := by decide +kernel
theorem dX7_storeActions_15 : decode cX7_storeActions 15 = .ok (.iload_n 1, 1) := by decide +kernel
theorem dX7_storeActions_16 : decode cX7_storeActions 16 = .ok (.iconst 1, 1) := by decide +kernel
theorem dX7_storeActions_17 : decode cX7_storeActions 17 = .ok (.iload_n 2, 1) := by decide +kernel
theorem dX7_storeActions_18 : decode cX7_storeActions 18 = .ok (.invokevirtual 249, 3) := by decide +kernel
theorem dX7_storeActions_21 : decode cX7_storeActions 21 = .ok (.iconst 0, 1) := by decide +kernel
theorem dX7_storeActions_22 : decode cX7_storeActions 22 = .ok (.istore_n 3, 1) := by decide +kernel
theorem dX7_storeActions_23 : decode cX7_storeActions 23 = .ok (.iload_n 3, 1) := by decide +kernel
theorem dX7_storeActions_24 : decode cX7_storeActions 24 = .ok (.iload_n 2, 1) := by decide +kernel
theorem dX7_storeActions_25 : decode cX7_storeActions 25 = .ok (.if_icmp .ge 27, 3) := by decide +kernel
theorem dX7_storeActions_28 : decode cX7_storeActions 28 = .ok (.aload_n 0, 1) := by decide +kernel
theorem dX7_storeActions_29 : decode cX7_storeActions 29 = .ok (.getfield 74, 3) := by decide +kernel
theorem dX7_storeActions_32 : decode cX7_storeActions 32 = .ok (.sipush 700, 3) := by decide +kernel
theorem dX7_storeActions_35 : decode cX7_storeActions 35 = .ok (.iload_n 1, 1) := by decide +kernel
theorem dX7_storeActions_36 : decode cX7_storeActions 36 = .ok (.imul, 1) := by decide +kernel
theorem dX7_storeActions_37 : decode cX7_storeActions 37 = .ok (.iload_n 3, 1) := by decide +kernel
theorem dX7_storeActions_38 : decode cX7_storeActions 38 = .ok (.iadd, 1) := by decide +kernel
theorem dX7_storeActions_39 : decode cX7_storeActions 39 = .ok (.aload_n 0, 1) := by decide +kernel
theorem dX7_storeActions_40 : decode cX7_storeActions 40 = .ok (.iload_n 3, 1) := by decide +kernel
theorem dX7_storeActions_41 : decode cX7_storeActions 41 = .ok (.invokevirtual 165, 3) := by decide +kernel
theorem dX7_storeActions_44 : decode cX7_storeActions 44 = .ok (.i2l, 1) := by decide +kernel
theorem dX7_storeActions_45 : decode cX7_storeActions 45 = .ok (.lastore, 1) := by decide +kernel
theorem dX7_storeActions_46 : decode cX7_storeActions 46 = .ok (.iinc 3 1, 3) := by decide +kernel
theorem dX7_storeActions_49 : decode cX7_storeActions 49 = .ok (.goto (-26), 3) := by decide +kernel
theorem dX7_storeActions_52 : decode cX7_storeActions 52 = .ok (.iload_n 2, 1) := by decide +kernel
theorem dX7_storeActions_53 : decode cX7_storeActions 53 = .ok (.ireturn, 1) := by decide +kernel
set_option maxRecDepth 20000 in
theorem ggX7_compareActions_X7_isSlot : GoodIn wsX7_compareActions wsX7_isSlot := goodIn_r _ [7, 8, 9, 6, 10] (by decide +kernel) (by decide +kernel)
set_option maxRecDepth 20000 in
theorem gX7_compareActions_X7_isSlot : GoodIn wsX7_compareActions (va_wsS RX7 246 yX7_isSlot wsX7_isSlot) := goodIn_app (goodIn_of _ (by decide +kernel)) ggX7_compareActions_X7_isSlot
set_option maxRecDepth 20000 in
theorem ggX7_compareActions_X7_cases : GoodIn wsX7_compareActions wsX7_cases := goodIn_r _ [14, 15, 16, 37, 38, 39, 40, 41, 42, 43, 44, 45, 46, 47, 48, 49, 50, 51, 52, 53, 54, 55, 56, 57, 58, 59, 60, 61, 62, 63, 64, 65, 66, 67, 68, 69, 70, 71, 72, 73] (by decide +kernel) (by decide +kernel)
set_option maxRecDepth 20000 in
theorem gX7_compareActions_X7_cases : GoodIn wsX7_compareActions (wsV RX7 102 RX7 yX7_cases wsX7_cases) := goodIn_app (goodIn_of _ (by decide +kernel)) ggX7_compareActions_X7_cases
set_option maxRecDepth 20000 in
theorem ggX7_compareActions_X7_actionOf : GoodIn wsX7_compareActions wsX7_actionOf := goodIn_r _ [20, 21, 22, 23, 24, 25, 6, 26, 27, 28, 29, 30, 31, 15, 32, 33, 34, 35, 36, 16, 37, 38, 39, 40, 41, 42, 43, 44, 45, 46, 47, 48, 49, 50, 51, 52, 53, 54, 55, 56, 57, 58, 59, 60, 61, 62, 63, 64, 65, 66, 67, 68, 69, 70, 71, 72, 73] (by decide +kernel) (by decide +kernel)
set_option maxRecDepth 20000 in
theorem gX7_compareActions_X7_actionOf : GoodIn wsX7_compareActions (wsV RX7 165 RX7 yX7_actionOf wsX7_actionOf) := goodIn_app (goodIn_of _ (by decide +kernel)) ggX7_compareActions_X7_actionOf
theorem dX7_compareActions_0 : decode cX7_compareActions 0 = .ok (.iload_n 1, 1) := by decide +kernel
theorem dX7_compareActions_1 : decode cX7_compareActions 1 = .ok (.invokestatic 246, 3) := by decide +kernel
theorem dX7_compareActions_4 : decode cX7_compareActions 4 = .ok (.ifCond .ne 5, 3) := by decide +kernel
theorem dX7_compareActions_7 : decode cX7_compareActions 7 = .ok (.iconst (-1), 1) := by decide +kernel
theorem dX7_compareActions_8 : decode cX7_compareActions 8 = .ok (.ireturn, 1) := by decide +kernel
theorem dX7_compareActions_9 : decode cX7_compareActions 9 = .ok (.aload_n 0, 1) := by decide +kernel
theorem dX7_compareActions_10 : decode cX7_compareActions 10 = .ok (.getfield 68, 3) := by decide +kernel
theorem dX7_compareActions_13 : decode cX7_compareActions 13 = .ok (.iload_n 1, 1) := by decide +kernel
theorem dX7_compareActions_14 : decode cX7_compareActions 14 = .ok (.iaload, 1) := by decide +kernel
theorem dX7_compareActions_15 : decode cX7_compareActions 15 = .ok (.ifCond .ge 6, 3) := by decide +kernel
theorem dX7_compareActions_18 : decode cX7_compareActions 18 = .ok (.bipush (-11), 2) := by decide +kernel
theorem dX7_compareActions_20 : decode cX7_compareActions 20 = .ok (.ireturn, 1) := by decide +kernel
theorem dX7_compareActions_21 : decode cX7_compareActions 21 = .ok (.aload_n 0, 1) := by decide +kernel
theorem dX7_compareActions_22 : decode cX7_compareActions 22 = .ok (.getfield 68, 3) := by decide +kernel
theorem dX7_compareActions_25 : decode cX7_compareActions 25 = .ok (.iload_n 1, 1) := by decide +kernel
theorem dX7_compareActions_26 : decode cX7_compareActions 26 = .ok (.iaload, 1) := by decide +kernel
theorem dX7_compareActions_27 : decode cX7_compareActions 27 = .ok (.iconst 1, 1) := by decide +kernel
theorem dX7_compareActions_28 : decode cX7_compareActions 28 = .ok (.if_icmp .eq 6, 3) := by decide +kernel
theorem dX7_compareActions_31 : decode cX7_compareActions 31 = .ok (.bipush (-12), 2) := by decide +kernel
theorem dX7_compareActions_33 : decode cX7_compareActions 33 = .ok (.ireturn, 1) := by decide +kernel
theorem dX7_compareActions_34 : decode cX7_compareActions 34 = .ok (.aload_n 0, 1) := by decide +kernel
theorem dX7_compareActions_35 : decode cX7_compareActions 35 = .ok (.invokevirtual 102, 3) := by decide +kernel
theorem dX7_compareActions_38 : decode cX7_compareActions 38 = .ok (.istore_n 2, 1) := by decide +kernel
theorem dX7_compareActions_39 : decode cX7_compareActions 39 = .ok (.iconst 0, 1) := by decide +kernel
theorem dX7_compareActions_40 : decode cX7_compareActions 40 = .ok (.istore_n 3, 1) := by decide +kernel
theorem dX7_compareActions_41 : decode cX7_compareActions 41 = .ok (.iload_n 3, 1) := by decide +kernel
theorem dX7_compareActions_42 : decode cX7_compareActions 42 = .ok (.iload_n 2, 1) := by decide +kernel
theorem dX7_compareActions_43 : decode cX7_compareActions 43 = .ok (.if_icmp .ge 46, 3) := by decide +kernel
theorem dX7_compareActions_46 : decode cX7_compareActions 46 = .ok (.iload_n 3, 1) := by decide +kernel
theorem dX7_compareActions_47 : decode cX7_compareActions 47 = .ok (.aload_n 0, 1) := by decide +kernel
theorem dX7_compareActions_48 : decode cX7_compareActions 48 = .ok (.getfield 71, 3) := by decide +kernel
theorem dX7_compareActions_51 : decode cX7_compareActions 51 = .ok (.iload_n 1, 1) := by decide +kernel
theorem dX7_compareActions_52 : decode cX7_compareActions 52 = .ok (.iaload, 1) := by decide +kernel
theorem dX7_compareActions_53 : decode cX7_compareActions 53 = .ok (.if_icmp .lt 6, 3) := by decide +kernel
theorem dX7_compareActions_56 : decode cX7_compareActions 56 = .ok (.bipush (-13), 2) := by decide +kernel
theorem dX7_compareActions_58 : decode cX7_compareActions 58 = .ok (.ireturn, 1) := by decide +kernel
theorem dX7_compareActions_59 : decode cX7_compareActions 59 = .ok (.aload_n 0, 1) := by decide +kernel
theorem dX7_compareActions_60 : decode cX7_compareActions 60 = .ok (.getfield 74, 3) := by decide +kernel
theorem dX7_compareActions_63 : decode cX7_compareActions 63 = .ok (.sipush 700, 3) := by decide +kernel
theorem dX7_compareActions_66 : decode cX7_compareActions 66 = .ok (.iload_n 1, 1) := by decide +kernel
theorem dX7_compareActions_67 : decode cX7_compareActions 67 = .ok (.imul, 1) := by decide +kernel
theorem dX7_compareActions_68 : decode cX7_compareActions 68 = .ok (.iload_n 3, 1) := by decide +kernel
theorem dX7_compareActions_69 : decode cX7_compareActions 69 = .ok (.iadd, 1) := by decide +kernel
theorem dX7_compareActions_70 : decode cX7_compareActions 70 = .ok (.laload, 1) := by decide +kernel
theorem dX7_compareActions_71 : decode cX7_compareActions 71 = .ok (.aload_n 0, 1) := by decide +kernel
theorem dX7_compareActions_72 : decode cX7_compareActions 72 = .ok (.iload_n 3, 1) := by decide +kernel
theorem dX7_compareActions_73 : decode cX7_compareActions 73 = .ok (.invokevirtual 165, 3) := by decide +kernel
theorem dX7_compareActions_76 : decode cX7_compareActions 76 = .ok (.i2l, 1) := by decide +kernel
theorem dX7_compareActions_77 : decode cX7_compareActions 77 = .ok (.lcmp, 1) := by decide +kernel
theorem dX7_compareActions_78 : decode cX7_compareActions 78 = .ok (.ifCond .eq 5, 3) := by decide +kernel
theorem dX7_compareActions_81 : decode cX7_compareActions 81 = .ok (.iload_n 3, 1) := by decide +kernel
theorem dX7_compareActions_82 : decode cX7_compareActions 82 = .ok (.ireturn, 1) := by decide +kernel
theorem dX7_compareActions_83 : decode cX7_compareActions 83 = .ok (.iinc 3 1, 3) := by decide +kernel
theorem dX7_compareActions_86 : decode cX7_compareActions 86 = .ok (.goto (-45), 3) := by decide +kernel
theorem dX7_compareActions_89 : decode cX7_compareActions 89 = .ok (.bipush (-6), 2) := by decide +kernel
theorem dX7_compareActions_91 : decode cX7_compareActions 91 = .ok (.ireturn, 1) := by decide +kernel
theorem dX7_snapshot_0 : decode cX7_snapshot 0 = .ok (.aload_n 0, 1) := by decide +kernel
theorem dX7_snapshot_1 : decode cX7_snapshot 1 = .ok (.iconst 1, 1) := by decide +kernel
theorem dX7_snapshot_2 : decode cX7_snapshot 2 = .ok (.putfield 256, 3) := by decide +kernel
theorem dX7_snapshot_5 : decode cX7_snapshot 5 = .ok (.aload_n 0, 1) := by decide +kernel
theorem dX7_snapshot_6 : decode cX7_snapshot 6 = .ok (.aload_n 0, 1) := by decide +kernel
theorem dX7_snapshot_7 : decode cX7_snapshot 7 = .ok (.getfield 9, 3) := by decide +kernel
theorem dX7_snapshot_10 : decode cX7_snapshot 10 = .ok (.putfield 259, 3) := by decide +kernel
theorem dX7_snapshot_13 : decode cX7_snapshot 13 = .ok (.aload_n 0, 1) := by decide +kernel
theorem dX7_snapshot_14 : decode cX7_snapshot 14 = .ok (.aload_n 0, 1) := by decide +kernel
theorem dX7_snapshot_15 : decode cX7_snapshot 15 = .ok (.getfield 99, 3) := by decide +kernel
theorem dX7_snapshot_18 : decode cX7_snapshot 18 = .ok (.putfield 262, 3) := by decide +kernel
theorem dX7_snapshot_21 : decode cX7_snapshot 21 = .ok (.aload_n 0, 1) := by decide +kernel
theorem dX7_snapshot_22 : decode cX7_snapshot 22 = .ok (.aload_n 0, 1) := by decide +kernel
theorem dX7_snapshot_23 : decode cX7_snapshot 23 = .ok (.getfield 31, 3) := by decide +kernel
theorem dX7_snapshot_26 : decode cX7_snapshot 26 = .ok (.putfield 265, 3) := by decide +kernel
theorem dX7_snapshot_29 : decode cX7_snapshot 29 = .ok (.iconst 0, 1) := by decide +kernel
theorem dX7_snapshot_30 : decode cX7_snapshot 30 = .ok (.istore_n 1, 1) := by decide +kernel
theorem dX7_snapshot_31 : decode cX7_snapshot 31 = .ok (.iload_n 1, 1) := by decide +kernel
theorem dX7_snapshot_32 : decode cX7_snapshot 32 = .ok (.bipush 48, 2) := by decide +kernel
theorem dX7_snapshot_34 : decode cX7_snapshot 34 = .ok (.if_icmp .ge 89, 3) := by decide +kernel
theorem dX7_snapshot_37 : decode cX7_snapshot 37 = .ok (.aload_n 0, 1) := by decide +kernel
theorem dX7_snapshot_38 : decode cX7_snapshot 38 = .ok (.getfield 89, 3) := by decide +kernel
theorem dX7_snapshot_41 : decode cX7_snapshot 41 = .ok (.iload_n 1, 1) := by decide +kernel
theorem dX7_snapshot_42 : decode cX7_snapshot 42 = .ok (.aload_n 0, 1) := by decide +kernel
theorem dX7_snapshot_43 : decode cX7_snapshot 43 = .ok (.getfield 25, 3) := by decide +kernel
theorem dX7_snapshot_46 : decode cX7_snapshot 46 = .ok (.iload_n 1, 1) := by decide +kernel
theorem dX7_snapshot_47 : decode cX7_snapshot 47 = .ok (.iaload, 1) := by decide +kernel
theorem dX7_snapshot_48 : decode cX7_snapshot 48 = .ok (.iastore, 1) := by decide +kernel
theorem dX7_snapshot_49 : decode cX7_snapshot 49 = .ok (.aload_n 0, 1) := by decide +kernel
theorem dX7_snapshot_50 : decode cX7_snapshot 50 = .ok (.getfield 80, 3) := by decide +kernel
theorem dX7_snapshot_53 : decode cX7_snapshot 53 = .ok (.iload_n 1, 1) := by decide +kernel
theorem dX7_snapshot_54 : decode cX7_snapshot 54 = .ok (.iconst 4, 1) := by decide +kernel
theorem dX7_snapshot_55 : decode cX7_snapshot 55 = .ok (.irem, 1) := by decide +kernel
theorem dX7_snapshot_56 : decode cX7_snapshot 56 = .ok (.aload_n 0, 1) := by decide +kernel
theorem dX7_snapshot_57 : decode cX7_snapshot 57 = .ok (.getfield 15, 3) := by decide +kernel
theorem dX7_snapshot_60 : decode cX7_snapshot 60 = .ok (.iload_n 1, 1) := by decide +kernel
theorem dX7_snapshot_61 : decode cX7_snapshot 61 = .ok (.iconst 4, 1) := by decide +kernel
theorem dX7_snapshot_62 : decode cX7_snapshot 62 = .ok (.irem, 1) := by decide +kernel
theorem dX7_snapshot_63 : decode cX7_snapshot 63 = .ok (.iaload, 1) := by decide +kernel
theorem dX7_snapshot_64 : decode cX7_snapshot 64 = .ok (.iastore, 1) := by decide +kernel
theorem dX7_snapshot_65 : decode cX7_snapshot 65 = .ok (.aload_n 0, 1) := by decide +kernel
theorem dX7_snapshot_66 : decode cX7_snapshot 66 = .ok (.getfield 86, 3) := by decide +kernel
theorem dX7_snapshot_69 : decode cX7_snapshot 69 = .ok (.iload_n 1, 1) := by decide +kernel
theorem dX7_snapshot_70 : decode cX7_snapshot 70 = .ok (.iconst 4, 1) := by decide +kernel
theorem dX7_snapshot_71 : decode cX7_snapshot 71 = .ok (.irem, 1) := by decide +kernel
theorem dX7_snapshot_72 : decode cX7_snapshot 72 = .ok (.aload_n 0, 1) := by decide +kernel
theorem dX7_snapshot_73 : decode cX7_snapshot 73 = .ok (.getfield 22, 3) := by decide +kernel
theorem dX7_snapshot_76 : decode cX7_snapshot 76 = .ok (.iload_n 1, 1) := by decide +kernel
theorem dX7_snapshot_77 : decode cX7_snapshot 77 = .ok (.iconst 4, 1) := by decide +kernel
theorem dX7_snapshot_78 : decode cX7_snapshot 78 = .ok (.irem, 1) := by decide +kernel
theorem dX7_snapshot_79 : decode cX7_snapshot 79 = .ok (.iaload, 1) := by decide +kernel
theorem dX7_snapshot_80 : decode cX7_snapshot 80 = .ok (.iastore, 1) := by decide +kernel
theorem dX7_snapshot_81 : decode cX7_snapshot 81 = .ok (.aload_n 0, 1) := by decide +kernel
theorem dX7_snapshot_82 : decode cX7_snapshot 82 = .ok (.getfield 83, 3) := by decide +kernel
theorem dX7_snapshot_85 : decode cX7_snapshot 85 = .ok (.iload_n 1, 1) := by decide +kernel
theorem dX7_snapshot_86 : decode cX7_snapshot 86 = .ok (.bipush 20, 2) := by decide +kernel
theorem dX7_snapshot_88 : decode cX7_snapshot 88 = .ok (.irem, 1) := by decide +kernel
theorem dX7_snapshot_89 : decode cX7_snapshot 89 = .ok (.aload_n 0, 1) := by decide +kernel
theorem dX7_snapshot_90 : decode cX7_snapshot 90 = .ok (.getfield 19, 3) := by decide +kernel
theorem dX7_snapshot_93 : decode cX7_snapshot 93 = .ok (.iload_n 1, 1) := by decide +kernel
theorem dX7_snapshot_94 : decode cX7_snapshot 94 = .ok (.bipush 20, 2) := by decide +kernel
theorem dX7_snapshot_96 : decode cX7_snapshot 96 = .ok (.irem, 1) := by decide +kernel
theorem dX7_snapshot_97 : decode cX7_snapshot 97 = .ok (.iaload, 1) := by decide +kernel
theorem dX7_snapshot_98 : decode cX7_snapshot 98 = .ok (.iastore, 1) := by decide +kernel
theorem dX7_snapshot_99 : decode cX7_snapshot 99 = .ok (.aload_n 0, 1) := by decide +kernel
theorem dX7_snapshot_100 : decode cX7_snapshot 100 = .ok (.getfield 92, 3) := by decide +kernel
theorem dX7_snapshot_103 : decode cX7_snapshot 103 = .ok (.iload_n 1, 1) := by decide +kernel
theorem dX7_snapshot_104 : decode cX7_snapshot 104 = .ok (.bipush 12, 2) := by decide +kernel
theorem dX7_snapshot_106 : decode cX7_snapshot 106 = .ok (.irem, 1) := by decide +kernel
theorem dX7_snapshot_107 : decode cX7_snapshot 107 = .ok (.aload_n 0, 1) := by decide +kernel
theorem dX7_snapshot_108 : decode cX7_snapshot 108 = .ok (.getfield 28, 3) := by decide +kernel
theorem dX7_snapshot_111 : decode cX7_snapshot 111 = .ok (.iload_n 1, 1) := by decide +kernel
theorem dX7_snapshot_112 : decode cX7_snapshot 112 = .ok (.bipush 12, 2) := by decide +kernel
theorem dX7_snapshot_114 : decode cX7_snapshot 114 = .ok (.irem, 1) := by decide +kernel
theorem dX7_snapshot_115 : decode cX7_snapshot 115 = .ok (.iaload, 1) := by decide +kernel
theorem dX7_snapshot_116 : decode cX7_snapshot 116 = .ok (.iastore, 1) := by decide +kernel
theorem dX7_snapshot_117 : decode cX7_snapshot 117 = .ok (.iinc 1 1, 3) := by decide +kernel
theorem dX7_snapshot_120 : decode cX7_snapshot 120 = .ok (.goto (-89), 3) := by decide +kernel
theorem dX7_snapshot_123 : decode cX7_snapshot 123 = .ok (.aload_n 0, 1) := by decide +kernel
theorem dX7_snapshot_124 : decode cX7_snapshot 124 = .ok (.getfield 99, 3) := by decide +kernel
theorem dX7_snapshot_127 : decode cX7_snapshot 127 = .ok (.ireturn, 1) := by decide +kernel
theorem dX7_restore_0 : decode cX7_restore 0 = .ok (.aload_n 0, 1) := by decide +kernel
theorem dX7_restore_1 : decode cX7_restore 1 = .ok (.getfield 256, 3) := by decide +kernel
theorem dX7_restore_4 : decode cX7_restore 4 = .ok (.ifCond .ne 6, 3) := by decide +kernel
theorem dX7_restore_7 : decode cX7_restore 7 = .ok (.bipush (-6), 2) := by decide +kernel
theorem dX7_restore_9 : decode cX7_restore 9 = .ok (.ireturn, 1) := by decide +kernel
theorem dX7_restore_10 : decode cX7_restore 10 = .ok (.aload_n 0, 1) := by decide +kernel
theorem dX7_restore_11 : decode cX7_restore 11 = .ok (.aload_n 0, 1) := by decide +kernel
theorem dX7_restore_12 : decode cX7_restore 12 = .ok (.getfield 259, 3) := by decide +kernel
theorem dX7_restore_15 : decode cX7_restore 15 = .ok (.putfield 9, 3) := by decide +kernel
theorem dX7_restore_18 : decode cX7_restore 18 = .ok (.aload_n 0, 1) := by decide +kernel
theorem dX7_restore_19 : decode cX7_restore 19 = .ok (.aload_n 0, 1) := by decide +kernel
theorem dX7_restore_20 : decode cX7_restore 20 = .ok (.getfield 262, 3) := by decide +kernel
theorem dX7_restore_23 : decode cX7_restore 23 = .ok (.putfield 99, 3) := by decide +kernel
theorem dX7_restore_26 : decode cX7_restore 26 = .ok (.aload_n 0, 1) := by decide +kernel
theorem dX7_restore_27 : decode cX7_restore 27 = .ok (.aload_n 0, 1) := by decide +kernel
theorem dX7_restore_28 : decode cX7_restore 28 = .ok (.getfield 265, 3) := by decide +kernel
theorem dX7_restore_31 : decode cX7_restore 31 = .ok (.putfield 31, 3) := by decide +kernel
theorem dX7_restore_34 : decode cX7_restore 34 = .ok (.iconst 0, 1) := by decide +kernel
theorem dX7_restore_35 : decode cX7_restore 35 = .ok (.istore_n 1, 1) := by decide +kernel
theorem dX7_restore_36 : decode cX7_restore 36 = .ok (.iload_n 1, 1) := by decide +kernel
theorem dX7_restore_37 : decode cX7_restore 37 = .ok (.bipush 48, 2) := by decide +kernel
theorem dX7_restore_39 : decode cX7_restore 39 = .ok (.if_icmp .ge 89, 3) := by decide +kernel
theorem dX7_restore_42 : decode cX7_restore 42 = .ok (.aload_n 0, 1) := by decide +kernel
theorem dX7_restore_43 : decode cX7_restore 43 = .ok (.getfield 25, 3) := by decide +kernel
theorem dX7_restore_46 : decode cX7_restore 46 = .ok (.iload_n 1, 1) := by decide +kernel
theorem dX7_restore_47 : decode cX7_restore 47 = .ok (.aload_n 0, 1) := by decide +kernel
theorem dX7_restore_48 : decode cX7_restore 48 = .ok (.getfield 89, 3) := by decide +kernel
theorem dX7_restore_51 : decode cX7_restore 51 = .ok (.iload_n 1, 1) := by decide +kernel
theorem dX7_restore_52 : decode cX7_restore 52 = .ok (.iaload, 1) := by decide +kernel
theorem dX7_restore_53 : decode cX7_restore 53 = .ok (.iastore, 1) := by decide +kernel
theorem dX7_restore_54 : decode cX7_restore 54 = .ok (.aload_n 0, 1) := by decide +kernel
theorem dX7_restore_55 : decode cX7_restore 55 = .ok (.getfield 15, 3) := by decide +kernel
theorem dX7_restore_58 : decode cX7_restore 58 = .ok (.iload_n 1, 1) := by decide +kernel
theorem dX7_restore_59 : decode cX7_restore 59 = .ok (.iconst 4, 1) := by decide +kernel
theorem dX7_restore_60 : decode cX7_restore 60 = .ok (.irem, 1) := by decide +kernel
theorem dX7_restore_61 : decode cX7_restore 61 = .ok (.aload_n 0, 1) := by decide +kernel
theorem dX7_restore_62 : decode cX7_restore 62 = .ok (.getfield 80, 3) := by decide +kernel
theorem dX7_restore_65 : decode cX7_restore 65 = .ok (.iload_n 1, 1) := by decide +kernel
theorem dX7_restore_66 : decode cX7_restore 66 = .ok (.iconst 4, 1) := by decide +kernel
theorem dX7_restore_67 : decode cX7_restore 67 = .ok (.irem, 1) := by decide +kernel
theorem dX7_restore_68 : decode cX7_restore 68 = .ok (.iaload, 1) := by decide +kernel
theorem dX7_restore_69 : decode cX7_restore 69 = .ok (.iastore, 1) := by decide +kernel
theorem dX7_restore_70 : decode cX7_restore 70 = .ok (.aload_n 0, 1) := by decide +kernel
theorem dX7_restore_71 : decode cX7_restore 71 = .ok (.getfield 22, 3) := by decide +kernel
theorem dX7_restore_74 : decode cX7_restore 74 = .ok (.iload_n 1, 1) := by decide +kernel
theorem dX7_restore_75 : decode cX7_restore 75 = .ok (.iconst 4, 1) := by decide +kernel
theorem dX7_restore_76 : decode cX7_restore 76 = .ok (.irem, 1) := by decide +kernel
theorem dX7_restore_77 : decode cX7_restore 77 = .ok (.aload_n 0, 1) := by decide +kernel
theorem dX7_restore_78 : decode cX7_restore 78 = .ok (.getfield 86, 3) := by decide +kernel
theorem dX7_restore_81 : decode cX7_restore 81 = .ok (.iload_n 1, 1) := by decide +kernel
theorem dX7_restore_82 : decode cX7_restore 82 = .ok (.iconst 4, 1) := by decide +kernel
theorem dX7_restore_83 : decode cX7_restore 83 = .ok (.irem, 1) := by decide +kernel
theorem dX7_restore_84 : decode cX7_restore 84 = .ok (.iaload, 1) := by decide +kernel
theorem dX7_restore_85 : decode cX7_restore 85 = .ok (.iastore, 1) := by decide +kernel
theorem dX7_restore_86 : decode cX7_restore 86 = .ok (.aload_n 0, 1) := by decide +kernel
theorem dX7_restore_87 : decode cX7_restore 87 = .ok (.getfield 19, 3) := by decide +kernel
theorem dX7_restore_90 : decode cX7_restore 90 = .ok (.iload_n 1, 1) := by decide +kernel
theorem dX7_restore_91 : decode cX7_restore 91 = .ok (.bipush 20, 2) := by decide +kernel
theorem dX7_restore_93 : decode cX7_restore 93 = .ok (.irem, 1) := by decide +kernel
theorem dX7_restore_94 : decode cX7_restore 94 = .ok (.aload_n 0, 1) := by decide +kernel
theorem dX7_restore_95 : decode cX7_restore 95 = .ok (.getfield 83, 3) := by decide +kernel
theorem dX7_restore_98 : decode cX7_restore 98 = .ok (.iload_n 1, 1) := by decide +kernel
theorem dX7_restore_99 : decode cX7_restore 99 = .ok (.bipush 20, 2) := by decide +kernel
theorem dX7_restore_101 : decode cX7_restore 101 = .ok (.irem, 1) := by decide +kernel
theorem dX7_restore_102 : decode cX7_restore 102 = .ok (.iaload, 1) := by decide +kernel
theorem dX7_restore_103 : decode cX7_restore 103 = .ok (.iastore, 1) := by decide +kernel
theorem dX7_restore_104 : decode cX7_restore 104 = .ok (.aload_n 0, 1) := by decide +kernel
theorem dX7_restore_105 : decode cX7_restore 105 = .ok (.getfield 28, 3) := by decide +kernel
theorem dX7_restore_108 : decode cX7_restore 108 = .ok (.iload_n 1, 1) := by decide +kernel
theorem dX7_restore_109 : decode cX7_restore 109 = .ok (.bipush 12, 2) := by decide +kernel
theorem dX7_restore_111 : decode cX7_restore 111 = .ok (.irem, 1) := by decide +kernel
theorem dX7_restore_112 : decode cX7_restore 112 = .ok (.aload_n 0, 1) := by decide +kernel
theorem dX7_restore_113 : decode cX7_restore 113 = .ok (.getfield 92, 3) := by decide +kernel
theorem dX7_restore_116 : decode cX7_restore 116 = .ok (.iload_n 1, 1) := by decide +kernel
theorem dX7_restore_117 : decode cX7_restore 117 = .ok (.bipush 12, 2) := by decide +kernel
theorem dX7_restore_119 : decode cX7_restore 119 = .ok (.irem, 1) := by decide +kernel
theorem dX7_restore_120 : decode cX7_restore 120 = .ok (.iaload, 1) := by decide +kernel
theorem dX7_restore_121 : decode cX7_restore 121 = .ok (.iastore, 1) := by decide +kernel
theorem dX7_restore_122 : decode cX7_restore 122 = .ok (.iinc 1 1, 3) := by decide +kernel
theorem dX7_restore_125 : decode cX7_restore 125 = .ok (.goto (-89), 3) := by decide +kernel
theorem dX7_restore_128 : decode cX7_restore 128 = .ok (.aload_n 0, 1) := by decide +kernel
theorem dX7_restore_129 : decode cX7_restore 129 = .ok (.iconst 0, 1) := by decide +kernel
theorem dX7_restore_130 : decode cX7_restore 130 = .ok (.putfield 110, 3) := by decide +kernel
theorem dX7_restore_133 : decode cX7_restore 133 = .ok (.aload_n 0, 1) := by decide +kernel
theorem dX7_restore_134 : decode cX7_restore 134 = .ok (.getfield 99, 3) := by decide +kernel
theorem dX7_restore_137 : decode cX7_restore 137 = .ok (.ireturn, 1) := by decide +kernel
theorem dJ6_numberOfTrailingZeros_0f7a4_0 : decode cJ6_numberOfTrailingZeros_0f7a4 0 = .ok (.iload_n 0, 1) := by decide +kernel
theorem dJ6_numberOfTrailingZeros_0f7a4_1 : decode cJ6_numberOfTrailingZeros_0f7a4 1 = .ok (.iconst (-1), 1) := by decide +kernel
theorem dJ6_numberOfTrailingZeros_0f7a4_2 : decode cJ6_numberOfTrailingZeros_0f7a4 2 = .ok (.ixor, 1) := by decide +kernel
theorem dJ6_numberOfTrailingZeros_0f7a4_3 : decode cJ6_numberOfTrailingZeros_0f7a4 3 = .ok (.iload_n 0, 1) := by decide +kernel
theorem dJ6_numberOfTrailingZeros_0f7a4_4 : decode cJ6_numberOfTrailingZeros_0f7a4 4 = .ok (.iconst 1, 1) := by decide +kernel
theorem dJ6_numberOfTrailingZeros_0f7a4_5 : decode cJ6_numberOfTrailingZeros_0f7a4 5 = .ok (.isub, 1) := by decide +kernel
theorem dJ6_numberOfTrailingZeros_0f7a4_6 : decode cJ6_numberOfTrailingZeros_0f7a4 6 = .ok (.iand, 1) := by decide +kernel
theorem dJ6_numberOfTrailingZeros_0f7a4_7 : decode cJ6_numberOfTrailingZeros_0f7a4 7 = .ok (.istore_n 0, 1) := by decide +kernel
theorem dJ6_numberOfTrailingZeros_0f7a4_8 : decode cJ6_numberOfTrailingZeros_0f7a4 8 = .ok (.iload_n 0, 1) := by decide +kernel
theorem dJ6_numberOfTrailingZeros_0f7a4_9 : decode cJ6_numberOfTrailingZeros_0f7a4 9 = .ok (.ifCond .gt 8, 3) := by decide +kernel
theorem dJ6_numberOfTrailingZeros_0f7a4_12 : decode cJ6_numberOfTrailingZeros_0f7a4 12 = .ok (.iload_n 0, 1) := by decide +kernel
theorem dJ6_numberOfTrailingZeros_0f7a4_13 : decode cJ6_numberOfTrailingZeros_0f7a4 13 = .ok (.bipush 32, 2) := by decide +kernel
theorem dJ6_numberOfTrailingZeros_0f7a4_15 : decode cJ6_numberOfTrailingZeros_0f7a4 15 = .ok (.iand, 1) := by decide +kernel
theorem dJ6_numberOfTrailingZeros_0f7a4_16 : decode cJ6_numberOfTrailingZeros_0f7a4 16 = .ok (.ireturn, 1) := by decide +kernel
theorem dJ6_numberOfTrailingZeros_0f7a4_17 : decode cJ6_numberOfTrailingZeros_0f7a4 17 = .ok (.iconst 1, 1) := by decide +kernel
theorem dJ6_numberOfTrailingZeros_0f7a4_18 : decode cJ6_numberOfTrailingZeros_0f7a4 18 = .ok (.istore_n 1, 1) := by decide +kernel
theorem dJ6_numberOfTrailingZeros_0f7a4_19 : decode cJ6_numberOfTrailingZeros_0f7a4 19 = .ok (.iload_n 0, 1) := by decide +kernel
theorem dJ6_numberOfTrailingZeros_0f7a4_20 : decode cJ6_numberOfTrailingZeros_0f7a4 20 = .ok (.ldc_w 264, 3) := by decide +kernel
theorem dJ6_numberOfTrailingZeros_0f7a4_23 : decode cJ6_numberOfTrailingZeros_0f7a4 23 = .ok (.if_icmp .le 11, 3) := by decide +kernel
theorem dJ6_numberOfTrailingZeros_0f7a4_26 : decode cJ6_numberOfTrailingZeros_0f7a4 26 = .ok (.iinc 1 16, 3) := by decide +kernel
theorem dJ6_numberOfTrailingZeros_0f7a4_29 : decode cJ6_numberOfTrailingZeros_0f7a4 29 = .ok (.iload_n 0, 1) := by decide +kernel
theorem dJ6_numberOfTrailingZeros_0f7a4_30 : decode cJ6_numberOfTrailingZeros_0f7a4 30 = .ok (.bipush 16, 2) := by decide +kernel
theorem dJ6_numberOfTrailingZeros_0f7a4_32 : decode cJ6_numberOfTrailingZeros_0f7a4 32 = .ok (.iushr, 1) := by decide +kernel
theorem dJ6_numberOfTrailingZeros_0f7a4_33 : decode cJ6_numberOfTrailingZeros_0f7a4 33 = .ok (.istore_n 0, 1) := by decide +kernel
theorem dJ6_numberOfTrailingZeros_0f7a4_34 : decode cJ6_numberOfTrailingZeros_0f7a4 34 = .ok (.iload_n 0, 1) := by decide +kernel
theorem dJ6_numberOfTrailingZeros_0f7a4_35 : decode cJ6_numberOfTrailingZeros_0f7a4 35 = .ok (.sipush 256, 3) := by decide +kernel
theorem dJ6_numberOfTrailingZeros_0f7a4_38 : decode cJ6_numberOfTrailingZeros_0f7a4 38 = .ok (.if_icmp .le 11, 3) := by decide +kernel
theorem dJ6_numberOfTrailingZeros_0f7a4_41 : decode cJ6_numberOfTrailingZeros_0f7a4 41 = .ok (.iinc 1 8, 3) := by decide +kernel
theorem dJ6_numberOfTrailingZeros_0f7a4_44 : decode cJ6_numberOfTrailingZeros_0f7a4 44 = .ok (.iload_n 0, 1) := by decide +kernel
theorem dJ6_numberOfTrailingZeros_0f7a4_45 : decode cJ6_numberOfTrailingZeros_0f7a4 45 = .ok (.bipush 8, 2) := by decide +kernel
theorem dJ6_numberOfTrailingZeros_0f7a4_47 : decode cJ6_numberOfTrailingZeros_0f7a4 47 = .ok (.iushr, 1) := by decide +kernel
theorem dJ6_numberOfTrailingZeros_0f7a4_48 : decode cJ6_numberOfTrailingZeros_0f7a4 48 = .ok (.istore_n 0, 1) := by decide +kernel
theorem dJ6_numberOfTrailingZeros_0f7a4_49 : decode cJ6_numberOfTrailingZeros_0f7a4 49 = .ok (.iload_n 0, 1) := by decide +kernel
theorem dJ6_numberOfTrailingZeros_0f7a4_50 : decode cJ6_numberOfTrailingZeros_0f7a4 50 = .ok (.bipush 16, 2) := by decide +kernel
theorem dJ6_numberOfTrailingZeros_0f7a4_52 : decode cJ6_numberOfTrailingZeros_0f7a4 52 = .ok (.if_icmp .le 10, 3) := by decide +kernel
theorem dJ6_numberOfTrailingZeros_0f7a4_55 : decode cJ6_numberOfTrailingZeros_0f7a4 55 = .ok (.iinc 1 4, 3) := by decide +kernel
theorem dJ6_numberOfTrailingZeros_0f7a4_58 : decode cJ6_numberOfTrailingZeros_0f7a4 58 = .ok (.iload_n 0, 1) := by decide +kernel
theorem dJ6_numberOfTrailingZeros_0f7a4_59 : decode cJ6_numberOfTrailingZeros_0f7a4 59 = .ok (.iconst 4, 1) := by decide +kernel
theorem dJ6_numberOfTrailingZeros_0f7a4_60 : decode cJ6_numberOfTrailingZeros_0f7a4 60 = .ok (.iushr, 1) := by decide +kernel
theorem dJ6_numberOfTrailingZeros_0f7a4_61 : decode cJ6_numberOfTrailingZeros_0f7a4 61 = .ok (.istore_n 0, 1) := by decide +kernel
theorem dJ6_numberOfTrailingZeros_0f7a4_62 : decode cJ6_numberOfTrailingZeros_0f7a4 62 = .ok (.iload_n 0, 1) := by decide +kernel
theorem dJ6_numberOfTrailingZeros_0f7a4_63 : decode cJ6_numberOfTrailingZeros_0f7a4 63 = .ok (.iconst 4, 1) := by decide +kernel
theorem dJ6_numberOfTrailingZeros_0f7a4_64 : decode cJ6_numberOfTrailingZeros_0f7a4 64 = .ok (.if_icmp .le 10, 3) := by decide +kernel
theorem dJ6_numberOfTrailingZeros_0f7a4_67 : decode cJ6_numberOfTrailingZeros_0f7a4 67 = .ok (.iinc 1 2, 3) := by decide +kernel
theorem dJ6_numberOfTrailingZeros_0f7a4_70 : decode cJ6_numberOfTrailingZeros_0f7a4 70 = .ok (.iload_n 0, 1) := by decide +kernel
theorem dJ6_numberOfTrailingZeros_0f7a4_71 : decode cJ6_numberOfTrailingZeros_0f7a4 71 = .ok (.iconst 2, 1) := by decide +kernel
theorem dJ6_numberOfTrailingZeros_0f7a4_72 : decode cJ6_numberOfTrailingZeros_0f7a4 72 = .ok (.iushr, 1) := by decide +kernel
theorem dJ6_numberOfTrailingZeros_0f7a4_73 : decode cJ6_numberOfTrailingZeros_0f7a4 73 = .ok (.istore_n 0, 1) := by decide +kernel
theorem dJ6_numberOfTrailingZeros_0f7a4_74 : decode cJ6_numberOfTrailingZeros_0f7a4 74 = .ok (.iload_n 1, 1) := by decide +kernel
theorem dJ6_numberOfTrailingZeros_0f7a4_75 : decode cJ6_numberOfTrailingZeros_0f7a4 75 = .ok (.iload_n 0, 1) := by decide +kernel
theorem dJ6_numberOfTrailingZeros_0f7a4_76 : decode cJ6_numberOfTrailingZeros_0f7a4 76 = .ok (.iconst 1, 1) := by decide +kernel
theorem dJ6_numberOfTrailingZeros_0f7a4_77 : decode cJ6_numberOfTrailingZeros_0f7a4 77 = .ok (.iushr, 1) := by decide +kernel
theorem dJ6_numberOfTrailingZeros_0f7a4_78 : decode cJ6_numberOfTrailingZeros_0f7a4 78 = .ok (.iadd, 1) := by decide +kernel
theorem dJ6_numberOfTrailingZeros_0f7a4_79 : decode cJ6_numberOfTrailingZeros_0f7a4 79 = .ok (.ireturn, 1) := by decide +kernel
theorem dJ6_bitCount_0f7a4_0 : decode cJ6_bitCount_0f7a4 0 = .ok (.iload_n 0, 1) := by decide +kernel
theorem dJ6_bitCount_0f7a4_1 : decode cJ6_bitCount_0f7a4 1 = .ok (.iload_n 0, 1) := by decide +kernel
theorem dJ6_bitCount_0f7a4_2 : decode cJ6_bitCount_0f7a4 2 = .ok (.iconst 1, 1) := by decide +kernel
theorem dJ6_bitCount_0f7a4_3 : decode cJ6_bitCount_0f7a4 3 = .ok (.iushr, 1) := by decide +kernel
theorem dJ6_bitCount_0f7a4_4 : decode cJ6_bitCount_0f7a4 4 = .ok (.ldc_w 265, 3) := by decide +kernel
theorem dJ6_bitCount_0f7a4_7 : decode cJ6_bitCount_0f7a4 7 = .ok (.iand, 1) := by decide +kernel
theorem dJ6_bitCount_0f7a4_8 : decode cJ6_bitCount_0f7a4 8 = .ok (.isub, 1) := by decide +kernel
theorem dJ6_bitCount_0f7a4_9 : decode cJ6_bitCount_0f7a4 9 = .ok (.istore_n 0, 1) := by decide +kernel
theorem dJ6_bitCount_0f7a4_10 : decode cJ6_bitCount_0f7a4 10 = .ok (.iload_n 0, 1) := by decide +kernel
theorem dJ6_bitCount_0f7a4_11 : decode cJ6_bitCount_0f7a4 11 = .ok (.ldc_w 266, 3) := by decide +kernel
theorem dJ6_bitCount_0f7a4_14 : decode cJ6_bitCount_0f7a4 14 = .ok (.iand, 1) := by decide +kernel
theorem dJ6_bitCount_0f7a4_15 : decode cJ6_bitCount_0f7a4 15 = .ok (.iload_n 0, 1) := by decide +kernel
theorem dJ6_bitCount_0f7a4_16 : decode cJ6_bitCount_0f7a4 16 = .ok (.iconst 2, 1) := by decide +kernel
theorem dJ6_bitCount_0f7a4_17 : decode cJ6_bitCount_0f7a4 17 = .ok (.iushr, 1) := by decide +kernel
theorem dJ6_bitCount_0f7a4_18 : decode cJ6_bitCount_0f7a4 18 = .ok (.ldc_w 266, 3) := by decide +kernel
theorem dJ6_bitCount_0f7a4_21 : decode cJ6_bitCount_0f7a4 21 = .ok (.iand, 1) := by decide +kernel
theorem dJ6_bitCount_0f7a4_22 : decode cJ6_bitCount_0f7a4 22 = .ok (.iadd, 1) := by decide +kernel
theorem dJ6_bitCount_0f7a4_23 : decode cJ6_bitCount_0f7a4 23 = .ok (.istore_n 0, 1) := by decide +kernel
theorem dJ6_bitCount_0f7a4_24 : decode cJ6_bitCount_0f7a4 24 = .ok (.iload_n 0, 1) := by decide +kernel
theorem dJ6_bitCount_0f7a4_25 : decode cJ6_bitCount_0f7a4 25 = .ok (.iload_n 0, 1) := by decide +kernel
theorem dJ6_bitCount_0f7a4_26 : decode cJ6_bitCount_0f7a4 26 = .ok (.iconst 4, 1) := by decide +kernel
theorem dJ6_bitCount_0f7a4_27 : decode cJ6_bitCount_0f7a4 27 = .ok (.iushr, 1) := by decide +kernel
theorem dJ6_bitCount_0f7a4_28 : decode cJ6_bitCount_0f7a4 28 = .ok (.iadd, 1) := by decide +kernel
theorem dJ6_bitCount_0f7a4_29 : decode cJ6_bitCount_0f7a4 29 = .ok (.ldc_w 267, 3) := by decide +kernel
theorem dJ6_bitCount_0f7a4_32 : decode cJ6_bitCount_0f7a4 32 = .ok (.iand, 1) := by decide +kernel
theorem dJ6_bitCount_0f7a4_33 : decode cJ6_bitCount_0f7a4 33 = .ok (.istore_n 0, 1) := by decide +kernel
theorem dJ6_bitCount_0f7a4_34 : decode cJ6_bitCount_0f7a4 34 = .ok (.iload_n 0, 1) := by decide +kernel
theorem dJ6_bitCount_0f7a4_35 : decode cJ6_bitCount_0f7a4 35 = .ok (.iload_n 0, 1) := by decide +kernel
theorem dJ6_bitCount_0f7a4_36 : decode cJ6_bitCount_0f7a4 36 = .ok (.bipush 8, 2) := by decide +kernel
theorem dJ6_bitCount_0f7a4_38 : decode cJ6_bitCount_0f7a4 38 = .ok (.iushr, 1) := by decide +kernel
theorem dJ6_bitCount_0f7a4_39 : decode cJ6_bitCount_0f7a4 39 = .ok (.iadd, 1) := by decide +kernel
theorem dJ6_bitCount_0f7a4_40 : decode cJ6_bitCount_0f7a4 40 = .ok (.istore_n 0, 1) := by decide +kernel
theorem dJ6_bitCount_0f7a4_41 : decode cJ6_bitCount_0f7a4 41 = .ok (.iload_n 0, 1) := by decide +kernel
theorem dJ6_bitCount_0f7a4_42 : decode cJ6_bitCount_0f7a4 42 = .ok (.iload_n 0, 1) := by decide +kernel
theorem dJ6_bitCount_0f7a4_43 : decode cJ6_bitCount_0f7a4 43 = .ok (.bipush 16, 2) := by decide +kernel
theorem dJ6_bitCount_0f7a4_45 : decode cJ6_bitCount_0f7a4 45 = .ok (.iushr, 1) := by decide +kernel
theorem dJ6_bitCount_0f7a4_46 : decode cJ6_bitCount_0f7a4 46 = .ok (.iadd, 1) := by decide +kernel
theorem dJ6_bitCount_0f7a4_47 : decode cJ6_bitCount_0f7a4 47 = .ok (.istore_n 0, 1) := by decide +kernel
theorem dJ6_bitCount_0f7a4_48 : decode cJ6_bitCount_0f7a4 48 = .ok (.iload_n 0, 1) := by decide +kernel
theorem dJ6_bitCount_0f7a4_49 : decode cJ6_bitCount_0f7a4 49 = .ok (.bipush 63, 2) := by decide +kernel
theorem dJ6_bitCount_0f7a4_51 : decode cJ6_bitCount_0f7a4 51 = .ok (.iand, 1) := by decide +kernel
theorem dJ6_bitCount_0f7a4_52 : decode cJ6_bitCount_0f7a4 52 = .ok (.ireturn, 1) := by decide +kernel
theorem dJ9_max_7cf53_0 : decode cJ9_max_7cf53 0 = .ok (.iload_n 0, 1) := by decide +kernel
theorem dJ9_max_7cf53_1 : decode cJ9_max_7cf53 1 = .ok (.iload_n 1, 1) := by decide +kernel
theorem dJ9_max_7cf53_2 : decode cJ9_max_7cf53 2 = .ok (.if_icmp .lt 7, 3) := by decide +kernel
theorem dJ9_max_7cf53_5 : decode cJ9_max_7cf53 5 = .ok (.iload_n 0, 1) := by decide +kernel
theorem dJ9_max_7cf53_6 : decode cJ9_max_7cf53 6 = .ok (.goto 4, 3) := by decide +kernel
theorem dJ9_max_7cf53_9 : decode cJ9_max_7cf53 9 = .ok (.iload_n 1, 1) := by decide +kernel
theorem dJ9_max_7cf53_10 : decode cJ9_max_7cf53 10 = .ok (.ireturn, 1) := by decide +kernel
theorem dJ9_min_f86c9_0 : decode cJ9_min_f86c9 0 = .ok (.lload_n 0, 1) := by decide +kernel
theorem dJ9_min_f86c9_1 : decode cJ9_min_f86c9 1 = .ok (.lload_n 2, 1) := by decide +kernel
theorem dJ9_min_f86c9_2 : decode cJ9_min_f86c9 2 = .ok (.lcmp, 1) := by decide +kernel
theorem dJ9_min_f86c9_3 : decode cJ9_min_f86c9 3 = .ok (.ifCond .gt 7, 3) := by decide +kernel
theorem dJ9_min_f86c9_6 : decode cJ9_min_f86c9 6 = .ok (.lload_n 0, 1) := by decide +kernel
theorem dJ9_min_f86c9_7 : decode cJ9_min_f86c9 7 = .ok (.goto 4, 3) := by decide +kernel
theorem dJ9_min_f86c9_10 : decode cJ9_min_f86c9 10 = .ok (.lload_n 2, 1) := by decide +kernel
theorem dJ9_min_f86c9_11 : decode cJ9_min_f86c9 11 = .ok (.lreturn, 1) := by decide +kernel
theorem dJ7_fill_d0a16_0 : decode cJ7_fill_d0a16 0 = .ok (.iconst 0, 1) := by decide +kernel
theorem dJ7_fill_d0a16_1 : decode cJ7_fill_d0a16 1 = .ok (.istore_n 3, 1) := by decide +kernel
theorem dJ7_fill_d0a16_2 : decode cJ7_fill_d0a16 2 = .ok (.aload_n 0, 1) := by decide +kernel
theorem dJ7_fill_d0a16_3 : decode cJ7_fill_d0a16 3 = .ok (.arraylength, 1) := by decide +kernel
theorem dJ7_fill_d0a16_4 : decode cJ7_fill_d0a16 4 = .ok (.istore 4, 2) := by decide +kernel
theorem dJ7_fill_d0a16_6 : decode cJ7_fill_d0a16 6 = .ok (.iload_n 3, 1) := by decide +kernel
theorem dJ7_fill_d0a16_7 : decode cJ7_fill_d0a16 7 = .ok (.iload 4, 2) := by decide +kernel
theorem dJ7_fill_d0a16_9 : decode cJ7_fill_d0a16 9 = .ok (.if_icmp .ge 13, 3) := by decide +kernel
theorem dJ7_fill_d0a16_12 : decode cJ7_fill_d0a16 12 = .ok (.aload_n 0, 1) := by decide +kernel
theorem dJ7_fill_d0a16_13 : decode cJ7_fill_d0a16 13 = .ok (.iload_n 3, 1) := by decide +kernel
theorem dJ7_fill_d0a16_14 : decode cJ7_fill_d0a16 14 = .ok (.lload_n 1, 1) := by decide +kernel
theorem dJ7_fill_d0a16_15 : decode cJ7_fill_d0a16 15 = .ok (.lastore, 1) := by decide +kernel
theorem dJ7_fill_d0a16_16 : decode cJ7_fill_d0a16 16 = .ok (.iinc 3 1, 3) := by decide +kernel
theorem dJ7_fill_d0a16_19 : decode cJ7_fill_d0a16 19 = .ok (.goto (-13), 3) := by decide +kernel
theorem dJ7_fill_d0a16_22 : decode cJ7_fill_d0a16 22 = .ok (.return_, 1) := by decide +kernel
theorem dJ7_fill_53178_0 : decode cJ7_fill_53178 0 = .ok (.iconst 0, 1) := by decide +kernel
theorem dJ7_fill_53178_1 : decode cJ7_fill_53178 1 = .ok (.istore_n 2, 1) := by decide +kernel
theorem dJ7_fill_53178_2 : decode cJ7_fill_53178 2 = .ok (.aload_n 0, 1) := by decide +kernel
theorem dJ7_fill_53178_3 : decode cJ7_fill_53178 3 = .ok (.arraylength, 1) := by decide +kernel
theorem dJ7_fill_53178_4 : decode cJ7_fill_53178 4 = .ok (.istore_n 3, 1) := by decide +kernel
theorem dJ7_fill_53178_5 : decode cJ7_fill_53178 5 = .ok (.iload_n 2, 1) := by decide +kernel
theorem dJ7_fill_53178_6 : decode cJ7_fill_53178 6 = .ok (.iload_n 3, 1) := by decide +kernel
theorem dJ7_fill_53178_7 : decode cJ7_fill_53178 7 = .ok (.if_icmp .ge 13, 3) := by decide +kernel
theorem dJ7_fill_53178_10 : decode cJ7_fill_53178 10 = .ok (.aload_n 0, 1) := by decide +kernel
theorem dJ7_fill_53178_11 : decode cJ7_fill_53178 11 = .ok (.iload_n 2, 1) := by decide +kernel
theorem dJ7_fill_53178_12 : decode cJ7_fill_53178 12 = .ok (.iload_n 1, 1) := by decide +kernel
theorem dJ7_fill_53178_13 : decode cJ7_fill_53178 13 = .ok (.iastore, 1) := by decide +kernel
theorem dJ7_fill_53178_14 : decode cJ7_fill_53178 14 = .ok (.iinc 2 1, 3) := by decide +kernel
theorem dJ7_fill_53178_17 : decode cJ7_fill_53178 17 = .ok (.goto (-12), 3) := by decide +kernel
theorem dJ7_fill_53178_20 : decode cJ7_fill_53178 20 = .ok (.return_, 1) := by decide +kernel
