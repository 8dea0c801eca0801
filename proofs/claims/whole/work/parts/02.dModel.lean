theorem dX6_init_0 : decode cX6_init 0 = .ok (.aload_n 0, 1) := by decide +kernel
theorem dX6_init_1 : decode cX6_init 1 = .ok (.invokespecial 1, 3) := by decide +kernel
theorem dX6_init_4 : decode cX6_init 4 = .ok (.aload_n 0, 1) := by decide +kernel
theorem dX6_init_5 : decode cX6_init 5 = .ok (.sipush 240, 3) := by decide +kernel
theorem dX6_init_8 : decode cX6_init 8 = .ok (.newarray .int, 2) := by decide +kernel
theorem dX6_init_10 : decode cX6_init 10 = .ok (.putfield 7, 3) := by decide +kernel
theorem dX6_init_13 : decode cX6_init 13 = .ok (.aload_n 0, 1) := by decide +kernel
theorem dX6_init_14 : decode cX6_init 14 = .ok (.bipush 7, 2) := by decide +kernel
theorem dX6_init_16 : decode cX6_init 16 = .ok (.newarray .int, 2) := by decide +kernel
theorem dX6_init_18 : decode cX6_init 18 = .ok (.dup, 1) := by decide +kernel
theorem dX6_init_19 : decode cX6_init 19 = .ok (.iconst 0, 1) := by decide +kernel
theorem dX6_init_20 : decode cX6_init 20 = .ok (.iconst 0, 1) := by decide +kernel
theorem dX6_init_21 : decode cX6_init 21 = .ok (.iastore, 1) := by decide +kernel
theorem dX6_init_22 : decode cX6_init 22 = .ok (.dup, 1) := by decide +kernel
theorem dX6_init_23 : decode cX6_init 23 = .ok (.iconst 1, 1) := by decide +kernel
theorem dX6_init_24 : decode cX6_init 24 = .ok (.iconst 4, 1) := by decide +kernel
theorem dX6_init_25 : decode cX6_init 25 = .ok (.iastore, 1) := by decide +kernel
theorem dX6_init_26 : decode cX6_init 26 = .ok (.dup, 1) := by decide +kernel
theorem dX6_init_27 : decode cX6_init 27 = .ok (.iconst 2, 1) := by decide +kernel
theorem dX6_init_28 : decode cX6_init 28 = .ok (.bipush 8, 2) := by decide +kernel
theorem dX6_init_30 : decode cX6_init 30 = .ok (.iastore, 1) := by decide +kernel
theorem dX6_init_31 : decode cX6_init 31 = .ok (.dup, 1) := by decide +kernel
theorem dX6_init_32 : decode cX6_init 32 = .ok (.iconst 3, 1) := by decide +kernel
theorem dX6_init_33 : decode cX6_init 33 = .ok (.bipush 12, 2) := by decide +kernel
theorem dX6_init_35 : decode cX6_init 35 = .ok (.iastore, 1) := by decide +kernel
theorem dX6_init_36 : decode cX6_init 36 = .ok (.dup, 1) := by decide +kernel
theorem dX6_init_37 : decode cX6_init 37 = .ok (.iconst 4, 1) := by decide +kernel
theorem dX6_init_38 : decode cX6_init 38 = .ok (.bipush 16, 2) := by decide +kernel
theorem dX6_init_40 : decode cX6_init 40 = .ok (.iastore, 1) := by decide +kernel
theorem dX6_init_41 : decode cX6_init 41 = .ok (.dup, 1) := by decide +kernel
theorem dX6_init_42 : decode cX6_init 42 = .ok (.iconst 5, 1) := by decide +kernel
theorem dX6_init_43 : decode cX6_init 43 = .ok (.bipush 20, 2) := by decide +kernel
theorem dX6_init_45 : decode cX6_init 45 = .ok (.iastore, 1) := by decide +kernel
theorem dX6_init_46 : decode cX6_init 46 = .ok (.dup, 1) := by decide +kernel
theorem dX6_init_47 : decode cX6_init 47 = .ok (.bipush 6, 2) := by decide +kernel
theorem dX6_init_49 : decode cX6_init 49 = .ok (.bipush 24, 2) := by decide +kernel
theorem dX6_init_51 : decode cX6_init 51 = .ok (.iastore, 1) := by decide +kernel
theorem dX6_init_52 : decode cX6_init 52 = .ok (.putfield 13, 3) := by decide +kernel
theorem dX6_init_55 : decode cX6_init 55 = .ok (.aload_n 0, 1) := by decide +kernel
theorem dX6_init_56 : decode cX6_init 56 = .ok (.bipush 24, 2) := by decide +kernel
theorem dX6_init_58 : decode cX6_init 58 = .ok (.newarray .int, 2) := by decide +kernel
theorem dX6_init_60 : decode cX6_init 60 = .ok (.dup, 1) := by decide +kernel
theorem dX6_init_61 : decode cX6_init 61 = .ok (.iconst 0, 1) := by decide +kernel
theorem dX6_init_62 : decode cX6_init 62 = .ok (.bipush 115, 2) := by decide +kernel
theorem dX6_init_64 : decode cX6_init 64 = .ok (.iastore, 1) := by decide +kernel
theorem dX6_init_65 : decode cX6_init 65 = .ok (.dup, 1) := by decide +kernel
theorem dX6_init_66 : decode cX6_init 66 = .ok (.iconst 1, 1) := by decide +kernel
theorem dX6_init_67 : decode cX6_init 67 = .ok (.bipush 111, 2) := by decide +kernel
theorem dX6_init_69 : decode cX6_init 69 = .ok (.iastore, 1) := by decide +kernel
theorem dX6_init_70 : decode cX6_init 70 = .ok (.dup, 1) := by decide +kernel
theorem dX6_init_71 : decode cX6_init 71 = .ok (.iconst 2, 1) := by decide +kernel
theorem dX6_init_72 : decode cX6_init 72 = .ok (.bipush 114, 2) := by decide +kernel
theorem dX6_init_74 : decode cX6_init 74 = .ok (.iastore, 1) := by decide +kernel
theorem dX6_init_75 : decode cX6_init 75 = .ok (.dup, 1) := by decide +kernel
theorem dX6_init_76 : decode cX6_init 76 = .ok (.iconst 3, 1) := by decide +kernel
theorem dX6_init_77 : decode cX6_init 77 = .ok (.bipush 116, 2) := by decide +kernel
theorem dX6_init_79 : decode cX6_init 79 = .ok (.iastore, 1) := by decide +kernel
theorem dX6_init_80 : decode cX6_init 80 = .ok (.dup, 1) := by decide +kernel
theorem dX6_init_81 : decode cX6_init 81 = .ok (.iconst 4, 1) := by decide +kernel
theorem dX6_init_82 : decode cX6_init 82 = .ok (.bipush 102, 2) := by decide +kernel
theorem dX6_init_84 : decode cX6_init 84 = .ok (.iastore, 1) := by decide +kernel
theorem dX6_init_85 : decode cX6_init 85 = .ok (.dup, 1) := by decide +kernel
theorem dX6_init_86 : decode cX6_init 86 = .ok (.iconst 5, 1) := by decide +kernel
theorem dX6_init_87 : decode cX6_init 87 = .ok (.bipush 97, 2) := by decide +kernel
theorem dX6_init_89 : decode cX6_init 89 = .ok (.iastore, 1) := by decide +kernel
theorem dX6_init_90 : decode cX6_init 90 = .ok (.dup, 1) := by decide +kernel
theorem dX6_init_91 : decode cX6_init 91 = .ok (.bipush 6, 2) := by decide +kernel
theorem dX6_init_93 : decode cX6_init 93 = .ok (.bipush 105, 2) := by decide +kernel
theorem dX6_init_95 : decode cX6_init 95 = .ok (.iastore, 1) := by decide +kernel
theorem dX6_init_96 : decode cX6_init 96 = .ok (.dup, 1) := by decide +kernel
theorem dX6_init_97 : decode cX6_init 97 = .ok (.bipush 7, 2) := by decide +kernel
theorem dX6_init_99 : decode cX6_init 99 = .ok (.bipush 108, 2) := by decide +kernel
theorem dX6_init_101 : decode cX6_init 101 = .ok (.iastore, 1) := by decide +kernel
theorem dX6_init_102 : decode cX6_init 102 = .ok (.dup, 1) := by decide +kernel
theorem dX6_init_103 : decode cX6_init 103 = .ok (.bipush 8, 2) := by decide +kernel
theorem dX6_init_105 : decode cX6_init 105 = .ok (.bipush 109, 2) := by decide +kernel
theorem dX6_init_107 : decode cX6_init 107 = .ok (.iastore, 1) := by decide +kernel
theorem dX6_init_108 : decode cX6_init 108 = .ok (.dup, 1) := by decide +kernel
theorem dX6_init_109 : decode cX6_init 109 = .ok (.bipush 9, 2) := by decide +kernel
theorem dX6_init_111 : decode cX6_init 111 = .ok (.bipush 117, 2) := by decide +kernel
theorem dX6_init_113 : decode cX6_init 113 = .ok (.iastore, 1) := by decide +kernel
theorem dX6_init_114 : decode cX6_init 114 = .ok (.dup, 1) := by decide +kernel
theorem dX6_init_115 : decode cX6_init 115 = .ok (.bipush 10, 2) := by decide +kernel
theorem dX6_init_117 : decode cX6_init 117 = .ok (.bipush 115, 2) := by decide +kernel
theorem dX6_init_119 : decode cX6_init 119 = .ok (.iastore, 1) := by decide +kernel
theorem dX6_init_120 : decode cX6_init 120 = .ok (.dup, 1) := by decide +kernel
theorem dX6_init_121 : decode cX6_init 121 = .ok (.bipush 11, 2) := by decide +kernel
theorem dX6_init_123 : decode cX6_init 123 = .ok (.bipush 116, 2) := by decide +kernel
theorem dX6_init_125 : decode cX6_init 125 = .ok (.iastore, 1) := by decide +kernel
theorem dX6_init_126 : decode cX6_init 126 = .ok (.dup, 1) := by decide +kernel
theorem dX6_init_127 : decode cX6_init 127 = .ok (.bipush 12, 2) := by decide +kernel
theorem dX6_init_129 : decode cX6_init 129 = .ok (.bipush 109, 2) := by decide +kernel
theorem dX6_init_131 : decode cX6_init 131 = .ok (.iastore, 1) := by decide +kernel
theorem dX6_init_132 : decode cX6_init 132 = .ok (.dup, 1) := by decide +kernel
theorem dX6_init_133 : decode cX6_init 133 = .ok (.bipush 13, 2) := by decide +kernel
theorem dX6_init_135 : decode cX6_init 135 = .ok (.bipush 97, 2) := by decide +kernel
theorem dX6_init_137 : decode cX6_init 137 = .ok (.iastore, 1) := by decide +kernel
theorem dX6_init_138 : decode cX6_init 138 = .ok (.dup, 1) := by decide +kernel
theorem dX6_init_139 : decode cX6_init 139 = .ok (.bipush 14, 2) := by decide +kernel
theorem dX6_init_141 : decode cX6_init 141 = .ok (.bipush 114, 2) := by decide +kernel
theorem dX6_init_143 : decode cX6_init 143 = .ok (.iastore, 1) := by decide +kernel
theorem dX6_init_144 : decode cX6_init 144 = .ok (.dup, 1) := by decide +kernel
theorem dX6_init_145 : decode cX6_init 145 = .ok (.bipush 15, 2) := by decide +kernel
theorem dX6_init_147 : decode cX6_init 147 = .ok (.bipush 107, 2) := by decide +kernel
theorem dX6_init_149 : decode cX6_init 149 = .ok (.iastore, 1) := by decide +kernel
theorem dX6_init_150 : decode cX6_init 150 = .ok (.dup, 1) := by decide +kernel
theorem dX6_init_151 : decode cX6_init 151 = .ok (.bipush 16, 2) := by decide +kernel
theorem dX6_init_153 : decode cX6_init 153 = .ok (.bipush 108, 2) := by decide +kernel
theorem dX6_init_155 : decode cX6_init 155 = .ok (.iastore, 1) := by decide +kernel
theorem dX6_init_156 : decode cX6_init 156 = .ok (.dup, 1) := by decide +kernel
theorem dX6_init_157 : decode cX6_init 157 = .ok (.bipush 17, 2) := by decide +kernel
theorem dX6_init_159 : decode cX6_init 159 = .ok (.bipush 111, 2) := by decide +kernel
theorem dX6_init_161 : decode cX6_init 161 = .ok (.iastore, 1) := by decide +kernel
theorem dX6_init_162 : decode cX6_init 162 = .ok (.dup, 1) := by decide +kernel
theorem dX6_init_163 : decode cX6_init 163 = .ok (.bipush 18, 2) := by decide +kernel
theorem dX6_init_165 : decode cX6_init 165 = .ok (.bipush 111, 2) := by decide +kernel
theorem dX6_init_167 : decode cX6_init 167 = .ok (.iastore, 1) := by decide +kernel
theorem dX6_init_168 : decode cX6_init 168 = .ok (.dup, 1) := by decide +kernel
theorem dX6_init_169 : decode cX6_init 169 = .ok (.bipush 19, 2) := by decide +kernel
theorem dX6_init_171 : decode cX6_init 171 = .ok (.bipush 107, 2) := by decide +kernel
theorem dX6_init_173 : decode cX6_init 173 = .ok (.iastore, 1) := by decide +kernel
theorem dX6_init_174 : decode cX6_init 174 = .ok (.dup, 1) := by decide +kernel
theorem dX6_init_175 : decode cX6_init 175 = .ok (.bipush 20, 2) := by decide +kernel
theorem dX6_init_177 : decode cX6_init 177 = .ok (.bipush 107, 2) := by decide +kernel
theorem dX6_init_179 : decode cX6_init 179 = .ok (.iastore, 1) := by decide +kernel
theorem dX6_init_180 : decode cX6_init 180 = .ok (.dup, 1) := by decide +kernel
theorem dX6_init_181 : decode cX6_init 181 = .ok (.bipush 21, 2) := by decide +kernel
theorem dX6_init_183 : decode cX6_init 183 = .ok (.bipush 101, 2) := by decide +kernel
theorem dX6_init_185 : decode cX6_init 185 = .ok (.iastore, 1) := by decide +kernel
theorem dX6_init_186 : decode cX6_init 186 = .ok (.dup, 1) := by decide +kernel
theorem dX6_init_187 : decode cX6_init 187 = .ok (.bipush 22, 2) := by decide +kernel
theorem dX6_init_189 : decode cX6_init 189 = .ok (.bipush 101, 2) := by decide +kernel
theorem dX6_init_191 : decode cX6_init 191 = .ok (.iastore, 1) := by decide +kernel
theorem dX6_init_192 : decode cX6_init 192 = .ok (.dup, 1) := by decide +kernel
theorem dX6_init_193 : decode cX6_init 193 = .ok (.bipush 23, 2) := by decide +kernel
theorem dX6_init_195 : decode cX6_init 195 = .ok (.bipush 110, 2) := by decide +kernel
theorem dX6_init_197 : decode cX6_init 197 = .ok (.iastore, 1) := by decide +kernel
theorem dX6_init_198 : decode cX6_init 198 = .ok (.putfield 16, 3) := by decide +kernel
theorem dX6_init_201 : decode cX6_init 201 = .ok (.aload_n 0, 1) := by decide +kernel
theorem dX6_init_202 : decode cX6_init 202 = .ok (.bipush 40, 2) := by decide +kernel
theorem dX6_init_204 : decode cX6_init 204 = .ok (.newarray .int, 2) := by decide +kernel
theorem dX6_init_206 : decode cX6_init 206 = .ok (.putfield 19, 3) := by decide +kernel
theorem dX6_init_209 : decode cX6_init 209 = .ok (.aload_n 0, 1) := by decide +kernel
theorem dX6_init_210 : decode cX6_init 210 = .ok (.bipush 40, 2) := by decide +kernel
theorem dX6_init_212 : decode cX6_init 212 = .ok (.newarray .int, 2) := by decide +kernel
theorem dX6_init_214 : decode cX6_init 214 = .ok (.putfield 22, 3) := by decide +kernel
theorem dX6_init_217 : decode cX6_init 217 = .ok (.aload_n 0, 1) := by decide +kernel
theorem dX6_init_218 : decode cX6_init 218 = .ok (.iconst 4, 1) := by decide +kernel
theorem dX6_init_219 : decode cX6_init 219 = .ok (.newarray .int, 2) := by decide +kernel
theorem dX6_init_221 : decode cX6_init 221 = .ok (.dup, 1) := by decide +kernel
theorem dX6_init_222 : decode cX6_init 222 = .ok (.iconst 0, 1) := by decide +kernel
theorem dX6_init_223 : decode cX6_init 223 = .ok (.bipush 50, 2) := by decide +kernel
theorem dX6_init_225 : decode cX6_init 225 = .ok (.iastore, 1) := by decide +kernel
theorem dX6_init_226 : decode cX6_init 226 = .ok (.dup, 1) := by decide +kernel
theorem dX6_init_227 : decode cX6_init 227 = .ok (.iconst 1, 1) := by decide +kernel
theorem dX6_init_228 : decode cX6_init 228 = .ok (.bipush 6, 2) := by decide +kernel
theorem dX6_init_230 : decode cX6_init 230 = .ok (.iastore, 1) := by decide +kernel
theorem dX6_init_231 : decode cX6_init 231 = .ok (.dup, 1) := by decide +kernel
theorem dX6_init_232 : decode cX6_init 232 = .ok (.iconst 2, 1) := by decide +kernel
theorem dX6_init_233 : decode cX6_init 233 = .ok (.iconst 1, 1) := by decide +kernel
theorem dX6_init_234 : decode cX6_init 234 = .ok (.iastore, 1) := by decide +kernel
theorem dX6_init_235 : decode cX6_init 235 = .ok (.dup, 1) := by decide +kernel
theorem dX6_init_236 : decode cX6_init 236 = .ok (.iconst 3, 1) := by decide +kernel
theorem dX6_init_237 : decode cX6_init 237 = .ok (.iconst 5, 1) := by decide +kernel
theorem dX6_init_238 : decode cX6_init 238 = .ok (.iastore, 1) := by decide +kernel
theorem dX6_init_239 : decode cX6_init 239 = .ok (.putfield 25, 3) := by decide +kernel
theorem dX6_init_242 : decode cX6_init 242 = .ok (.aload_n 0, 1) := by decide +kernel
theorem dX6_init_243 : decode cX6_init 243 = .ok (.iconst 4, 1) := by decide +kernel
theorem dX6_init_244 : decode cX6_init 244 = .ok (.newarray .int, 2) := by decide +kernel
theorem dX6_init_246 : decode cX6_init 246 = .ok (.putfield 28, 3) := by decide +kernel
theorem dX6_init_249 : decode cX6_init 249 = .ok (.aload_n 0, 1) := by decide +kernel
theorem dX6_init_250 : decode cX6_init 250 = .ok (.bipush (-4), 2) := by decide +kernel
theorem dX6_init_252 : decode cX6_init 252 = .ok (.putfield 31, 3) := by decide +kernel
theorem dX6_init_255 : decode cX6_init 255 = .ok (.aload_n 0, 1) := by decide +kernel
theorem dX6_init_256 : decode cX6_init 256 = .ok (.bipush 8, 2) := by decide +kernel
theorem dX6_init_258 : decode cX6_init 258 = .ok (.newarray .int, 2) := by decide +kernel
theorem dX6_init_260 : decode cX6_init 260 = .ok (.putfield 35, 3) := by decide +kernel
theorem dX6_init_263 : decode cX6_init 263 = .ok (.aload_n 0, 1) := by decide +kernel
theorem dX6_init_264 : decode cX6_init 264 = .ok (.bipush 8, 2) := by decide +kernel
theorem dX6_init_266 : decode cX6_init 266 = .ok (.newarray .int, 2) := by decide +kernel
theorem dX6_init_268 : decode cX6_init 268 = .ok (.putfield 38, 3) := by decide +kernel
theorem dX6_init_271 : decode cX6_init 271 = .ok (.aload_n 0, 1) := by decide +kernel
theorem dX6_init_272 : decode cX6_init 272 = .ok (.iconst 4, 1) := by decide +kernel
theorem dX6_init_273 : decode cX6_init 273 = .ok (.newarray .int, 2) := by decide +kernel
theorem dX6_init_275 : decode cX6_init 275 = .ok (.dup, 1) := by decide +kernel
theorem dX6_init_276 : decode cX6_init 276 = .ok (.iconst 0, 1) := by decide +kernel
theorem dX6_init_277 : decode cX6_init 277 = .ok (.bipush (-4), 2) := by decide +kernel
theorem dX6_init_279 : decode cX6_init 279 = .ok (.iastore, 1) := by decide +kernel
theorem dX6_init_280 : decode cX6_init 280 = .ok (.dup, 1) := by decide +kernel
theorem dX6_init_281 : decode cX6_init 281 = .ok (.iconst 1, 1) := by decide +kernel
theorem dX6_init_282 : decode cX6_init 282 = .ok (.bipush (-4), 2) := by decide +kernel
theorem dX6_init_284 : decode cX6_init 284 = .ok (.iastore, 1) := by decide +kernel
theorem dX6_init_285 : decode cX6_init 285 = .ok (.dup, 1) := by decide +kernel
theorem dX6_init_286 : decode cX6_init 286 = .ok (.iconst 2, 1) := by decide +kernel
theorem dX6_init_287 : decode cX6_init 287 = .ok (.bipush (-4), 2) := by decide +kernel
theorem dX6_init_289 : decode cX6_init 289 = .ok (.iastore, 1) := by decide +kernel
theorem dX6_init_290 : decode cX6_init 290 = .ok (.dup, 1) := by decide +kernel
theorem dX6_init_291 : decode cX6_init 291 = .ok (.iconst 3, 1) := by decide +kernel
theorem dX6_init_292 : decode cX6_init 292 = .ok (.bipush (-4), 2) := by decide +kernel
theorem dX6_init_294 : decode cX6_init 294 = .ok (.iastore, 1) := by decide +kernel
theorem dX6_init_295 : decode cX6_init 295 = .ok (.putfield 41, 3) := by decide +kernel
theorem dX6_init_298 : decode cX6_init 298 = .ok (.aload_n 0, 1) := by decide +kernel
theorem dX6_init_299 : decode cX6_init 299 = .ok (.iconst 4, 1) := by decide +kernel
theorem dX6_init_300 : decode cX6_init 300 = .ok (.newarray .int, 2) := by decide +kernel
theorem dX6_init_302 : decode cX6_init 302 = .ok (.putfield 44, 3) := by decide +kernel
theorem dX6_init_305 : decode cX6_init 305 = .ok (.aload_n 0, 1) := by decide +kernel
theorem dX6_init_306 : decode cX6_init 306 = .ok (.sipush 160, 3) := by decide +kernel
theorem dX6_init_309 : decode cX6_init 309 = .ok (.newarray .int, 2) := by decide +kernel
theorem dX6_init_311 : decode cX6_init 311 = .ok (.putfield 47, 3) := by decide +kernel
theorem dX6_init_314 : decode cX6_init 314 = .ok (.return_, 1) := by decide +kernel
theorem dX6_in_0 : decode cX6_in 0 = .ok (.lload_n 0, 1) := by decide +kernel
theorem dX6_in_1 : decode cX6_in 1 = .ok (.lload_n 2, 1) := by decide +kernel
theorem dX6_in_2 : decode cX6_in 2 = .ok (.lcmp, 1) := by decide +kernel
theorem dX6_in_3 : decode cX6_in 3 = .ok (.ifCond .lt 14, 3) := by decide +kernel
theorem dX6_in_6 : decode cX6_in 6 = .ok (.lload_n 0, 1) := by decide +kernel
theorem dX6_in_7 : decode cX6_in 7 = .ok (.lload 4, 2) := by decide +kernel
theorem dX6_in_9 : decode cX6_in 9 = .ok (.lcmp, 1) := by decide +kernel
theorem dX6_in_10 : decode cX6_in 10 = .ok (.ifCond .gt 7, 3) := by decide +kernel
theorem dX6_in_13 : decode cX6_in 13 = .ok (.iconst 1, 1) := by decide +kernel
theorem dX6_in_14 : decode cX6_in 14 = .ok (.goto 4, 3) := by decide +kernel
theorem dX6_in_17 : decode cX6_in 17 = .ok (.iconst 0, 1) := by decide +kernel
theorem dX6_in_18 : decode cX6_in 18 = .ok (.ireturn, 1) := by decide +kernel
theorem dX6_feed_0 : decode cX6_feed 0 = .ok (.aload_n 0, 1) := by decide +kernel
theorem dX6_feed_1 : decode cX6_feed 1 = .ok (.getfield 50, 3) := by decide +kernel
theorem dX6_feed_4 : decode cX6_feed 4 = .ok (.bipush 8, 2) := by decide +kernel
theorem dX6_feed_6 : decode cX6_feed 6 = .ok (.iadd, 1) := by decide +kernel
theorem dX6_feed_7 : decode cX6_feed 7 = .ok (.sipush 240, 3) := by decide +kernel
theorem dX6_feed_10 : decode cX6_feed 10 = .ok (.if_icmp .le 6, 3) := by decide +kernel
theorem dX6_feed_13 : decode cX6_feed 13 = .ok (.bipush (-3), 2) := by decide +kernel
theorem dX6_feed_15 : decode cX6_feed 15 = .ok (.ireturn, 1) := by decide +kernel
theorem dX6_feed_16 : decode cX6_feed 16 = .ok (.bipush 56, 2) := by decide +kernel
theorem dX6_feed_18 : decode cX6_feed 18 = .ok (.istore_n 3, 1) := by decide +kernel
theorem dX6_feed_19 : decode cX6_feed 19 = .ok (.iload_n 3, 1) := by decide +kernel
theorem dX6_feed_20 : decode cX6_feed 20 = .ok (.ifCond .lt 36, 3) := by decide +kernel
theorem dX6_feed_23 : decode cX6_feed 23 = .ok (.aload_n 0, 1) := by decide +kernel
theorem dX6_feed_24 : decode cX6_feed 24 = .ok (.getfield 7, 3) := by decide +kernel
theorem dX6_feed_27 : decode cX6_feed 27 = .ok (.aload_n 0, 1) := by decide +kernel
theorem dX6_feed_28 : decode cX6_feed 28 = .ok (.getfield 50, 3) := by decide +kernel
theorem dX6_feed_31 : decode cX6_feed 31 = .ok (.lload_n 1, 1) := by decide +kernel
theorem dX6_feed_32 : decode cX6_feed 32 = .ok (.iload_n 3, 1) := by decide +kernel
theorem dX6_feed_33 : decode cX6_feed 33 = .ok (.lshr, 1) := by decide +kernel
theorem dX6_feed_34 : decode cX6_feed 34 = .ok (.l2i, 1) := by decide +kernel
theorem dX6_feed_35 : decode cX6_feed 35 = .ok (.sipush 255, 3) := by decide +kernel
theorem dX6_feed_38 : decode cX6_feed 38 = .ok (.iand, 1) := by decide +kernel
theorem dX6_feed_39 : decode cX6_feed 39 = .ok (.iastore, 1) := by decide +kernel
theorem dX6_feed_40 : decode cX6_feed 40 = .ok (.aload_n 0, 1) := by decide +kernel
theorem dX6_feed_41 : decode cX6_feed 41 = .ok (.dup, 1) := by decide +kernel
theorem dX6_feed_42 : decode cX6_feed 42 = .ok (.getfield 50, 3) := by decide +kernel
theorem dX6_feed_45 : decode cX6_feed 45 = .ok (.iconst 1, 1) := by decide +kernel
theorem dX6_feed_46 : decode cX6_feed 46 = .ok (.iadd, 1) := by decide +kernel
theorem dX6_feed_47 : decode cX6_feed 47 = .ok (.putfield 50, 3) := by decide +kernel
theorem dX6_feed_50 : decode cX6_feed 50 = .ok (.iinc 3 (-8), 3) := by decide +kernel
theorem dX6_feed_53 : decode cX6_feed 53 = .ok (.goto (-34), 3) := by decide +kernel
theorem dX6_feed_56 : decode cX6_feed 56 = .ok (.aload_n 0, 1) := by decide +kernel
theorem dX6_feed_57 : decode cX6_feed 57 = .ok (.getfield 50, 3) := by decide +kernel
theorem dX6_feed_60 : decode cX6_feed 60 = .ok (.ireturn, 1) := by decide +kernel
theorem dX6_end_0 : decode cX6_end 0 = .ok (.iload_n 1, 1) := by decide +kernel
theorem dX6_end_1 : decode cX6_end 1 = .ok (.i2l, 1) := by decide +kernel
theorem dX6_end_2 : decode cX6_end 2 = .ok (.lconst 0, 1) := by decide +kernel
theorem dX6_end_3 : decode cX6_end 3 = .ok (.aload_n 0, 1) := by decide +kernel
theorem dX6_end_4 : decode cX6_end 4 = .ok (.getfield 50, 3) := by decide +kernel
theorem dX6_end_7 : decode cX6_end 7 = .ok (.i2l, 1) := by decide +kernel
theorem dX6_end_8 : decode cX6_end 8 = .ok (.invokestatic 53, 3) := by decide +kernel
theorem dX6_end_11 : decode cX6_end 11 = .ok (.ifCond .ne 5, 3) := by decide +kernel
theorem dX6_end_14 : decode cX6_end 14 = .ok (.iconst (-1), 1) := by decide +kernel
theorem dX6_end_15 : decode cX6_end 15 = .ok (.ireturn, 1) := by decide +kernel
theorem dX6_end_16 : decode cX6_end 16 = .ok (.aload_n 0, 1) := by decide +kernel
theorem dX6_end_17 : decode cX6_end 17 = .ok (.getfield 50, 3) := by decide +kernel
theorem dX6_end_20 : decode cX6_end 20 = .ok (.istore_n 2, 1) := by decide +kernel
theorem dX6_end_21 : decode cX6_end 21 = .ok (.aload_n 0, 1) := by decide +kernel
theorem dX6_end_22 : decode cX6_end 22 = .ok (.iload_n 1, 1) := by decide +kernel
theorem dX6_end_23 : decode cX6_end 23 = .ok (.putfield 50, 3) := by decide +kernel
theorem dX6_end_26 : decode cX6_end 26 = .ok (.iload_n 2, 1) := by decide +kernel
theorem dX6_end_27 : decode cX6_end 27 = .ok (.ireturn, 1) := by decide +kernel
theorem dX6_byteAt_0 : decode cX6_byteAt 0 = .ok (.iload_n 1, 1) := by decide +kernel
theorem dX6_byteAt_1 : decode cX6_byteAt 1 = .ok (.aload_n 0, 1) := by decide +kernel
theorem dX6_byteAt_2 : decode cX6_byteAt 2 = .ok (.getfield 50, 3) := by decide +kernel
theorem dX6_byteAt_5 : decode cX6_byteAt 5 = .ok (.if_icmp .ge 12, 3) := by decide +kernel
theorem dX6_byteAt_8 : decode cX6_byteAt 8 = .ok (.aload_n 0, 1) := by decide +kernel
theorem dX6_byteAt_9 : decode cX6_byteAt 9 = .ok (.getfield 7, 3) := by decide +kernel
theorem dX6_byteAt_12 : decode cX6_byteAt 12 = .ok (.iload_n 1, 1) := by decide +kernel
theorem dX6_byteAt_13 : decode cX6_byteAt 13 = .ok (.iaload, 1) := by decide +kernel
theorem dX6_byteAt_14 : decode cX6_byteAt 14 = .ok (.goto 5, 3) := by decide +kernel
theorem dX6_byteAt_17 : decode cX6_byteAt 17 = .ok (.bipush (-4), 2) := by decide +kernel
theorem dX6_byteAt_19 : decode cX6_byteAt 19 = .ok (.ireturn, 1) := by decide +kernel
theorem dX6_fails_0 : decode cX6_fails 0 = .ok (.aload_n 0, 1) := by decide +kernel
theorem dX6_fails_1 : decode cX6_fails 1 = .ok (.getfield 57, 3) := by decide +kernel
theorem dX6_fails_4 : decode cX6_fails 4 = .ok (.ifCond .ne 16, 3) := by decide +kernel
theorem dX6_fails_7 : decode cX6_fails 7 = .ok (.aload_n 0, 1) := by decide +kernel
theorem dX6_fails_8 : decode cX6_fails 8 = .ok (.iload_n 1, 1) := by decide +kernel
theorem dX6_fails_9 : decode cX6_fails 9 = .ok (.putfield 57, 3) := by decide +kernel
theorem dX6_fails_12 : decode cX6_fails 12 = .ok (.aload_n 0, 1) := by decide +kernel
theorem dX6_fails_13 : decode cX6_fails 13 = .ok (.aload_n 0, 1) := by decide +kernel
theorem dX6_fails_14 : decode cX6_fails 14 = .ok (.getfield 60, 3) := by decide +kernel
theorem dX6_fails_17 : decode cX6_fails 17 = .ok (.putfield 63, 3) := by decide +kernel
theorem dX6_fails_20 : decode cX6_fails 20 = .ok (.return_, 1) := by decide +kernel
theorem dX6_nameAt_0 : decode cX6_nameAt 0 = .ok (.iconst 0, 1) := by decide +kernel
theorem dX6_nameAt_1 : decode cX6_nameAt 1 = .ok (.istore_n 3, 1) := by decide +kernel
theorem dX6_nameAt_2 : decode cX6_nameAt 2 = .ok (.iload_n 3, 1) := by decide +kernel
theorem dX6_nameAt_3 : decode cX6_nameAt 3 = .ok (.bipush 6, 2) := by decide +kernel
theorem dX6_nameAt_5 : decode cX6_nameAt 5 = .ok (.if_icmp .ge 98, 3) := by decide +kernel
theorem dX6_nameAt_8 : decode cX6_nameAt 8 = .ok (.iload_n 2, 1) := by decide +kernel
theorem dX6_nameAt_9 : decode cX6_nameAt 9 = .ok (.iload_n 1, 1) := by decide +kernel
theorem dX6_nameAt_10 : decode cX6_nameAt 10 = .ok (.isub, 1) := by decide +kernel
theorem dX6_nameAt_11 : decode cX6_nameAt 11 = .ok (.aload_n 0, 1) := by decide +kernel
theorem dX6_nameAt_12 : decode cX6_nameAt 12 = .ok (.getfield 13, 3) := by decide +kernel
theorem dX6_nameAt_15 : decode cX6_nameAt 15 = .ok (.iload_n 3, 1) := by decide +kernel
theorem dX6_nameAt_16 : decode cX6_nameAt 16 = .ok (.iconst 1, 1) := by decide +kernel
theorem dX6_nameAt_17 : decode cX6_nameAt 17 = .ok (.iadd, 1) := by decide +kernel
theorem dX6_nameAt_18 : decode cX6_nameAt 18 = .ok (.iaload, 1) := by decide +kernel
theorem dX6_nameAt_19 : decode cX6_nameAt 19 = .ok (.aload_n 0, 1) := by decide +kernel
theorem dX6_nameAt_20 : decode cX6_nameAt 20 = .ok (.getfield 13, 3) := by decide +kernel
theorem dX6_nameAt_23 : decode cX6_nameAt 23 = .ok (.iload_n 3, 1) := by decide +kernel
theorem dX6_nameAt_24 : decode cX6_nameAt 24 = .ok (.iaload, 1) := by decide +kernel
theorem dX6_nameAt_25 : decode cX6_nameAt 25 = .ok (.isub, 1) := by decide +kernel
theorem dX6_nameAt_26 : decode cX6_nameAt 26 = .ok (.if_icmp .ne 7, 3) := by decide +kernel
theorem dX6_nameAt_29 : decode cX6_nameAt 29 = .ok (.iconst 1, 1) := by decide +kernel
theorem dX6_nameAt_30 : decode cX6_nameAt 30 = .ok (.goto 4, 3) := by decide +kernel
theorem dX6_nameAt_33 : decode cX6_nameAt 33 = .ok (.iconst 0, 1) := by decide +kernel
theorem dX6_nameAt_34 : decode cX6_nameAt 34 = .ok (.istore 4, 2) := by decide +kernel
theorem dX6_nameAt_36 : decode cX6_nameAt 36 = .ok (.iconst 0, 1) := by decide +kernel
theorem dX6_nameAt_37 : decode cX6_nameAt 37 = .ok (.istore 5, 2) := by decide +kernel
theorem dX6_nameAt_39 : decode cX6_nameAt 39 = .ok (.iload 4, 2) := by decide +kernel
theorem dX6_nameAt_41 : decode cX6_nameAt 41 = .ok (.ifCond .eq 49, 3) := by decide +kernel
theorem dX6_nameAt_44 : decode cX6_nameAt 44 = .ok (.iload 5, 2) := by decide +kernel
theorem dX6_nameAt_46 : decode cX6_nameAt 46 = .ok (.iload_n 2, 1) := by decide +kernel
theorem dX6_nameAt_47 : decode cX6_nameAt 47 = .ok (.iload_n 1, 1) := by decide +kernel
theorem dX6_nameAt_48 : decode cX6_nameAt 48 = .ok (.isub, 1) := by decide +kernel
theorem dX6_nameAt_49 : decode cX6_nameAt 49 = .ok (.if_icmp .ge 41, 3) := by decide +kernel
theorem dX6_nameAt_52 : decode cX6_nameAt 52 = .ok (.aload_n 0, 1) := by decide +kernel
theorem dX6_nameAt_53 : decode cX6_nameAt 53 = .ok (.iload_n 1, 1) := by decide +kernel
theorem dX6_nameAt_54 : decode cX6_nameAt 54 = .ok (.iload 5, 2) := by decide +kernel
theorem dX6_nameAt_56 : decode cX6_nameAt 56 = .ok (.iadd, 1) := by decide +kernel
theorem dX6_nameAt_57 : decode cX6_nameAt 57 = .ok (.invokevirtual 66, 3) := by decide +kernel
theorem dX6_nameAt_60 : decode cX6_nameAt 60 = .ok (.aload_n 0, 1) := by decide +kernel
theorem dX6_nameAt_61 : decode cX6_nameAt 61 = .ok (.getfield 16, 3) := by decide +kernel
theorem dX6_nameAt_64 : decode cX6_nameAt 64 = .ok (.aload_n 0, 1) := by decide +kernel
theorem dX6_nameAt_65 : decode cX6_nameAt 65 = .ok (.getfield 13, 3) := by decide +kernel
theorem dX6_nameAt_68 : decode cX6_nameAt 68 = .ok (.iload_n 3, 1) := by decide +kernel
theorem dX6_nameAt_69 : decode cX6_nameAt 69 = .ok (.iaload, 1) := by decide +kernel
theorem dX6_nameAt_70 : decode cX6_nameAt 70 = .ok (.iload 5, 2) := by decide +kernel
theorem dX6_nameAt_72 : decode cX6_nameAt 72 = .ok (.iadd, 1) := by decide +kernel
theorem dX6_nameAt_73 : decode cX6_nameAt 73 = .ok (.iaload, 1) := by decide +kernel
theorem dX6_nameAt_74 : decode cX6_nameAt 74 = .ok (.if_icmp .ne 7, 3) := by decide +kernel
theorem dX6_nameAt_77 : decode cX6_nameAt 77 = .ok (.iconst 1, 1) := by decide +kernel
theorem dX6_nameAt_78 : decode cX6_nameAt 78 = .ok (.goto 4, 3) := by decide +kernel
theorem dX6_nameAt_81 : decode cX6_nameAt 81 = .ok (.iconst 0, 1) := by decide +kernel
theorem dX6_nameAt_82 : decode cX6_nameAt 82 = .ok (.istore 4, 2) := by decide +kernel
theorem dX6_nameAt_84 : decode cX6_nameAt 84 = .ok (.iinc 5 1, 3) := by decide +kernel
theorem dX6_nameAt_87 : decode cX6_nameAt 87 = .ok (.goto (-48), 3) := by decide +kernel
theorem dX6_nameAt_90 : decode cX6_nameAt 90 = .ok (.iload 4, 2) := by decide +kernel
theorem dX6_nameAt_92 : decode cX6_nameAt 92 = .ok (.ifCond .eq 5, 3) := by decide +kernel
theorem dX6_nameAt_95 : decode cX6_nameAt 95 = .ok (.iload_n 3, 1) := by decide +kernel
theorem dX6_nameAt_96 : decode cX6_nameAt 96 = .ok (.ireturn, 1) := by decide +kernel
theorem dX6_nameAt_97 : decode cX6_nameAt 97 = .ok (.iinc 3 1, 3) := by decide +kernel
theorem dX6_nameAt_100 : decode cX6_nameAt 100 = .ok (.goto (-98), 3) := by decide +kernel
theorem dX6_nameAt_103 : decode cX6_nameAt 103 = .ok (.bipush (-4), 2) := by decide +kernel
theorem dX6_nameAt_105 : decode cX6_nameAt 105 = .ok (.ireturn, 1) := by decide +kernel
theorem dX6_next_0 : decode cX6_next 0 = .ok (.aload_n 0, 1) := by decide +kernel
theorem dX6_next_1 : decode cX6_next 1 = .ok (.getfield 57, 3) := by decide +kernel
theorem dX6_next_4 : decode cX6_next 4 = .ok (.ifCond .le 4, 3) := by decide +kernel
theorem dX6_next_7 : decode cX6_next 7 = .ok (.return_, 1) := by decide +kernel
theorem dX6_next_8 : decode cX6_next 8 = .ok (.aload_n 0, 1) := by decide +kernel
theorem dX6_next_9 : decode cX6_next 9 = .ok (.aload_n 0, 1) := by decide +kernel
theorem dX6_next_10 : decode cX6_next 10 = .ok (.getfield 70, 3) := by decide +kernel
theorem dX6_next_13 : decode cX6_next 13 = .ok (.invokevirtual 66, 3) := by decide +kernel
theorem dX6_next_16 : decode cX6_next 16 = .ok (.bipush 32, 2) := by decide +kernel
theorem dX6_next_18 : decode cX6_next 18 = .ok (.if_icmp .ne 16, 3) := by decide +kernel
theorem dX6_next_21 : decode cX6_next 21 = .ok (.aload_n 0, 1) := by decide +kernel
theorem dX6_next_22 : decode cX6_next 22 = .ok (.dup, 1) := by decide +kernel
theorem dX6_next_23 : decode cX6_next 23 = .ok (.getfield 70, 3) := by decide +kernel
theorem dX6_next_26 : decode cX6_next 26 = .ok (.iconst 1, 1) := by decide +kernel
theorem dX6_next_27 : decode cX6_next 27 = .ok (.iadd, 1) := by decide +kernel
theorem dX6_next_28 : decode cX6_next 28 = .ok (.putfield 70, 3) := by decide +kernel
theorem dX6_next_31 : decode cX6_next 31 = .ok (.goto (-23), 3) := by decide +kernel
theorem dX6_next_34 : decode cX6_next 34 = .ok (.aload_n 0, 1) := by decide +kernel
theorem dX6_next_35 : decode cX6_next 35 = .ok (.aload_n 0, 1) := by decide +kernel
theorem dX6_next_36 : decode cX6_next 36 = .ok (.getfield 70, 3) := by decide +kernel
theorem dX6_next_39 : decode cX6_next 39 = .ok (.putfield 60, 3) := by decide +kernel
theorem dX6_next_42 : decode cX6_next 42 = .ok (.aload_n 0, 1) := by decide +kernel
theorem dX6_next_43 : decode cX6_next 43 = .ok (.aload_n 0, 1) := by decide +kernel
theorem dX6_next_44 : decode cX6_next 44 = .ok (.getfield 70, 3) := by decide +kernel
theorem dX6_next_47 : decode cX6_next 47 = .ok (.invokevirtual 66, 3) := by decide +kernel
theorem dX6_next_50 : decode cX6_next 50 = .ok (.istore_n 1, 1) := by decide +kernel
theorem dX6_next_51 : decode cX6_next 51 = .ok (.aload_n 0, 1) := by decide +kernel
theorem dX6_next_52 : decode cX6_next 52 = .ok (.iconst 0, 1) := by decide +kernel
theorem dX6_next_53 : decode cX6_next 53 = .ok (.putfield 73, 3) := by decide +kernel
theorem dX6_next_56 : decode cX6_next 56 = .ok (.iload_n 1, 1) := by decide +kernel
theorem dX6_next_57 : decode cX6_next 57 = .ok (.bipush (-4), 2) := by decide +kernel
theorem dX6_next_59 : decode cX6_next 59 = .ok (.if_icmp .ne 11, 3) := by decide +kernel
theorem dX6_next_62 : decode cX6_next 62 = .ok (.aload_n 0, 1) := by decide +kernel
theorem dX6_next_63 : decode cX6_next 63 = .ok (.iconst 0, 1) := by decide +kernel
theorem dX6_next_64 : decode cX6_next 64 = .ok (.putfield 76, 3) := by decide +kernel
theorem dX6_next_67 : decode cX6_next 67 = .ok (.goto 232, 3) := by decide +kernel
theorem dX6_next_70 : decode cX6_next 70 = .ok (.iload_n 1, 1) := by decide +kernel
theorem dX6_next_71 : decode cX6_next 71 = .ok (.i2l, 1) := by decide +kernel
theorem dX6_next_72 : decode cX6_next 72 = .ok (.ldc2_w 79, 3) := by decide +kernel
theorem dX6_next_75 : decode cX6_next 75 = .ok (.ldc2_w 81, 3) := by decide +kernel
theorem dX6_next_78 : decode cX6_next 78 = .ok (.invokestatic 53, 3) := by decide +kernel
theorem dX6_next_81 : decode cX6_next 81 = .ok (.ifCond .eq 75, 3) := by decide +kernel
theorem dX6_next_84 : decode cX6_next 84 = .ok (.aload_n 0, 1) := by decide +kernel
theorem dX6_next_85 : decode cX6_next 85 = .ok (.aload_n 0, 1) := by decide +kernel
theorem dX6_next_86 : decode cX6_next 86 = .ok (.getfield 70, 3) := by decide +kernel
theorem dX6_next_89 : decode cX6_next 89 = .ok (.invokevirtual 66, 3) := by decide +kernel
theorem dX6_next_92 : decode cX6_next 92 = .ok (.i2l, 1) := by decide +kernel
theorem dX6_next_93 : decode cX6_next 93 = .ok (.ldc2_w 79, 3) := by decide +kernel
theorem dX6_next_96 : decode cX6_next 96 = .ok (.ldc2_w 81, 3) := by decide +kernel
theorem dX6_next_99 : decode cX6_next 99 = .ok (.invokestatic 53, 3) := by decide +kernel
theorem dX6_next_102 : decode cX6_next 102 = .ok (.ifCond .eq 16, 3) := by decide +kernel
theorem dX6_next_105 : decode cX6_next 105 = .ok (.aload_n 0, 1) := by decide +kernel
theorem dX6_next_106 : decode cX6_next 106 = .ok (.dup, 1) := by decide +kernel
theorem dX6_next_107 : decode cX6_next 107 = .ok (.getfield 70, 3) := by decide +kernel
theorem dX6_next_110 : decode cX6_next 110 = .ok (.iconst 1, 1) := by decide +kernel
theorem dX6_next_111 : decode cX6_next 111 = .ok (.iadd, 1) := by decide +kernel
theorem dX6_next_112 : decode cX6_next 112 = .ok (.putfield 70, 3) := by decide +kernel
theorem dX6_next_115 : decode cX6_next 115 = .ok (.goto (-31), 3) := by decide +kernel
theorem dX6_next_118 : decode cX6_next 118 = .ok (.aload_n 0, 1) := by decide +kernel
theorem dX6_next_119 : decode cX6_next 119 = .ok (.iconst 1, 1) := by decide +kernel
theorem dX6_next_120 : decode cX6_next 120 = .ok (.putfield 76, 3) := by decide +kernel
theorem dX6_next_123 : decode cX6_next 123 = .ok (.aload_n 0, 1) := by decide +kernel
theorem dX6_next_124 : decode cX6_next 124 = .ok (.aload_n 0, 1) := by decide +kernel
theorem dX6_next_125 : decode cX6_next 125 = .ok (.aload_n 0, 1) := by decide +kernel
theorem dX6_next_126 : decode cX6_next 126 = .ok (.getfield 60, 3) := by decide +kernel
theorem dX6_next_129 : decode cX6_next 129 = .ok (.aload_n 0, 1) := by decide +kernel
theorem dX6_next_130 : decode cX6_next 130 = .ok (.getfield 70, 3) := by decide +kernel
theorem dX6_next_133 : decode cX6_next 133 = .ok (.invokevirtual 83, 3) := by decide +kernel
theorem dX6_next_136 : decode cX6_next 136 = .ok (.putfield 73, 3) := by decide +kernel
theorem dX6_next_139 : decode cX6_next 139 = .ok (.aload_n 0, 1) := by decide +kernel
theorem dX6_next_140 : decode cX6_next 140 = .ok (.getfield 73, 3) := by decide +kernel
theorem dX6_next_143 : decode cX6_next 143 = .ok (.bipush (-4), 2) := by decide +kernel
theorem dX6_next_145 : decode cX6_next 145 = .ok (.if_icmp .ne 154, 3) := by decide +kernel
theorem dX6_next_148 : decode cX6_next 148 = .ok (.aload_n 0, 1) := by decide +kernel
theorem dX6_next_149 : decode cX6_next 149 = .ok (.iconst 1, 1) := by decide +kernel
theorem dX6_next_150 : decode cX6_next 150 = .ok (.invokevirtual 87, 3) := by decide +kernel
theorem dX6_next_153 : decode cX6_next 153 = .ok (.goto 146, 3) := by decide +kernel
theorem dX6_next_156 : decode cX6_next 156 = .ok (.iload_n 1, 1) := by decide +kernel
theorem dX6_next_157 : decode cX6_next 157 = .ok (.i2l, 1) := by decide +kernel
theorem dX6_next_158 : decode cX6_next 158 = .ok (.ldc2_w 91, 3) := by decide +kernel
theorem dX6_next_161 : decode cX6_next 161 = .ok (.ldc2_w 93, 3) := by decide +kernel
theorem dX6_next_164 : decode cX6_next 164 = .ok (.invokestatic 53, 3) := by decide +kernel
theorem dX6_next_167 : decode cX6_next 167 = .ok (.ifCond .eq 106, 3) := by decide +kernel
theorem dX6_next_170 : decode cX6_next 170 = .ok (.aload_n 0, 1) := by decide +kernel
theorem dX6_next_171 : decode cX6_next 171 = .ok (.aload_n 0, 1) := by decide +kernel
theorem dX6_next_172 : decode cX6_next 172 = .ok (.getfield 70, 3) := by decide +kernel
theorem dX6_next_175 : decode cX6_next 175 = .ok (.invokevirtual 66, 3) := by decide +kernel
theorem dX6_next_178 : decode cX6_next 178 = .ok (.i2l, 1) := by decide +kernel
theorem dX6_next_179 : decode cX6_next 179 = .ok (.ldc2_w 91, 3) := by decide +kernel
theorem dX6_next_182 : decode cX6_next 182 = .ok (.ldc2_w 93, 3) := by decide +kernel
theorem dX6_next_185 : decode cX6_next 185 = .ok (.invokestatic 53, 3) := by decide +kernel
theorem dX6_next_188 : decode cX6_next 188 = .ok (.ifCond .eq 59, 3) := by decide +kernel
theorem dX6_next_191 : decode cX6_next 191 = .ok (.aload_n 0, 1) := by decide +kernel
theorem dX6_next_192 : decode cX6_next 192 = .ok (.aload_n 0, 1) := by decide +kernel
theorem dX6_next_193 : decode cX6_next 193 = .ok (.getfield 70, 3) := by decide +kernel
theorem dX6_next_196 : decode cX6_next 196 = .ok (.aload_n 0, 1) := by decide +kernel
theorem dX6_next_197 : decode cX6_next 197 = .ok (.getfield 60, 3) := by decide +kernel
theorem dX6_next_200 : decode cX6_next 200 = .ok (.isub, 1) := by decide +kernel
theorem dX6_next_201 : decode cX6_next 201 = .ok (.iconst 2, 1) := by decide +kernel
theorem dX6_next_202 : decode cX6_next 202 = .ok (.if_icmp .ge 25, 3) := by decide +kernel
theorem dX6_next_205 : decode cX6_next 205 = .ok (.bipush 10, 2) := by decide +kernel
theorem dX6_next_207 : decode cX6_next 207 = .ok (.aload_n 0, 1) := by decide +kernel
theorem dX6_next_208 : decode cX6_next 208 = .ok (.getfield 73, 3) := by decide +kernel
theorem dX6_next_211 : decode cX6_next 211 = .ok (.imul, 1) := by decide +kernel
theorem dX6_next_212 : decode cX6_next 212 = .ok (.aload_n 0, 1) := by decide +kernel
theorem dX6_next_213 : decode cX6_next 213 = .ok (.aload_n 0, 1) := by decide +kernel
theorem dX6_next_214 : decode cX6_next 214 = .ok (.getfield 70, 3) := by decide +kernel
theorem dX6_next_217 : decode cX6_next 217 = .ok (.invokevirtual 66, 3) := by decide +kernel
theorem dX6_next_220 : decode cX6_next 220 = .ok (.iadd, 1) := by decide +kernel
theorem dX6_next_221 : decode cX6_next 221 = .ok (.bipush 48, 2) := by decide +kernel
theorem dX6_next_223 : decode cX6_next 223 = .ok (.isub, 1) := by decide +kernel
theorem dX6_next_224 : decode cX6_next 224 = .ok (.goto 7, 3) := by decide +kernel
theorem dX6_next_227 : decode cX6_next 227 = .ok (.aload_n 0, 1) := by decide +kernel
theorem dX6_next_228 : decode cX6_next 228 = .ok (.getfield 73, 3) := by decide +kernel
theorem dX6_next_231 : decode cX6_next 231 = .ok (.putfield 73, 3) := by decide +kernel
theorem dX6_next_234 : decode cX6_next 234 = .ok (.aload_n 0, 1) := by decide +kernel
theorem dX6_next_235 : decode cX6_next 235 = .ok (.dup, 1) := by decide +kernel
theorem dX6_next_236 : decode cX6_next 236 = .ok (.getfield 70, 3) := by decide +kernel
theorem dX6_next_239 : decode cX6_next 239 = .ok (.iconst 1, 1) := by decide +kernel
theorem dX6_next_240 : decode cX6_next 240 = .ok (.iadd, 1) := by decide +kernel
theorem dX6_next_241 : decode cX6_next 241 = .ok (.putfield 70, 3) := by decide +kernel
theorem dX6_next_244 : decode cX6_next 244 = .ok (.goto (-74), 3) := by decide +kernel
theorem dX6_next_247 : decode cX6_next 247 = .ok (.aload_n 0, 1) := by decide +kernel
theorem dX6_next_248 : decode cX6_next 248 = .ok (.iconst 2, 1) := by decide +kernel
theorem dX6_next_249 : decode cX6_next 249 = .ok (.putfield 76, 3) := by decide +kernel
theorem dX6_next_252 : decode cX6_next 252 = .ok (.aload_n 0, 1) := by decide +kernel
theorem dX6_next_253 : decode cX6_next 253 = .ok (.getfield 70, 3) := by decide +kernel
theorem dX6_next_256 : decode cX6_next 256 = .ok (.aload_n 0, 1) := by decide +kernel
theorem dX6_next_257 : decode cX6_next 257 = .ok (.getfield 60, 3) := by decide +kernel
theorem dX6_next_260 : decode cX6_next 260 = .ok (.isub, 1) := by decide +kernel
theorem dX6_next_261 : decode cX6_next 261 = .ok (.iconst 2, 1) := by decide +kernel
theorem dX6_next_262 : decode cX6_next 262 = .ok (.if_icmp .le 37, 3) := by decide +kernel
theorem dX6_next_265 : decode cX6_next 265 = .ok (.aload_n 0, 1) := by decide +kernel
theorem dX6_next_266 : decode cX6_next 266 = .ok (.iconst 1, 1) := by decide +kernel
theorem dX6_next_267 : decode cX6_next 267 = .ok (.invokevirtual 87, 3) := by decide +kernel
theorem dX6_next_270 : decode cX6_next 270 = .ok (.goto 29, 3) := by decide +kernel
theorem dX6_next_273 : decode cX6_next 273 = .ok (.aload_n 0, 1) := by decide +kernel
theorem dX6_next_274 : decode cX6_next 274 = .ok (.iconst 3, 1) := by decide +kernel
theorem dX6_next_275 : decode cX6_next 275 = .ok (.putfield 76, 3) := by decide +kernel
theorem dX6_next_278 : decode cX6_next 278 = .ok (.aload_n 0, 1) := by decide +kernel
theorem dX6_next_279 : decode cX6_next 279 = .ok (.dup, 1) := by decide +kernel
theorem dX6_next_280 : decode cX6_next 280 = .ok (.getfield 70, 3) := by decide +kernel
theorem dX6_next_283 : decode cX6_next 283 = .ok (.iconst 1, 1) := by decide +kernel
theorem dX6_next_284 : decode cX6_next 284 = .ok (.iadd, 1) := by decide +kernel
theorem dX6_next_285 : decode cX6_next 285 = .ok (.putfield 70, 3) := by decide +kernel
theorem dX6_next_288 : decode cX6_next 288 = .ok (.iload_n 1, 1) := by decide +kernel
theorem dX6_next_289 : decode cX6_next 289 = .ok (.bipush 59, 2) := by decide +kernel
theorem dX6_next_291 : decode cX6_next 291 = .ok (.if_icmp .eq 8, 3) := by decide +kernel
theorem dX6_next_294 : decode cX6_next 294 = .ok (.aload_n 0, 1) := by decide +kernel
theorem dX6_next_295 : decode cX6_next 295 = .ok (.iconst 1, 1) := by decide +kernel
theorem dX6_next_296 : decode cX6_next 296 = .ok (.invokevirtual 87, 3) := by decide +kernel
theorem dX6_next_299 : decode cX6_next 299 = .ok (.return_, 1) := by decide +kernel
theorem dX6_number_0 : decode cX6_number 0 = .ok (.aload_n 0, 1) := by decide +kernel
theorem dX6_number_1 : decode cX6_number 1 = .ok (.getfield 57, 3) := by decide +kernel
theorem dX6_number_4 : decode cX6_number 4 = .ok (.ifCond .ne 16, 3) := by decide +kernel
theorem dX6_number_7 : decode cX6_number 7 = .ok (.aload_n 0, 1) := by decide +kernel
theorem dX6_number_8 : decode cX6_number 8 = .ok (.getfield 76, 3) := by decide +kernel
theorem dX6_number_11 : decode cX6_number 11 = .ok (.iconst 2, 1) := by decide +kernel
theorem dX6_number_12 : decode cX6_number 12 = .ok (.if_icmp .eq 8, 3) := by decide +kernel
theorem dX6_number_15 : decode cX6_number 15 = .ok (.aload_n 0, 1) := by decide +kernel
theorem dX6_number_16 : decode cX6_number 16 = .ok (.iconst 2, 1) := by decide +kernel
theorem dX6_number_17 : decode cX6_number 17 = .ok (.invokevirtual 87, 3) := by decide +kernel
theorem dX6_number_20 : decode cX6_number 20 = .ok (.aload_n 0, 1) := by decide +kernel
theorem dX6_number_21 : decode cX6_number 21 = .ok (.getfield 57, 3) := by decide +kernel
theorem dX6_number_24 : decode cX6_number 24 = .ok (.ifCond .ne 23, 3) := by decide +kernel
theorem dX6_number_27 : decode cX6_number 27 = .ok (.aload_n 0, 1) := by decide +kernel
theorem dX6_number_28 : decode cX6_number 28 = .ok (.getfield 73, 3) := by decide +kernel
theorem dX6_number_31 : decode cX6_number 31 = .ok (.i2l, 1) := by decide +kernel
theorem dX6_number_32 : decode cX6_number 32 = .ok (.iload_n 1, 1) := by decide +kernel
theorem dX6_number_33 : decode cX6_number 33 = .ok (.i2l, 1) := by decide +kernel
theorem dX6_number_34 : decode cX6_number 34 = .ok (.iload_n 2, 1) := by decide +kernel
theorem dX6_number_35 : decode cX6_number 35 = .ok (.i2l, 1) := by decide +kernel
theorem dX6_number_36 : decode cX6_number 36 = .ok (.invokestatic 53, 3) := by decide +kernel
theorem dX6_number_39 : decode cX6_number 39 = .ok (.ifCond .ne 8, 3) := by decide +kernel
theorem dX6_number_42 : decode cX6_number 42 = .ok (.aload_n 0, 1) := by decide +kernel
theorem dX6_number_43 : decode cX6_number 43 = .ok (.iconst 3, 1) := by decide +kernel
theorem dX6_number_44 : decode cX6_number 44 = .ok (.invokevirtual 87, 3) := by decide +kernel
theorem dX6_number_47 : decode cX6_number 47 = .ok (.aload_n 0, 1) := by decide +kernel
theorem dX6_number_48 : decode cX6_number 48 = .ok (.getfield 57, 3) := by decide +kernel
theorem dX6_number_51 : decode cX6_number 51 = .ok (.ifCond .ne 10, 3) := by decide +kernel
theorem dX6_number_54 : decode cX6_number 54 = .ok (.aload_n 0, 1) := by decide +kernel
theorem dX6_number_55 : decode cX6_number 55 = .ok (.getfield 73, 3) := by decide +kernel
theorem dX6_number_58 : decode cX6_number 58 = .ok (.goto 4, 3) := by decide +kernel
theorem dX6_number_61 : decode cX6_number 61 = .ok (.iload_n 1, 1) := by decide +kernel
theorem dX6_number_62 : decode cX6_number 62 = .ok (.ireturn, 1) := by decide +kernel
theorem dX6_readSort_0 : decode cX6_readSort 0 = .ok (.aload_n 0, 1) := by decide +kernel
theorem dX6_readSort_1 : decode cX6_readSort 1 = .ok (.invokevirtual 95, 3) := by decide +kernel
theorem dX6_readSort_4 : decode cX6_readSort 4 = .ok (.aload_n 0, 1) := by decide +kernel
theorem dX6_readSort_5 : decode cX6_readSort 5 = .ok (.iconst 1, 1) := by decide +kernel
theorem dX6_readSort_6 : decode cX6_readSort 6 = .ok (.bipush 50, 2) := by decide +kernel
theorem dX6_readSort_8 : decode cX6_readSort 8 = .ok (.invokevirtual 98, 3) := by decide +kernel
theorem dX6_readSort_11 : decode cX6_readSort 11 = .ok (.istore_n 1, 1) := by decide +kernel
theorem dX6_readSort_12 : decode cX6_readSort 12 = .ok (.aload_n 0, 1) := by decide +kernel
theorem dX6_readSort_13 : decode cX6_readSort 13 = .ok (.invokevirtual 95, 3) := by decide +kernel
theorem dX6_readSort_16 : decode cX6_readSort 16 = .ok (.aload_n 0, 1) := by decide +kernel
theorem dX6_readSort_17 : decode cX6_readSort 17 = .ok (.iconst 0, 1) := by decide +kernel
theorem dX6_readSort_18 : decode cX6_readSort 18 = .ok (.bipush 99, 2) := by decide +kernel
theorem dX6_readSort_20 : decode cX6_readSort 20 = .ok (.invokevirtual 98, 3) := by decide +kernel
theorem dX6_readSort_23 : decode cX6_readSort 23 = .ok (.istore_n 2, 1) := by decide +kernel
theorem dX6_readSort_24 : decode cX6_readSort 24 = .ok (.aload_n 0, 1) := by decide +kernel
theorem dX6_readSort_25 : decode cX6_readSort 25 = .ok (.invokevirtual 95, 3) := by decide +kernel
theorem dX6_readSort_28 : decode cX6_readSort 28 = .ok (.aload_n 0, 1) := by decide +kernel
theorem dX6_readSort_29 : decode cX6_readSort 29 = .ok (.iconst 0, 1) := by decide +kernel
theorem dX6_readSort_30 : decode cX6_readSort 30 = .ok (.bipush 99, 2) := by decide +kernel
theorem dX6_readSort_32 : decode cX6_readSort 32 = .ok (.invokevirtual 98, 3) := by decide +kernel
theorem dX6_readSort_35 : decode cX6_readSort 35 = .ok (.istore_n 3, 1) := by decide +kernel
theorem dX6_readSort_36 : decode cX6_readSort 36 = .ok (.aload_n 0, 1) := by decide +kernel
theorem dX6_readSort_37 : decode cX6_readSort 37 = .ok (.invokevirtual 95, 3) := by decide +kernel
theorem dX6_readSort_40 : decode cX6_readSort 40 = .ok (.aload_n 0, 1) := by decide +kernel
theorem dX6_readSort_41 : decode cX6_readSort 41 = .ok (.getfield 57, 3) := by decide +kernel
theorem dX6_readSort_44 : decode cX6_readSort 44 = .ok (.ifCond .ne 28, 3) := by decide +kernel
theorem dX6_readSort_47 : decode cX6_readSort 47 = .ok (.aload_n 0, 1) := by decide +kernel
theorem dX6_readSort_48 : decode cX6_readSort 48 = .ok (.getfield 22, 3) := by decide +kernel
theorem dX6_readSort_51 : decode cX6_readSort 51 = .ok (.aload_n 0, 1) := by decide +kernel
theorem dX6_readSort_52 : decode cX6_readSort 52 = .ok (.getfield 101, 3) := by decide +kernel
theorem dX6_readSort_55 : decode cX6_readSort 55 = .ok (.iload_n 1, 1) := by decide +kernel
theorem dX6_readSort_56 : decode cX6_readSort 56 = .ok (.iload_n 2, 1) := by decide +kernel
theorem dX6_readSort_57 : decode cX6_readSort 57 = .ok (.iload_n 3, 1) := by decide +kernel
theorem dX6_readSort_58 : decode cX6_readSort 58 = .ok (.iconst 0, 1) := by decide +kernel
theorem dX6_readSort_59 : decode cX6_readSort 59 = .ok (.invokestatic 104, 3) := by decide +kernel
theorem dX6_readSort_62 : decode cX6_readSort 62 = .ok (.aload_n 0, 1) := by decide +kernel
theorem dX6_readSort_63 : decode cX6_readSort 63 = .ok (.dup, 1) := by decide +kernel
theorem dX6_readSort_64 : decode cX6_readSort 64 = .ok (.getfield 101, 3) := by decide +kernel
theorem dX6_readSort_67 : decode cX6_readSort 67 = .ok (.iconst 1, 1) := by decide +kernel
theorem dX6_readSort_68 : decode cX6_readSort 68 = .ok (.iadd, 1) := by decide +kernel
theorem dX6_readSort_69 : decode cX6_readSort 69 = .ok (.putfield 101, 3) := by decide +kernel
theorem dX6_readSort_72 : decode cX6_readSort 72 = .ok (.return_, 1) := by decide +kernel
theorem dX6_layRow_0 : decode cX6_layRow 0 = .ok (.aload_n 0, 1) := by decide +kernel
theorem dX6_layRow_1 : decode cX6_layRow 1 = .ok (.iconst 5, 1) := by decide +kernel
theorem dX6_layRow_2 : decode cX6_layRow 2 = .ok (.iload_n 1, 1) := by decide +kernel
theorem dX6_layRow_3 : decode cX6_layRow 3 = .ok (.imul, 1) := by decide +kernel
theorem dX6_layRow_4 : decode cX6_layRow 4 = .ok (.iload_n 2, 1) := by decide +kernel
theorem dX6_layRow_5 : decode cX6_layRow 5 = .ok (.iastore, 1) := by decide +kernel
theorem dX6_layRow_6 : decode cX6_layRow 6 = .ok (.aload_n 0, 1) := by decide +kernel
theorem dX6_layRow_7 : decode cX6_layRow 7 = .ok (.iconst 5, 1) := by decide +kernel
theorem dX6_layRow_8 : decode cX6_layRow 8 = .ok (.iload_n 1, 1) := by decide +kernel
theorem dX6_layRow_9 : decode cX6_layRow 9 = .ok (.imul, 1) := by decide +kernel
theorem dX6_layRow_10 : decode cX6_layRow 10 = .ok (.iconst 1, 1) := by decide +kernel
theorem dX6_layRow_11 : decode cX6_layRow 11 = .ok (.iadd, 1) := by decide +kernel
theorem dX6_layRow_12 : decode cX6_layRow 12 = .ok (.iload_n 3, 1) := by decide +kernel
theorem dX6_layRow_13 : decode cX6_layRow 13 = .ok (.iastore, 1) := by decide +kernel
theorem dX6_layRow_14 : decode cX6_layRow 14 = .ok (.aload_n 0, 1) := by decide +kernel
theorem dX6_layRow_15 : decode cX6_layRow 15 = .ok (.iconst 5, 1) := by decide +kernel
theorem dX6_layRow_16 : decode cX6_layRow 16 = .ok (.iload_n 1, 1) := by decide +kernel
theorem dX6_layRow_17 : decode cX6_layRow 17 = .ok (.imul, 1) := by decide +kernel
theorem dX6_layRow_18 : decode cX6_layRow 18 = .ok (.iconst 2, 1) := by decide +kernel
theorem dX6_layRow_19 : decode cX6_layRow 19 = .ok (.iadd, 1) := by decide +kernel
theorem dX6_layRow_20 : decode cX6_layRow 20 = .ok (.iload 4, 2) := by decide +kernel
theorem dX6_layRow_22 : decode cX6_layRow 22 = .ok (.iastore, 1) := by decide +kernel
theorem dX6_layRow_23 : decode cX6_layRow 23 = .ok (.aload_n 0, 1) := by decide +kernel
theorem dX6_layRow_24 : decode cX6_layRow 24 = .ok (.iconst 5, 1) := by decide +kernel
theorem dX6_layRow_25 : decode cX6_layRow 25 = .ok (.iload_n 1, 1) := by decide +kernel
theorem dX6_layRow_26 : decode cX6_layRow 26 = .ok (.imul, 1) := by decide +kernel
theorem dX6_layRow_27 : decode cX6_layRow 27 = .ok (.iconst 3, 1) := by decide +kernel
theorem dX6_layRow_28 : decode cX6_layRow 28 = .ok (.iadd, 1) := by decide +kernel
theorem dX6_layRow_29 : decode cX6_layRow 29 = .ok (.iload 5, 2) := by decide +kernel
theorem dX6_layRow_31 : decode cX6_layRow 31 = .ok (.iastore, 1) := by decide +kernel
theorem dX6_layRow_32 : decode cX6_layRow 32 = .ok (.aload_n 0, 1) := by decide +kernel
theorem dX6_layRow_33 : decode cX6_layRow 33 = .ok (.iconst 5, 1) := by decide +kernel
theorem dX6_layRow_34 : decode cX6_layRow 34 = .ok (.iload_n 1, 1) := by decide +kernel
theorem dX6_layRow_35 : decode cX6_layRow 35 = .ok (.imul, 1) := by decide +kernel
theorem dX6_layRow_36 : decode cX6_layRow 36 = .ok (.iconst 4, 1) := by decide +kernel
theorem dX6_layRow_37 : decode cX6_layRow 37 = .ok (.iadd, 1) := by decide +kernel
theorem dX6_layRow_38 : decode cX6_layRow 38 = .ok (.iconst 0, 1) := by decide +kernel
theorem dX6_layRow_39 : decode cX6_layRow 39 = .ok (.iastore, 1) := by decide +kernel
theorem dX6_layRow_40 : decode cX6_layRow 40 = .ok (.return_, 1) := by decide +kernel
theorem dX6_readOf_0 : decode cX6_readOf 0 = .ok (.aload_n 0, 1) := by decide +kernel
theorem dX6_readOf_1 : decode cX6_readOf 1 = .ok (.invokevirtual 95, 3) := by decide +kernel
theorem dX6_readOf_4 : decode cX6_readOf 4 = .ok (.aload_n 0, 1) := by decide +kernel
theorem dX6_readOf_5 : decode cX6_readOf 5 = .ok (.iconst 0, 1) := by decide +kernel
theorem dX6_readOf_6 : decode cX6_readOf 6 = .ok (.aload_n 0, 1) := by decide +kernel
theorem dX6_readOf_7 : decode cX6_readOf 7 = .ok (.getfield 101, 3) := by decide +kernel
theorem dX6_readOf_10 : decode cX6_readOf 10 = .ok (.iconst 1, 1) := by decide +kernel
theorem dX6_readOf_11 : decode cX6_readOf 11 = .ok (.isub, 1) := by decide +kernel
theorem dX6_readOf_12 : decode cX6_readOf 12 = .ok (.invokevirtual 98, 3) := by decide +kernel
theorem dX6_readOf_15 : decode cX6_readOf 15 = .ok (.istore_n 2, 1) := by decide +kernel
theorem dX6_readOf_16 : decode cX6_readOf 16 = .ok (.bipush 8, 2) := by decide +kernel
theorem dX6_readOf_18 : decode cX6_readOf 18 = .ok (.bipush 8, 2) := by decide +kernel
theorem dX6_readOf_20 : decode cX6_readOf 20 = .ok (.iload_n 1, 1) := by decide +kernel
theorem dX6_readOf_21 : decode cX6_readOf 21 = .ok (.imul, 1) := by decide +kernel
theorem dX6_readOf_22 : decode cX6_readOf 22 = .ok (.iadd, 1) := by decide +kernel
theorem dX6_readOf_23 : decode cX6_readOf 23 = .ok (.iload_n 2, 1) := by decide +kernel
theorem dX6_readOf_24 : decode cX6_readOf 24 = .ok (.iadd, 1) := by decide +kernel
theorem dX6_readOf_25 : decode cX6_readOf 25 = .ok (.istore_n 3, 1) := by decide +kernel
theorem dX6_readOf_26 : decode cX6_readOf 26 = .ok (.aload_n 0, 1) := by decide +kernel
theorem dX6_readOf_27 : decode cX6_readOf 27 = .ok (.getfield 57, 3) := by decide +kernel
theorem dX6_readOf_30 : decode cX6_readOf 30 = .ok (.ifCond .ne 20, 3) := by decide +kernel
theorem dX6_readOf_33 : decode cX6_readOf 33 = .ok (.aload_n 0, 1) := by decide +kernel
theorem dX6_readOf_34 : decode cX6_readOf 34 = .ok (.getfield 108, 3) := by decide +kernel
theorem dX6_readOf_37 : decode cX6_readOf 37 = .ok (.iload_n 3, 1) := by decide +kernel
theorem dX6_readOf_38 : decode cX6_readOf 38 = .ok (.ishr, 1) := by decide +kernel
theorem dX6_readOf_39 : decode cX6_readOf 39 = .ok (.iconst 1, 1) := by decide +kernel
theorem dX6_readOf_40 : decode cX6_readOf 40 = .ok (.iand, 1) := by decide +kernel
theorem dX6_readOf_41 : decode cX6_readOf 41 = .ok (.iconst 1, 1) := by decide +kernel
theorem dX6_readOf_42 : decode cX6_readOf 42 = .ok (.if_icmp .ne 8, 3) := by decide +kernel
theorem dX6_readOf_45 : decode cX6_readOf 45 = .ok (.aload_n 0, 1) := by decide +kernel
theorem dX6_readOf_46 : decode cX6_readOf 46 = .ok (.iconst 4, 1) := by decide +kernel
theorem dX6_readOf_47 : decode cX6_readOf 47 = .ok (.invokevirtual 87, 3) := by decide +kernel
theorem dX6_readOf_50 : decode cX6_readOf 50 = .ok (.aload_n 0, 1) := by decide +kernel
theorem dX6_readOf_51 : decode cX6_readOf 51 = .ok (.dup, 1) := by decide +kernel
theorem dX6_readOf_52 : decode cX6_readOf 52 = .ok (.getfield 108, 3) := by decide +kernel
theorem dX6_readOf_55 : decode cX6_readOf 55 = .ok (.aload_n 0, 1) := by decide +kernel
theorem dX6_readOf_56 : decode cX6_readOf 56 = .ok (.getfield 57, 3) := by decide +kernel
theorem dX6_readOf_59 : decode cX6_readOf 59 = .ok (.ifCond .ne 9, 3) := by decide +kernel
theorem dX6_readOf_62 : decode cX6_readOf 62 = .ok (.iconst 1, 1) := by decide +kernel
theorem dX6_readOf_63 : decode cX6_readOf 63 = .ok (.iload_n 3, 1) := by decide +kernel
theorem dX6_readOf_64 : decode cX6_readOf 64 = .ok (.ishl, 1) := by decide +kernel
theorem dX6_readOf_65 : decode cX6_readOf 65 = .ok (.goto 4, 3) := by decide +kernel
theorem dX6_readOf_68 : decode cX6_readOf 68 = .ok (.iconst 0, 1) := by decide +kernel
theorem dX6_readOf_69 : decode cX6_readOf 69 = .ok (.ior, 1) := by decide +kernel
theorem dX6_readOf_70 : decode cX6_readOf 70 = .ok (.putfield 108, 3) := by decide +kernel
theorem dX6_readOf_73 : decode cX6_readOf 73 = .ok (.aload_n 0, 1) := by decide +kernel
theorem dX6_readOf_74 : decode cX6_readOf 74 = .ok (.invokevirtual 95, 3) := by decide +kernel
theorem dX6_readOf_77 : decode cX6_readOf 77 = .ok (.aload_n 0, 1) := by decide +kernel
theorem dX6_readOf_78 : decode cX6_readOf 78 = .ok (.iconst 0, 1) := by decide +kernel
theorem dX6_readOf_79 : decode cX6_readOf 79 = .ok (.iload_n 1, 1) := by decide +kernel
theorem dX6_readOf_80 : decode cX6_readOf 80 = .ok (.iconst 1, 1) := by decide +kernel
theorem dX6_readOf_81 : decode cX6_readOf 81 = .ok (.if_icmp .eq 10, 3) := by decide +kernel
theorem dX6_readOf_84 : decode cX6_readOf 84 = .ok (.aload_n 0, 1) := by decide +kernel
theorem dX6_readOf_85 : decode cX6_readOf 85 = .ok (.getfield 57, 3) := by decide +kernel
theorem dX6_readOf_88 : decode cX6_readOf 88 = .ok (.ifCond .le 8, 3) := by decide +kernel
theorem dX6_readOf_91 : decode cX6_readOf 91 = .ok (.bipush 10, 2) := by decide +kernel
theorem dX6_readOf_93 : decode cX6_readOf 93 = .ok (.goto 13, 3) := by decide +kernel
theorem dX6_readOf_96 : decode cX6_readOf 96 = .ok (.aload_n 0, 1) := by decide +kernel
theorem dX6_readOf_97 : decode cX6_readOf 97 = .ok (.getfield 22, 3) := by decide +kernel
theorem dX6_readOf_100 : decode cX6_readOf 100 = .ok (.iconst 5, 1) := by decide +kernel
theorem dX6_readOf_101 : decode cX6_readOf 101 = .ok (.iload_n 2, 1) := by decide +kernel
theorem dX6_readOf_102 : decode cX6_readOf 102 = .ok (.imul, 1) := by decide +kernel
theorem dX6_readOf_103 : decode cX6_readOf 103 = .ok (.iconst 0, 1) := by decide +kernel
theorem dX6_readOf_104 : decode cX6_readOf 104 = .ok (.iadd, 1) := by decide +kernel
theorem dX6_readOf_105 : decode cX6_readOf 105 = .ok (.iaload, 1) := by decide +kernel
theorem dX6_readOf_106 : decode cX6_readOf 106 = .ok (.invokevirtual 98, 3) := by decide +kernel
theorem dX6_readOf_109 : decode cX6_readOf 109 = .ok (.istore 4, 2) := by decide +kernel
theorem dX6_readOf_111 : decode cX6_readOf 111 = .ok (.aload_n 0, 1) := by decide +kernel
theorem dX6_readOf_112 : decode cX6_readOf 112 = .ok (.getfield 57, 3) := by decide +kernel
theorem dX6_readOf_115 : decode cX6_readOf 115 = .ok (.ifCond .ne 24, 3) := by decide +kernel
theorem dX6_readOf_118 : decode cX6_readOf 118 = .ok (.aload_n 0, 1) := by decide +kernel
theorem dX6_readOf_119 : decode cX6_readOf 119 = .ok (.getfield 22, 3) := by decide +kernel
theorem dX6_readOf_122 : decode cX6_readOf 122 = .ok (.iconst 5, 1) := by decide +kernel
theorem dX6_readOf_123 : decode cX6_readOf 123 = .ok (.iload_n 2, 1) := by decide +kernel
theorem dX6_readOf_124 : decode cX6_readOf 124 = .ok (.imul, 1) := by decide +kernel
theorem dX6_readOf_125 : decode cX6_readOf 125 = .ok (.iload_n 1, 1) := by decide +kernel
theorem dX6_readOf_126 : decode cX6_readOf 126 = .ok (.iconst 1, 1) := by decide +kernel
theorem dX6_readOf_127 : decode cX6_readOf 127 = .ok (.if_icmp .ne 7, 3) := by decide +kernel
theorem dX6_readOf_130 : decode cX6_readOf 130 = .ok (.iconst 3, 1) := by decide +kernel
theorem dX6_readOf_131 : decode cX6_readOf 131 = .ok (.goto 4, 3) := by decide +kernel
theorem dX6_readOf_134 : decode cX6_readOf 134 = .ok (.iconst 4, 1) := by decide +kernel
theorem dX6_readOf_135 : decode cX6_readOf 135 = .ok (.iadd, 1) := by decide +kernel
theorem dX6_readOf_136 : decode cX6_readOf 136 = .ok (.iload 4, 2) := by decide +kernel
theorem dX6_readOf_138 : decode cX6_readOf 138 = .ok (.iastore, 1) := by decide +kernel
theorem dX6_readOf_139 : decode cX6_readOf 139 = .ok (.aload_n 0, 1) := by decide +kernel
theorem dX6_readOf_140 : decode cX6_readOf 140 = .ok (.invokevirtual 95, 3) := by decide +kernel
theorem dX6_readOf_143 : decode cX6_readOf 143 = .ok (.return_, 1) := by decide +kernel
theorem dX6_readLine_0 : decode cX6_readLine 0 = .ok (.aload_n 0, 1) := by decide +kernel
theorem dX6_readLine_1 : decode cX6_readLine 1 = .ok (.getfield 76, 3) := by decide +kernel
theorem dX6_readLine_4 : decode cX6_readLine 4 = .ok (.iconst 1, 1) := by decide +kernel
theorem dX6_readLine_5 : decode cX6_readLine 5 = .ok (.if_icmp .eq 9, 3) := by decide +kernel
theorem dX6_readLine_8 : decode cX6_readLine 8 = .ok (.aload_n 0, 1) := by decide +kernel
theorem dX6_readLine_9 : decode cX6_readLine 9 = .ok (.iconst 2, 1) := by decide +kernel
theorem dX6_readLine_10 : decode cX6_readLine 10 = .ok (.invokevirtual 87, 3) := by decide +kernel
theorem dX6_readLine_13 : decode cX6_readLine 13 = .ok (.return_, 1) := by decide +kernel
theorem dX6_readLine_14 : decode cX6_readLine 14 = .ok (.aload_n 0, 1) := by decide +kernel
theorem dX6_readLine_15 : decode cX6_readLine 15 = .ok (.getfield 73, 3) := by decide +kernel
theorem dX6_readLine_18 : decode cX6_readLine 18 = .ok (.istore_n 1, 1) := by decide +kernel
theorem dX6_readLine_19 : decode cX6_readLine 19 = .ok (.iload_n 1, 1) := by decide +kernel
theorem dX6_readLine_20 : decode cX6_readLine 20 = .ok (.ifCond .ne 24, 3) := by decide +kernel
theorem dX6_readLine_23 : decode cX6_readLine 23 = .ok (.aload_n 0, 1) := by decide +kernel
theorem dX6_readLine_24 : decode cX6_readLine 24 = .ok (.getfield 101, 3) := by decide +kernel
theorem dX6_readLine_27 : decode cX6_readLine 27 = .ok (.bipush 8, 2) := by decide +kernel
theorem dX6_readLine_29 : decode cX6_readLine 29 = .ok (.if_icmp .ne 8, 3) := by decide +kernel
theorem dX6_readLine_32 : decode cX6_readLine 32 = .ok (.aload_n 0, 1) := by decide +kernel
theorem dX6_readLine_33 : decode cX6_readLine 33 = .ok (.iconst 5, 1) := by decide +kernel
theorem dX6_readLine_34 : decode cX6_readLine 34 = .ok (.invokevirtual 87, 3) := by decide +kernel
theorem dX6_readLine_37 : decode cX6_readLine 37 = .ok (.aload_n 0, 1) := by decide +kernel
theorem dX6_readLine_38 : decode cX6_readLine 38 = .ok (.invokevirtual 111, 3) := by decide +kernel
theorem dX6_readLine_41 : decode cX6_readLine 41 = .ok (.goto 146, 3) := by decide +kernel
theorem dX6_readLine_44 : decode cX6_readLine 44 = .ok (.iload_n 1, 1) := by decide +kernel
theorem dX6_readLine_45 : decode cX6_readLine 45 = .ok (.iconst 3, 1) := by decide +kernel
theorem dX6_readLine_46 : decode cX6_readLine 46 = .ok (.if_icmp .ge 11, 3) := by decide +kernel
theorem dX6_readLine_49 : decode cX6_readLine 49 = .ok (.aload_n 0, 1) := by decide +kernel
theorem dX6_readLine_50 : decode cX6_readLine 50 = .ok (.iload_n 1, 1) := by decide +kernel
theorem dX6_readLine_51 : decode cX6_readLine 51 = .ok (.invokevirtual 114, 3) := by decide +kernel
theorem dX6_readLine_54 : decode cX6_readLine 54 = .ok (.goto 133, 3) := by decide +kernel
theorem dX6_readLine_57 : decode cX6_readLine 57 = .ok (.aload_n 0, 1) := by decide +kernel
theorem dX6_readLine_58 : decode cX6_readLine 58 = .ok (.getfield 108, 3) := by decide +kernel
theorem dX6_readLine_61 : decode cX6_readLine 61 = .ok (.iload_n 1, 1) := by decide +kernel
theorem dX6_readLine_62 : decode cX6_readLine 62 = .ok (.ishr, 1) := by decide +kernel
theorem dX6_readLine_63 : decode cX6_readLine 63 = .ok (.iconst 1, 1) := by decide +kernel
theorem dX6_readLine_64 : decode cX6_readLine 64 = .ok (.iand, 1) := by decide +kernel
theorem dX6_readLine_65 : decode cX6_readLine 65 = .ok (.iconst 1, 1) := by decide +kernel
theorem dX6_readLine_66 : decode cX6_readLine 66 = .ok (.if_icmp .ne 8, 3) := by decide +kernel
theorem dX6_readLine_69 : decode cX6_readLine 69 = .ok (.aload_n 0, 1) := by decide +kernel
theorem dX6_readLine_70 : decode cX6_readLine 70 = .ok (.iconst 4, 1) := by decide +kernel
theorem dX6_readLine_71 : decode cX6_readLine 71 = .ok (.invokevirtual 87, 3) := by decide +kernel
theorem dX6_readLine_74 : decode cX6_readLine 74 = .ok (.aload_n 0, 1) := by decide +kernel
theorem dX6_readLine_75 : decode cX6_readLine 75 = .ok (.dup, 1) := by decide +kernel
theorem dX6_readLine_76 : decode cX6_readLine 76 = .ok (.getfield 108, 3) := by decide +kernel
theorem dX6_readLine_79 : decode cX6_readLine 79 = .ok (.iconst 1, 1) := by decide +kernel
theorem dX6_readLine_80 : decode cX6_readLine 80 = .ok (.iload_n 1, 1) := by decide +kernel
theorem dX6_readLine_81 : decode cX6_readLine 81 = .ok (.ishl, 1) := by decide +kernel
theorem dX6_readLine_82 : decode cX6_readLine 82 = .ok (.ior, 1) := by decide +kernel
theorem dX6_readLine_83 : decode cX6_readLine 83 = .ok (.putfield 108, 3) := by decide +kernel
theorem dX6_readLine_86 : decode cX6_readLine 86 = .ok (.aload_n 0, 1) := by decide +kernel
theorem dX6_readLine_87 : decode cX6_readLine 87 = .ok (.invokevirtual 95, 3) := by decide +kernel
theorem dX6_readLine_90 : decode cX6_readLine 90 = .ok (.aload_n 0, 1) := by decide +kernel
theorem dX6_readLine_91 : decode cX6_readLine 91 = .ok (.iload_n 1, 1) := by decide +kernel
theorem dX6_readLine_92 : decode cX6_readLine 92 = .ok (.iconst 4, 1) := by decide +kernel
theorem dX6_readLine_93 : decode cX6_readLine 93 = .ok (.if_icmp .ne 7, 3) := by decide +kernel
theorem dX6_readLine_96 : decode cX6_readLine 96 = .ok (.iconst 4, 1) := by decide +kernel
theorem dX6_readLine_97 : decode cX6_readLine 97 = .ok (.goto 13, 3) := by decide +kernel
theorem dX6_readLine_100 : decode cX6_readLine 100 = .ok (.iload_n 1, 1) := by decide +kernel
theorem dX6_readLine_101 : decode cX6_readLine 101 = .ok (.iconst 3, 1) := by decide +kernel
theorem dX6_readLine_102 : decode cX6_readLine 102 = .ok (.if_icmp .ne 7, 3) := by decide +kernel
theorem dX6_readLine_105 : decode cX6_readLine 105 = .ok (.iconst 0, 1) := by decide +kernel
theorem dX6_readLine_106 : decode cX6_readLine 106 = .ok (.goto 4, 3) := by decide +kernel
theorem dX6_readLine_109 : decode cX6_readLine 109 = .ok (.iconst 1, 1) := by decide +kernel
theorem dX6_readLine_110 : decode cX6_readLine 110 = .ok (.iload_n 1, 1) := by decide +kernel
theorem dX6_readLine_111 : decode cX6_readLine 111 = .ok (.iconst 4, 1) := by decide +kernel
theorem dX6_readLine_112 : decode cX6_readLine 112 = .ok (.if_icmp .ne 8, 3) := by decide +kernel
theorem dX6_readLine_115 : decode cX6_readLine 115 = .ok (.bipush 8, 2) := by decide +kernel
theorem dX6_readLine_117 : decode cX6_readLine 117 = .ok (.goto 15, 3) := by decide +kernel
theorem dX6_readLine_120 : decode cX6_readLine 120 = .ok (.iload_n 1, 1) := by decide +kernel
theorem dX6_readLine_121 : decode cX6_readLine 121 = .ok (.iconst 3, 1) := by decide +kernel
theorem dX6_readLine_122 : decode cX6_readLine 122 = .ok (.if_icmp .ne 8, 3) := by decide +kernel
theorem dX6_readLine_125 : decode cX6_readLine 125 = .ok (.bipush 99, 2) := by decide +kernel
theorem dX6_readLine_127 : decode cX6_readLine 127 = .ok (.goto 5, 3) := by decide +kernel
theorem dX6_readLine_130 : decode cX6_readLine 130 = .ok (.bipush 10, 2) := by decide +kernel
theorem dX6_readLine_132 : decode cX6_readLine 132 = .ok (.invokevirtual 98, 3) := by decide +kernel
theorem dX6_readLine_135 : decode cX6_readLine 135 = .ok (.istore_n 2, 1) := by decide +kernel
theorem dX6_readLine_136 : decode cX6_readLine 136 = .ok (.aload_n 0, 1) := by decide +kernel
theorem dX6_readLine_137 : decode cX6_readLine 137 = .ok (.invokevirtual 95, 3) := by decide +kernel
theorem dX6_readLine_140 : decode cX6_readLine 140 = .ok (.aload_n 0, 1) := by decide +kernel
theorem dX6_readLine_141 : decode cX6_readLine 141 = .ok (.getfield 28, 3) := by decide +kernel
theorem dX6_readLine_144 : decode cX6_readLine 144 = .ok (.iload_n 1, 1) := by decide +kernel
theorem dX6_readLine_145 : decode cX6_readLine 145 = .ok (.iconst 3, 1) := by decide +kernel
theorem dX6_readLine_146 : decode cX6_readLine 146 = .ok (.if_icmp .ne 7, 3) := by decide +kernel
theorem dX6_readLine_149 : decode cX6_readLine 149 = .ok (.iconst 0, 1) := by decide +kernel
theorem dX6_readLine_150 : decode cX6_readLine 150 = .ok (.goto 13, 3) := by decide +kernel
theorem dX6_readLine_153 : decode cX6_readLine 153 = .ok (.iload_n 1, 1) := by decide +kernel
theorem dX6_readLine_154 : decode cX6_readLine 154 = .ok (.iconst 4, 1) := by decide +kernel
theorem dX6_readLine_155 : decode cX6_readLine 155 = .ok (.if_icmp .ne 7, 3) := by decide +kernel
theorem dX6_readLine_158 : decode cX6_readLine 158 = .ok (.iconst 1, 1) := by decide +kernel
theorem dX6_readLine_159 : decode cX6_readLine 159 = .ok (.goto 4, 3) := by decide +kernel
theorem dX6_readLine_162 : decode cX6_readLine 162 = .ok (.iconst 3, 1) := by decide +kernel
theorem dX6_readLine_163 : decode cX6_readLine 163 = .ok (.iload_n 2, 1) := by decide +kernel
theorem dX6_readLine_164 : decode cX6_readLine 164 = .ok (.iastore, 1) := by decide +kernel
theorem dX6_readLine_165 : decode cX6_readLine 165 = .ok (.iload_n 1, 1) := by decide +kernel
theorem dX6_readLine_166 : decode cX6_readLine 166 = .ok (.iconst 4, 1) := by decide +kernel
theorem dX6_readLine_167 : decode cX6_readLine 167 = .ok (.if_icmp .ne 20, 3) := by decide +kernel
theorem dX6_readLine_170 : decode cX6_readLine 170 = .ok (.aload_n 0, 1) := by decide +kernel
theorem dX6_readLine_171 : decode cX6_readLine 171 = .ok (.getfield 28, 3) := by decide +kernel
theorem dX6_readLine_174 : decode cX6_readLine 174 = .ok (.iconst 2, 1) := by decide +kernel
theorem dX6_readLine_175 : decode cX6_readLine 175 = .ok (.aload_n 0, 1) := by decide +kernel
theorem dX6_readLine_176 : decode cX6_readLine 176 = .ok (.iconst 0, 1) := by decide +kernel
theorem dX6_readLine_177 : decode cX6_readLine 177 = .ok (.bipush 20, 2) := by decide +kernel
theorem dX6_readLine_179 : decode cX6_readLine 179 = .ok (.invokevirtual 98, 3) := by decide +kernel
theorem dX6_readLine_182 : decode cX6_readLine 182 = .ok (.iastore, 1) := by decide +kernel
theorem dX6_readLine_183 : decode cX6_readLine 183 = .ok (.aload_n 0, 1) := by decide +kernel
theorem dX6_readLine_184 : decode cX6_readLine 184 = .ok (.invokevirtual 95, 3) := by decide +kernel
theorem dX6_readLine_187 : decode cX6_readLine 187 = .ok (.aload_n 0, 1) := by decide +kernel
theorem dX6_readLine_188 : decode cX6_readLine 188 = .ok (.getfield 57, 3) := by decide +kernel
theorem dX6_readLine_191 : decode cX6_readLine 191 = .ok (.ifCond .ne 16, 3) := by decide +kernel
theorem dX6_readLine_194 : decode cX6_readLine 194 = .ok (.aload_n 0, 1) := by decide +kernel
theorem dX6_readLine_195 : decode cX6_readLine 195 = .ok (.getfield 76, 3) := by decide +kernel
theorem dX6_readLine_198 : decode cX6_readLine 198 = .ok (.iconst 3, 1) := by decide +kernel
theorem dX6_readLine_199 : decode cX6_readLine 199 = .ok (.if_icmp .eq 8, 3) := by decide +kernel
theorem dX6_readLine_202 : decode cX6_readLine 202 = .ok (.aload_n 0, 1) := by decide +kernel
theorem dX6_readLine_203 : decode cX6_readLine 203 = .ok (.iconst 2, 1) := by decide +kernel
theorem dX6_readLine_204 : decode cX6_readLine 204 = .ok (.invokevirtual 87, 3) := by decide +kernel
theorem dX6_readLine_207 : decode cX6_readLine 207 = .ok (.aload_n 0, 1) := by decide +kernel
theorem dX6_readLine_208 : decode cX6_readLine 208 = .ok (.invokevirtual 95, 3) := by decide +kernel
theorem dX6_readLine_211 : decode cX6_readLine 211 = .ok (.return_, 1) := by decide +kernel
theorem dX6_text_0 : decode cX6_text 0 = .ok (.aload_n 0, 1) := by decide +kernel
theorem dX6_text_1 : decode cX6_text 1 = .ok (.iconst 0, 1) := by decide +kernel
theorem dX6_text_2 : decode cX6_text 2 = .ok (.putfield 57, 3) := by decide +kernel
theorem dX6_text_5 : decode cX6_text 5 = .ok (.aload_n 0, 1) := by decide +kernel
theorem dX6_text_6 : decode cX6_text 6 = .ok (.iconst 0, 1) := by decide +kernel
theorem dX6_text_7 : decode cX6_text 7 = .ok (.putfield 70, 3) := by decide +kernel
theorem dX6_text_10 : decode cX6_text 10 = .ok (.aload_n 0, 1) := by decide +kernel
theorem dX6_text_11 : decode cX6_text 11 = .ok (.iconst 0, 1) := by decide +kernel
theorem dX6_text_12 : decode cX6_text 12 = .ok (.putfield 108, 3) := by decide +kernel
theorem dX6_text_15 : decode cX6_text 15 = .ok (.aload_n 0, 1) := by decide +kernel
theorem dX6_text_16 : decode cX6_text 16 = .ok (.iconst 0, 1) := by decide +kernel
theorem dX6_text_17 : decode cX6_text 17 = .ok (.putfield 101, 3) := by decide +kernel
theorem dX6_text_20 : decode cX6_text 20 = .ok (.iconst 0, 1) := by decide +kernel
theorem dX6_text_21 : decode cX6_text 21 = .ok (.istore_n 1, 1) := by decide +kernel
theorem dX6_text_22 : decode cX6_text 22 = .ok (.aload_n 0, 1) := by decide +kernel
theorem dX6_text_23 : decode cX6_text 23 = .ok (.getfield 28, 3) := by decide +kernel
theorem dX6_text_26 : decode cX6_text 26 = .ok (.iconst 0, 1) := by decide +kernel
theorem dX6_text_27 : decode cX6_text 27 = .ok (.bipush 50, 2) := by decide +kernel
theorem dX6_text_29 : decode cX6_text 29 = .ok (.iastore, 1) := by decide +kernel
theorem dX6_text_30 : decode cX6_text 30 = .ok (.aload_n 0, 1) := by decide +kernel
theorem dX6_text_31 : decode cX6_text 31 = .ok (.getfield 28, 3) := by decide +kernel
theorem dX6_text_34 : decode cX6_text 34 = .ok (.iconst 1, 1) := by decide +kernel
theorem dX6_text_35 : decode cX6_text 35 = .ok (.bipush 6, 2) := by decide +kernel
theorem dX6_text_37 : decode cX6_text 37 = .ok (.iastore, 1) := by decide +kernel
theorem dX6_text_38 : decode cX6_text 38 = .ok (.aload_n 0, 1) := by decide +kernel
theorem dX6_text_39 : decode cX6_text 39 = .ok (.getfield 28, 3) := by decide +kernel
theorem dX6_text_42 : decode cX6_text 42 = .ok (.iconst 2, 1) := by decide +kernel
theorem dX6_text_43 : decode cX6_text 43 = .ok (.iconst 1, 1) := by decide +kernel
theorem dX6_text_44 : decode cX6_text 44 = .ok (.iastore, 1) := by decide +kernel
theorem dX6_text_45 : decode cX6_text 45 = .ok (.aload_n 0, 1) := by decide +kernel
theorem dX6_text_46 : decode cX6_text 46 = .ok (.getfield 28, 3) := by decide +kernel
theorem dX6_text_49 : decode cX6_text 49 = .ok (.iconst 3, 1) := by decide +kernel
theorem dX6_text_50 : decode cX6_text 50 = .ok (.iconst 5, 1) := by decide +kernel
theorem dX6_text_51 : decode cX6_text 51 = .ok (.iastore, 1) := by decide +kernel
theorem dX6_text_52 : decode cX6_text 52 = .ok (.aload_n 0, 1) := by decide +kernel
theorem dX6_text_53 : decode cX6_text 53 = .ok (.invokevirtual 95, 3) := by decide +kernel
theorem dX6_text_56 : decode cX6_text 56 = .ok (.aload_n 0, 1) := by decide +kernel
theorem dX6_text_57 : decode cX6_text 57 = .ok (.getfield 57, 3) := by decide +kernel
theorem dX6_text_60 : decode cX6_text 60 = .ok (.ifCond .ne 20, 3) := by decide +kernel
theorem dX6_text_63 : decode cX6_text 63 = .ok (.aload_n 0, 1) := by decide +kernel
theorem dX6_text_64 : decode cX6_text 64 = .ok (.getfield 76, 3) := by decide +kernel
theorem dX6_text_67 : decode cX6_text 67 = .ok (.ifCond .eq 13, 3) := by decide +kernel
theorem dX6_text_70 : decode cX6_text 70 = .ok (.aload_n 0, 1) := by decide +kernel
theorem dX6_text_71 : decode cX6_text 71 = .ok (.invokevirtual 117, 3) := by decide +kernel
theorem dX6_text_74 : decode cX6_text 74 = .ok (.iinc 1 1, 3) := by decide +kernel
theorem dX6_text_77 : decode cX6_text 77 = .ok (.goto (-21), 3) := by decide +kernel
theorem dX6_text_80 : decode cX6_text 80 = .ok (.aload_n 0, 1) := by decide +kernel
theorem dX6_text_81 : decode cX6_text 81 = .ok (.iconst 0, 1) := by decide +kernel
theorem dX6_text_82 : decode cX6_text 82 = .ok (.putfield 50, 3) := by decide +kernel
theorem dX6_text_85 : decode cX6_text 85 = .ok (.aload_n 0, 1) := by decide +kernel
theorem dX6_text_86 : decode cX6_text 86 = .ok (.aload_n 0, 1) := by decide +kernel
theorem dX6_text_87 : decode cX6_text 87 = .ok (.getfield 57, 3) := by decide +kernel
theorem dX6_text_90 : decode cX6_text 90 = .ok (.putfield 120, 3) := by decide +kernel
theorem dX6_text_93 : decode cX6_text 93 = .ok (.aload_n 0, 1) := by decide +kernel
theorem dX6_text_94 : decode cX6_text 94 = .ok (.getfield 57, 3) := by decide +kernel
theorem dX6_text_97 : decode cX6_text 97 = .ok (.ifCond .le 11, 3) := by decide +kernel
theorem dX6_text_100 : decode cX6_text 100 = .ok (.bipush (-10), 2) := by decide +kernel
theorem dX6_text_102 : decode cX6_text 102 = .ok (.aload_n 0, 1) := by decide +kernel
theorem dX6_text_103 : decode cX6_text 103 = .ok (.getfield 63, 3) := by decide +kernel
theorem dX6_text_106 : decode cX6_text 106 = .ok (.isub, 1) := by decide +kernel
theorem dX6_text_107 : decode cX6_text 107 = .ok (.ireturn, 1) := by decide +kernel
theorem dX6_text_108 : decode cX6_text 108 = .ok (.iconst 0, 1) := by decide +kernel
theorem dX6_text_109 : decode cX6_text 109 = .ok (.istore_n 2, 1) := by decide +kernel
theorem dX6_text_110 : decode cX6_text 110 = .ok (.iload_n 2, 1) := by decide +kernel
theorem dX6_text_111 : decode cX6_text 111 = .ok (.bipush 40, 2) := by decide +kernel
theorem dX6_text_113 : decode cX6_text 113 = .ok (.if_icmp .ge 21, 3) := by decide +kernel
theorem dX6_text_116 : decode cX6_text 116 = .ok (.aload_n 0, 1) := by decide +kernel
theorem dX6_text_117 : decode cX6_text 117 = .ok (.getfield 19, 3) := by decide +kernel
theorem dX6_text_120 : decode cX6_text 120 = .ok (.iload_n 2, 1) := by decide +kernel
theorem dX6_text_121 : decode cX6_text 121 = .ok (.aload_n 0, 1) := by decide +kernel
theorem dX6_text_122 : decode cX6_text 122 = .ok (.getfield 22, 3) := by decide +kernel
theorem dX6_text_125 : decode cX6_text 125 = .ok (.iload_n 2, 1) := by decide +kernel
theorem dX6_text_126 : decode cX6_text 126 = .ok (.iaload, 1) := by decide +kernel
theorem dX6_text_127 : decode cX6_text 127 = .ok (.iastore, 1) := by decide +kernel
theorem dX6_text_128 : decode cX6_text 128 = .ok (.iinc 2 1, 3) := by decide +kernel
theorem dX6_text_131 : decode cX6_text 131 = .ok (.goto (-21), 3) := by decide +kernel
theorem dX6_text_134 : decode cX6_text 134 = .ok (.iconst 0, 1) := by decide +kernel
theorem dX6_text_135 : decode cX6_text 135 = .ok (.istore_n 2, 1) := by decide +kernel
theorem dX6_text_136 : decode cX6_text 136 = .ok (.iload_n 2, 1) := by decide +kernel
theorem dX6_text_137 : decode cX6_text 137 = .ok (.iconst 4, 1) := by decide +kernel
theorem dX6_text_138 : decode cX6_text 138 = .ok (.if_icmp .ge 21, 3) := by decide +kernel
theorem dX6_text_141 : decode cX6_text 141 = .ok (.aload_n 0, 1) := by decide +kernel
theorem dX6_text_142 : decode cX6_text 142 = .ok (.getfield 25, 3) := by decide +kernel
theorem dX6_text_145 : decode cX6_text 145 = .ok (.iload_n 2, 1) := by decide +kernel
theorem dX6_text_146 : decode cX6_text 146 = .ok (.aload_n 0, 1) := by decide +kernel
theorem dX6_text_147 : decode cX6_text 147 = .ok (.getfield 28, 3) := by decide +kernel
theorem dX6_text_150 : decode cX6_text 150 = .ok (.iload_n 2, 1) := by decide +kernel
theorem dX6_text_151 : decode cX6_text 151 = .ok (.iaload, 1) := by decide +kernel
theorem dX6_text_152 : decode cX6_text 152 = .ok (.iastore, 1) := by decide +kernel
theorem dX6_text_153 : decode cX6_text 153 = .ok (.iinc 2 1, 3) := by decide +kernel
theorem dX6_text_156 : decode cX6_text 156 = .ok (.goto (-20), 3) := by decide +kernel
theorem dX6_text_159 : decode cX6_text 159 = .ok (.aload_n 0, 1) := by decide +kernel
theorem dX6_text_160 : decode cX6_text 160 = .ok (.aload_n 0, 1) := by decide +kernel
theorem dX6_text_161 : decode cX6_text 161 = .ok (.getfield 101, 3) := by decide +kernel
theorem dX6_text_164 : decode cX6_text 164 = .ok (.putfield 123, 3) := by decide +kernel
theorem dX6_text_167 : decode cX6_text 167 = .ok (.iload_n 1, 1) := by decide +kernel
theorem dX6_text_168 : decode cX6_text 168 = .ok (.ireturn, 1) := by decide +kernel
theorem dX6_fault_0 : decode cX6_fault 0 = .ok (.aload_n 0, 1) := by decide +kernel
theorem dX6_fault_1 : decode cX6_fault 1 = .ok (.getfield 120, 3) := by decide +kernel
theorem dX6_fault_4 : decode cX6_fault 4 = .ok (.ireturn, 1) := by decide +kernel
theorem dX6_isAsTold_0 : decode cX6_isAsTold 0 = .ok (.iload_n 0, 1) := by decide +kernel
theorem dX6_isAsTold_1 : decode cX6_isAsTold 1 = .ok (.i2l, 1) := by decide +kernel
theorem dX6_isAsTold_2 : decode cX6_isAsTold 2 = .ok (.lconst 1, 1) := by decide +kernel
theorem dX6_isAsTold_3 : decode cX6_isAsTold 3 = .ok (.ldc2_w 126, 3) := by decide +kernel
theorem dX6_isAsTold_6 : decode cX6_isAsTold 6 = .ok (.invokestatic 53, 3) := by decide +kernel
theorem dX6_isAsTold_9 : decode cX6_isAsTold 9 = .ok (.ifCond .eq 43, 3) := by decide +kernel
theorem dX6_isAsTold_12 : decode cX6_isAsTold 12 = .ok (.iload_n 1, 1) := by decide +kernel
theorem dX6_isAsTold_13 : decode cX6_isAsTold 13 = .ok (.i2l, 1) := by decide +kernel
theorem dX6_isAsTold_14 : decode cX6_isAsTold 14 = .ok (.lconst 0, 1) := by decide +kernel
theorem dX6_isAsTold_15 : decode cX6_isAsTold 15 = .ok (.ldc2_w 128, 3) := by decide +kernel
theorem dX6_isAsTold_18 : decode cX6_isAsTold 18 = .ok (.invokestatic 53, 3) := by decide +kernel
theorem dX6_isAsTold_21 : decode cX6_isAsTold 21 = .ok (.ifCond .eq 31, 3) := by decide +kernel
theorem dX6_isAsTold_24 : decode cX6_isAsTold 24 = .ok (.iload_n 2, 1) := by decide +kernel
theorem dX6_isAsTold_25 : decode cX6_isAsTold 25 = .ok (.i2l, 1) := by decide +kernel
theorem dX6_isAsTold_26 : decode cX6_isAsTold 26 = .ok (.lconst 0, 1) := by decide +kernel
theorem dX6_isAsTold_27 : decode cX6_isAsTold 27 = .ok (.ldc2_w 128, 3) := by decide +kernel
theorem dX6_isAsTold_30 : decode cX6_isAsTold 30 = .ok (.invokestatic 53, 3) := by decide +kernel
theorem dX6_isAsTold_33 : decode cX6_isAsTold 33 = .ok (.ifCond .eq 19, 3) := by decide +kernel
theorem dX6_isAsTold_36 : decode cX6_isAsTold 36 = .ok (.iload_n 3, 1) := by decide +kernel
theorem dX6_isAsTold_37 : decode cX6_isAsTold 37 = .ok (.i2l, 1) := by decide +kernel
theorem dX6_isAsTold_38 : decode cX6_isAsTold 38 = .ok (.lconst 0, 1) := by decide +kernel
theorem dX6_isAsTold_39 : decode cX6_isAsTold 39 = .ok (.ldc2_w 130, 3) := by decide +kernel
theorem dX6_isAsTold_42 : decode cX6_isAsTold 42 = .ok (.invokestatic 53, 3) := by decide +kernel
theorem dX6_isAsTold_45 : decode cX6_isAsTold 45 = .ok (.ifCond .eq 7, 3) := by decide +kernel
theorem dX6_isAsTold_48 : decode cX6_isAsTold 48 = .ok (.iconst 1, 1) := by decide +kernel
theorem dX6_isAsTold_49 : decode cX6_isAsTold 49 = .ok (.goto 4, 3) := by decide +kernel
theorem dX6_isAsTold_52 : decode cX6_isAsTold 52 = .ok (.iconst 0, 1) := by decide +kernel
theorem dX6_isAsTold_53 : decode cX6_isAsTold 53 = .ok (.ireturn, 1) := by decide +kernel
theorem dX6_sort_0 : decode cX6_sort 0 = .ok (.iload_n 1, 1) := by decide +kernel
theorem dX6_sort_1 : decode cX6_sort 1 = .ok (.iload_n 2, 1) := by decide +kernel
theorem dX6_sort_2 : decode cX6_sort 2 = .ok (.iload_n 3, 1) := by decide +kernel
theorem dX6_sort_3 : decode cX6_sort 3 = .ok (.iconst 0, 1) := by decide +kernel
theorem dX6_sort_4 : decode cX6_sort 4 = .ok (.invokestatic 132, 3) := by decide +kernel
theorem dX6_sort_7 : decode cX6_sort 7 = .ok (.ifCond .ne 5, 3) := by decide +kernel
theorem dX6_sort_10 : decode cX6_sort 10 = .ok (.iconst (-1), 1) := by decide +kernel
theorem dX6_sort_11 : decode cX6_sort 11 = .ok (.ireturn, 1) := by decide +kernel
theorem dX6_sort_12 : decode cX6_sort 12 = .ok (.aload_n 0, 1) := by decide +kernel
theorem dX6_sort_13 : decode cX6_sort 13 = .ok (.getfield 123, 3) := by decide +kernel
theorem dX6_sort_16 : decode cX6_sort 16 = .ok (.bipush 8, 2) := by decide +kernel
theorem dX6_sort_18 : decode cX6_sort 18 = .ok (.if_icmp .ne 6, 3) := by decide +kernel
theorem dX6_sort_21 : decode cX6_sort 21 = .ok (.bipush (-3), 2) := by decide +kernel
theorem dX6_sort_23 : decode cX6_sort 23 = .ok (.ireturn, 1) := by decide +kernel
theorem dX6_sort_24 : decode cX6_sort 24 = .ok (.aload_n 0, 1) := by decide +kernel
theorem dX6_sort_25 : decode cX6_sort 25 = .ok (.getfield 19, 3) := by decide +kernel
theorem dX6_sort_28 : decode cX6_sort 28 = .ok (.aload_n 0, 1) := by decide +kernel
theorem dX6_sort_29 : decode cX6_sort 29 = .ok (.getfield 123, 3) := by decide +kernel
theorem dX6_sort_32 : decode cX6_sort 32 = .ok (.iload_n 1, 1) := by decide +kernel
theorem dX6_sort_33 : decode cX6_sort 33 = .ok (.iload_n 2, 1) := by decide +kernel
theorem dX6_sort_34 : decode cX6_sort 34 = .ok (.iload_n 3, 1) := by decide +kernel
theorem dX6_sort_35 : decode cX6_sort 35 = .ok (.iconst 0, 1) := by decide +kernel
theorem dX6_sort_36 : decode cX6_sort 36 = .ok (.invokestatic 104, 3) := by decide +kernel
theorem dX6_sort_39 : decode cX6_sort 39 = .ok (.aload_n 0, 1) := by decide +kernel
theorem dX6_sort_40 : decode cX6_sort 40 = .ok (.dup, 1) := by decide +kernel
theorem dX6_sort_41 : decode cX6_sort 41 = .ok (.getfield 123, 3) := by decide +kernel
theorem dX6_sort_44 : decode cX6_sort 44 = .ok (.iconst 1, 1) := by decide +kernel
theorem dX6_sort_45 : decode cX6_sort 45 = .ok (.iadd, 1) := by decide +kernel
theorem dX6_sort_46 : decode cX6_sort 46 = .ok (.putfield 123, 3) := by decide +kernel
theorem dX6_sort_49 : decode cX6_sort 49 = .ok (.aload_n 0, 1) := by decide +kernel
theorem dX6_sort_50 : decode cX6_sort 50 = .ok (.getfield 123, 3) := by decide +kernel
theorem dX6_sort_53 : decode cX6_sort 53 = .ok (.iconst 1, 1) := by decide +kernel
theorem dX6_sort_54 : decode cX6_sort 54 = .ok (.isub, 1) := by decide +kernel
theorem dX6_sort_55 : decode cX6_sort 55 = .ok (.ireturn, 1) := by decide +kernel
theorem dX6_isSort_0 : decode cX6_isSort 0 = .ok (.iload_n 1, 1) := by decide +kernel
theorem dX6_isSort_1 : decode cX6_isSort 1 = .ok (.i2l, 1) := by decide +kernel
theorem dX6_isSort_2 : decode cX6_isSort 2 = .ok (.lconst 0, 1) := by decide +kernel
theorem dX6_isSort_3 : decode cX6_isSort 3 = .ok (.aload_n 0, 1) := by decide +kernel
theorem dX6_isSort_4 : decode cX6_isSort 4 = .ok (.getfield 123, 3) := by decide +kernel
theorem dX6_isSort_7 : decode cX6_isSort 7 = .ok (.iconst 1, 1) := by decide +kernel
theorem dX6_isSort_8 : decode cX6_isSort 8 = .ok (.isub, 1) := by decide +kernel
theorem dX6_isSort_9 : decode cX6_isSort 9 = .ok (.i2l, 1) := by decide +kernel
theorem dX6_isSort_10 : decode cX6_isSort 10 = .ok (.invokestatic 53, 3) := by decide +kernel
theorem dX6_isSort_13 : decode cX6_isSort 13 = .ok (.ireturn, 1) := by decide +kernel
theorem dX6_its_0 : decode cX6_its 0 = .ok (.aload_n 0, 1) := by decide +kernel
theorem dX6_its_1 : decode cX6_its 1 = .ok (.getfield 19, 3) := by decide +kernel
theorem dX6_its_4 : decode cX6_its 4 = .ok (.iconst 5, 1) := by decide +kernel
theorem dX6_its_5 : decode cX6_its 5 = .ok (.iload_n 1, 1) := by decide +kernel
theorem dX6_its_6 : decode cX6_its 6 = .ok (.imul, 1) := by decide +kernel
theorem dX6_its_7 : decode cX6_its 7 = .ok (.iload_n 2, 1) := by decide +kernel
theorem dX6_its_8 : decode cX6_its 8 = .ok (.iadd, 1) := by decide +kernel
theorem dX6_its_9 : decode cX6_its 9 = .ok (.iaload, 1) := by decide +kernel
theorem dX6_its_10 : decode cX6_its 10 = .ok (.ireturn, 1) := by decide +kernel
theorem dX6_set_0 : decode cX6_set 0 = .ok (.aload_n 0, 1) := by decide +kernel
theorem dX6_set_1 : decode cX6_set 1 = .ok (.iload_n 1, 1) := by decide +kernel
theorem dX6_set_2 : decode cX6_set 2 = .ok (.invokevirtual 136, 3) := by decide +kernel
theorem dX6_set_5 : decode cX6_set 5 = .ok (.ifCond .eq 15, 3) := by decide +kernel
theorem dX6_set_8 : decode cX6_set 8 = .ok (.iload_n 2, 1) := by decide +kernel
theorem dX6_set_9 : decode cX6_set 9 = .ok (.i2l, 1) := by decide +kernel
theorem dX6_set_10 : decode cX6_set 10 = .ok (.lconst 0, 1) := by decide +kernel
theorem dX6_set_11 : decode cX6_set 11 = .ok (.ldc2_w 140, 3) := by decide +kernel
theorem dX6_set_14 : decode cX6_set 14 = .ok (.invokestatic 53, 3) := by decide +kernel
theorem dX6_set_17 : decode cX6_set 17 = .ok (.ifCond .ne 5, 3) := by decide +kernel
theorem dX6_set_20 : decode cX6_set 20 = .ok (.iconst (-1), 1) := by decide +kernel
theorem dX6_set_21 : decode cX6_set 21 = .ok (.ireturn, 1) := by decide +kernel
theorem dX6_set_22 : decode cX6_set 22 = .ok (.iload_n 2, 1) := by decide +kernel
theorem dX6_set_23 : decode cX6_set 23 = .ok (.ifCond .ne 26, 3) := by decide +kernel
theorem dX6_set_26 : decode cX6_set 26 = .ok (.aload_n 0, 1) := by decide +kernel
theorem dX6_set_27 : decode cX6_set 27 = .ok (.iload_n 1, 1) := by decide +kernel
theorem dX6_set_28 : decode cX6_set 28 = .ok (.iconst 4, 1) := by decide +kernel
theorem dX6_set_29 : decode cX6_set 29 = .ok (.invokevirtual 142, 3) := by decide +kernel
theorem dX6_set_32 : decode cX6_set 32 = .ok (.iconst 1, 1) := by decide +kernel
theorem dX6_set_33 : decode cX6_set 33 = .ok (.if_icmp .le 12, 3) := by decide +kernel
theorem dX6_set_36 : decode cX6_set 36 = .ok (.aload_n 0, 1) := by decide +kernel
theorem dX6_set_37 : decode cX6_set 37 = .ok (.iload_n 1, 1) := by decide +kernel
theorem dX6_set_38 : decode cX6_set 38 = .ok (.iconst 4, 1) := by decide +kernel
theorem dX6_set_39 : decode cX6_set 39 = .ok (.invokevirtual 142, 3) := by decide +kernel
theorem dX6_set_42 : decode cX6_set 42 = .ok (.goto 8, 3) := by decide +kernel
theorem dX6_set_45 : decode cX6_set 45 = .ok (.iconst 1, 1) := by decide +kernel
theorem dX6_set_46 : decode cX6_set 46 = .ok (.goto 4, 3) := by decide +kernel
theorem dX6_set_49 : decode cX6_set 49 = .ok (.iconst 0, 1) := by decide +kernel
theorem dX6_set_50 : decode cX6_set 50 = .ok (.istore 4, 2) := by decide +kernel
theorem dX6_set_52 : decode cX6_set 52 = .ok (.iload_n 2, 1) := by decide +kernel
theorem dX6_set_53 : decode cX6_set 53 = .ok (.ifCond .ne 8, 3) := by decide +kernel
theorem dX6_set_56 : decode cX6_set 56 = .ok (.bipush 50, 2) := by decide +kernel
theorem dX6_set_58 : decode cX6_set 58 = .ok (.goto 29, 3) := by decide +kernel
theorem dX6_set_61 : decode cX6_set 61 = .ok (.iload_n 2, 1) := by decide +kernel
theorem dX6_set_62 : decode cX6_set 62 = .ok (.iconst 3, 1) := by decide +kernel
theorem dX6_set_63 : decode cX6_set 63 = .ok (.if_icmp .ne 8, 3) := by decide +kernel
theorem dX6_set_66 : decode cX6_set 66 = .ok (.bipush 10, 2) := by decide +kernel
theorem dX6_set_68 : decode cX6_set 68 = .ok (.goto 19, 3) := by decide +kernel
theorem dX6_set_71 : decode cX6_set 71 = .ok (.iload_n 2, 1) := by decide +kernel
theorem dX6_set_72 : decode cX6_set 72 = .ok (.iconst 4, 1) := by decide +kernel
theorem dX6_set_73 : decode cX6_set 73 = .ok (.if_icmp .ne 12, 3) := by decide +kernel
theorem dX6_set_76 : decode cX6_set 76 = .ok (.aload_n 0, 1) := by decide +kernel
theorem dX6_set_77 : decode cX6_set 77 = .ok (.iload_n 1, 1) := by decide +kernel
theorem dX6_set_78 : decode cX6_set 78 = .ok (.iconst 0, 1) := by decide +kernel
theorem dX6_set_79 : decode cX6_set 79 = .ok (.invokevirtual 142, 3) := by decide +kernel
theorem dX6_set_82 : decode cX6_set 82 = .ok (.goto 5, 3) := by decide +kernel
theorem dX6_set_85 : decode cX6_set 85 = .ok (.bipush 99, 2) := by decide +kernel
theorem dX6_set_87 : decode cX6_set 87 = .ok (.istore 5, 2) := by decide +kernel
theorem dX6_set_89 : decode cX6_set 89 = .ok (.iload_n 3, 1) := by decide +kernel
theorem dX6_set_90 : decode cX6_set 90 = .ok (.i2l, 1) := by decide +kernel
theorem dX6_set_91 : decode cX6_set 91 = .ok (.iload 4, 2) := by decide +kernel
theorem dX6_set_93 : decode cX6_set 93 = .ok (.i2l, 1) := by decide +kernel
theorem dX6_set_94 : decode cX6_set 94 = .ok (.iload 5, 2) := by decide +kernel
theorem dX6_set_96 : decode cX6_set 96 = .ok (.i2l, 1) := by decide +kernel
theorem dX6_set_97 : decode cX6_set 97 = .ok (.invokestatic 53, 3) := by decide +kernel
theorem dX6_set_100 : decode cX6_set 100 = .ok (.ifCond .ne 5, 3) := by decide +kernel
theorem dX6_set_103 : decode cX6_set 103 = .ok (.iconst (-1), 1) := by decide +kernel
theorem dX6_set_104 : decode cX6_set 104 = .ok (.ireturn, 1) := by decide +kernel
theorem dX6_set_105 : decode cX6_set 105 = .ok (.aload_n 0, 1) := by decide +kernel
theorem dX6_set_106 : decode cX6_set 106 = .ok (.iload_n 1, 1) := by decide +kernel
theorem dX6_set_107 : decode cX6_set 107 = .ok (.iload_n 2, 1) := by decide +kernel
theorem dX6_set_108 : decode cX6_set 108 = .ok (.invokevirtual 142, 3) := by decide +kernel
theorem dX6_set_111 : decode cX6_set 111 = .ok (.istore 6, 2) := by decide +kernel
theorem dX6_set_113 : decode cX6_set 113 = .ok (.aload_n 0, 1) := by decide +kernel
theorem dX6_set_114 : decode cX6_set 114 = .ok (.getfield 19, 3) := by decide +kernel
theorem dX6_set_117 : decode cX6_set 117 = .ok (.iconst 5, 1) := by decide +kernel
theorem dX6_set_118 : decode cX6_set 118 = .ok (.iload_n 1, 1) := by decide +kernel
theorem dX6_set_119 : decode cX6_set 119 = .ok (.imul, 1) := by decide +kernel
theorem dX6_set_120 : decode cX6_set 120 = .ok (.iload_n 2, 1) := by decide +kernel
theorem dX6_set_121 : decode cX6_set 121 = .ok (.iadd, 1) := by decide +kernel
theorem dX6_set_122 : decode cX6_set 122 = .ok (.iload_n 3, 1) := by decide +kernel
theorem dX6_set_123 : decode cX6_set 123 = .ok (.iastore, 1) := by decide +kernel
theorem dX6_set_124 : decode cX6_set 124 = .ok (.iload 6, 2) := by decide +kernel
theorem dX6_set_126 : decode cX6_set 126 = .ok (.ireturn, 1) := by decide +kernel
theorem dX6_isGood_0 : decode cX6_isGood 0 = .ok (.aload_n 0, 1) := by decide +kernel
theorem dX6_isGood_1 : decode cX6_isGood 1 = .ok (.iload_n 1, 1) := by decide +kernel
theorem dX6_isGood_2 : decode cX6_isGood 2 = .ok (.iconst 2, 1) := by decide +kernel
theorem dX6_isGood_3 : decode cX6_isGood 3 = .ok (.invokevirtual 142, 3) := by decide +kernel
theorem dX6_isGood_6 : decode cX6_isGood 6 = .ok (.aload_n 0, 1) := by decide +kernel
theorem dX6_isGood_7 : decode cX6_isGood 7 = .ok (.getfield 25, 3) := by decide +kernel
theorem dX6_isGood_10 : decode cX6_isGood 10 = .ok (.iconst 0, 1) := by decide +kernel
theorem dX6_isGood_11 : decode cX6_isGood 11 = .ok (.iaload, 1) := by decide +kernel
theorem dX6_isGood_12 : decode cX6_isGood 12 = .ok (.if_icmp .lt 7, 3) := by decide +kernel
theorem dX6_isGood_15 : decode cX6_isGood 15 = .ok (.iconst 1, 1) := by decide +kernel
theorem dX6_isGood_16 : decode cX6_isGood 16 = .ok (.goto 4, 3) := by decide +kernel
theorem dX6_isGood_19 : decode cX6_isGood 19 = .ok (.iconst 0, 1) := by decide +kernel
theorem dX6_isGood_20 : decode cX6_isGood 20 = .ok (.ireturn, 1) := by decide +kernel
theorem dX6_of_0 : decode cX6_of 0 = .ok (.aload_n 0, 1) := by decide +kernel
theorem dX6_of_1 : decode cX6_of 1 = .ok (.iload_n 1, 1) := by decide +kernel
theorem dX6_of_2 : decode cX6_of 2 = .ok (.invokevirtual 136, 3) := by decide +kernel
theorem dX6_of_5 : decode cX6_of 5 = .ok (.ifCond .eq 15, 3) := by decide +kernel
theorem dX6_of_8 : decode cX6_of 8 = .ok (.iload_n 2, 1) := by decide +kernel
theorem dX6_of_9 : decode cX6_of 9 = .ok (.i2l, 1) := by decide +kernel
theorem dX6_of_10 : decode cX6_of 10 = .ok (.lconst 0, 1) := by decide +kernel
theorem dX6_of_11 : decode cX6_of 11 = .ok (.ldc2_w 145, 3) := by decide +kernel
theorem dX6_of_14 : decode cX6_of 14 = .ok (.invokestatic 53, 3) := by decide +kernel
theorem dX6_of_17 : decode cX6_of 17 = .ok (.ifCond .ne 5, 3) := by decide +kernel
theorem dX6_of_20 : decode cX6_of 20 = .ok (.iconst (-1), 1) := by decide +kernel
theorem dX6_of_21 : decode cX6_of 21 = .ok (.ireturn, 1) := by decide +kernel
theorem dX6_of_22 : decode cX6_of 22 = .ok (.iload_n 2, 1) := by decide +kernel
theorem dX6_of_23 : decode cX6_of 23 = .ok (.iconst 5, 1) := by decide +kernel
theorem dX6_of_24 : decode cX6_of 24 = .ok (.if_icmp .ne 19, 3) := by decide +kernel
theorem dX6_of_27 : decode cX6_of 27 = .ok (.aload_n 0, 1) := by decide +kernel
theorem dX6_of_28 : decode cX6_of 28 = .ok (.iload_n 1, 1) := by decide +kernel
theorem dX6_of_29 : decode cX6_of 29 = .ok (.invokevirtual 147, 3) := by decide +kernel
theorem dX6_of_32 : decode cX6_of 32 = .ok (.ifCond .eq 7, 3) := by decide +kernel
theorem dX6_of_35 : decode cX6_of 35 = .ok (.iconst 1, 1) := by decide +kernel
theorem dX6_of_36 : decode cX6_of 36 = .ok (.goto 13, 3) := by decide +kernel
theorem dX6_of_39 : decode cX6_of 39 = .ok (.iconst 0, 1) := by decide +kernel
theorem dX6_of_40 : decode cX6_of 40 = .ok (.goto 9, 3) := by decide +kernel
theorem dX6_of_43 : decode cX6_of 43 = .ok (.aload_n 0, 1) := by decide +kernel
theorem dX6_of_44 : decode cX6_of 44 = .ok (.iload_n 1, 1) := by decide +kernel
theorem dX6_of_45 : decode cX6_of 45 = .ok (.iload_n 2, 1) := by decide +kernel
theorem dX6_of_46 : decode cX6_of 46 = .ok (.invokevirtual 142, 3) := by decide +kernel
theorem dX6_of_49 : decode cX6_of 49 = .ok (.ireturn, 1) := by decide +kernel
theorem dX6_rule_0 : decode cX6_rule 0 = .ok (.iload_n 1, 1) := by decide +kernel
theorem dX6_rule_1 : decode cX6_rule 1 = .ok (.i2l, 1) := by decide +kernel
theorem dX6_rule_2 : decode cX6_rule 2 = .ok (.lconst 0, 1) := by decide +kernel
theorem dX6_rule_3 : decode cX6_rule 3 = .ok (.ldc2_w 150, 3) := by decide +kernel
theorem dX6_rule_6 : decode cX6_rule 6 = .ok (.invokestatic 53, 3) := by decide +kernel
theorem dX6_rule_9 : decode cX6_rule 9 = .ok (.ifCond .eq 12, 3) := by decide +kernel
theorem dX6_rule_12 : decode cX6_rule 12 = .ok (.aload_n 0, 1) := by decide +kernel
theorem dX6_rule_13 : decode cX6_rule 13 = .ok (.getfield 25, 3) := by decide +kernel
theorem dX6_rule_16 : decode cX6_rule 16 = .ok (.iload_n 1, 1) := by decide +kernel
theorem dX6_rule_17 : decode cX6_rule 17 = .ok (.iaload, 1) := by decide +kernel
theorem dX6_rule_18 : decode cX6_rule 18 = .ok (.goto 4, 3) := by decide +kernel
theorem dX6_rule_21 : decode cX6_rule 21 = .ok (.iconst (-1), 1) := by decide +kernel
theorem dX6_rule_22 : decode cX6_rule 22 = .ok (.ireturn, 1) := by decide +kernel
theorem dX6_isThere_0 : decode cX6_isThere 0 = .ok (.iload_n 1, 1) := by decide +kernel
theorem dX6_isThere_1 : decode cX6_isThere 1 = .ok (.aload_n 0, 1) := by decide +kernel
theorem dX6_isThere_2 : decode cX6_isThere 2 = .ok (.getfield 123, 3) := by decide +kernel
theorem dX6_isThere_5 : decode cX6_isThere 5 = .ok (.if_icmp .ge 15, 3) := by decide +kernel
theorem dX6_isThere_8 : decode cX6_isThere 8 = .ok (.iload_n 1, 1) := by decide +kernel
theorem dX6_isThere_9 : decode cX6_isThere 9 = .ok (.aload_n 0, 1) := by decide +kernel
theorem dX6_isThere_10 : decode cX6_isThere 10 = .ok (.getfield 31, 3) := by decide +kernel
theorem dX6_isThere_13 : decode cX6_isThere 13 = .ok (.if_icmp .eq 7, 3) := by decide +kernel
theorem dX6_isThere_16 : decode cX6_isThere 16 = .ok (.iconst 1, 1) := by decide +kernel
theorem dX6_isThere_17 : decode cX6_isThere 17 = .ok (.goto 4, 3) := by decide +kernel
theorem dX6_isThere_20 : decode cX6_isThere 20 = .ok (.iconst 0, 1) := by decide +kernel
theorem dX6_isThere_21 : decode cX6_isThere 21 = .ok (.ireturn, 1) := by decide +kernel
theorem dX6_isHeap_0 : decode cX6_isHeap 0 = .ok (.iconst 0, 1) := by decide +kernel
theorem dX6_isHeap_1 : decode cX6_isHeap 1 = .ok (.istore_n 2, 1) := by decide +kernel
theorem dX6_isHeap_2 : decode cX6_isHeap 2 = .ok (.iconst 0, 1) := by decide +kernel
theorem dX6_isHeap_3 : decode cX6_isHeap 3 = .ok (.istore_n 3, 1) := by decide +kernel
theorem dX6_isHeap_4 : decode cX6_isHeap 4 = .ok (.iconst 0, 1) := by decide +kernel
theorem dX6_isHeap_5 : decode cX6_isHeap 5 = .ok (.istore 4, 2) := by decide +kernel
theorem dX6_isHeap_7 : decode cX6_isHeap 7 = .ok (.iload 4, 2) := by decide +kernel
theorem dX6_isHeap_9 : decode cX6_isHeap 9 = .ok (.bipush 8, 2) := by decide +kernel
theorem dX6_isHeap_11 : decode cX6_isHeap 11 = .ok (.if_icmp .ge 46, 3) := by decide +kernel
theorem dX6_isHeap_14 : decode cX6_isHeap 14 = .ok (.aload_n 0, 1) := by decide +kernel
theorem dX6_isHeap_15 : decode cX6_isHeap 15 = .ok (.iload 4, 2) := by decide +kernel
theorem dX6_isHeap_17 : decode cX6_isHeap 17 = .ok (.invokevirtual 152, 3) := by decide +kernel
theorem dX6_isHeap_20 : decode cX6_isHeap 20 = .ok (.ifCond .eq 31, 3) := by decide +kernel
theorem dX6_isHeap_23 : decode cX6_isHeap 23 = .ok (.iload_n 2, 1) := by decide +kernel
theorem dX6_isHeap_24 : decode cX6_isHeap 24 = .ok (.aload_n 0, 1) := by decide +kernel
theorem dX6_isHeap_25 : decode cX6_isHeap 25 = .ok (.iload 4, 2) := by decide +kernel
theorem dX6_isHeap_27 : decode cX6_isHeap 27 = .ok (.iconst 0, 1) := by decide +kernel
theorem dX6_isHeap_28 : decode cX6_isHeap 28 = .ok (.invokevirtual 142, 3) := by decide +kernel
theorem dX6_isHeap_31 : decode cX6_isHeap 31 = .ok (.aload_n 0, 1) := by decide +kernel
theorem dX6_isHeap_32 : decode cX6_isHeap 32 = .ok (.iload 4, 2) := by decide +kernel
theorem dX6_isHeap_34 : decode cX6_isHeap 34 = .ok (.iconst 1, 1) := by decide +kernel
theorem dX6_isHeap_35 : decode cX6_isHeap 35 = .ok (.invokevirtual 142, 3) := by decide +kernel
theorem dX6_isHeap_38 : decode cX6_isHeap 38 = .ok (.imul, 1) := by decide +kernel
theorem dX6_isHeap_39 : decode cX6_isHeap 39 = .ok (.iadd, 1) := by decide +kernel
theorem dX6_isHeap_40 : decode cX6_isHeap 40 = .ok (.istore_n 2, 1) := by decide +kernel
theorem dX6_isHeap_41 : decode cX6_isHeap 41 = .ok (.iload_n 3, 1) := by decide +kernel
theorem dX6_isHeap_42 : decode cX6_isHeap 42 = .ok (.aload_n 0, 1) := by decide +kernel
theorem dX6_isHeap_43 : decode cX6_isHeap 43 = .ok (.iload 4, 2) := by decide +kernel
theorem dX6_isHeap_45 : decode cX6_isHeap 45 = .ok (.iconst 0, 1) := by decide +kernel
theorem dX6_isHeap_46 : decode cX6_isHeap 46 = .ok (.invokevirtual 142, 3) := by decide +kernel
theorem dX6_isHeap_49 : decode cX6_isHeap 49 = .ok (.iadd, 1) := by decide +kernel
theorem dX6_isHeap_50 : decode cX6_isHeap 50 = .ok (.istore_n 3, 1) := by decide +kernel
theorem dX6_isHeap_51 : decode cX6_isHeap 51 = .ok (.iinc 4 1, 3) := by decide +kernel
theorem dX6_isHeap_54 : decode cX6_isHeap 54 = .ok (.goto (-47), 3) := by decide +kernel
theorem dX6_isHeap_57 : decode cX6_isHeap 57 = .ok (.iload_n 3, 1) := by decide +kernel
theorem dX6_isHeap_58 : decode cX6_isHeap 58 = .ok (.ifCond .le 14, 3) := by decide +kernel
theorem dX6_isHeap_61 : decode cX6_isHeap 61 = .ok (.iload_n 2, 1) := by decide +kernel
theorem dX6_isHeap_62 : decode cX6_isHeap 62 = .ok (.iload_n 1, 1) := by decide +kernel
theorem dX6_isHeap_63 : decode cX6_isHeap 63 = .ok (.iload_n 3, 1) := by decide +kernel
theorem dX6_isHeap_64 : decode cX6_isHeap 64 = .ok (.imul, 1) := by decide +kernel
theorem dX6_isHeap_65 : decode cX6_isHeap 65 = .ok (.if_icmp .gt 7, 3) := by decide +kernel
theorem dX6_isHeap_68 : decode cX6_isHeap 68 = .ok (.iconst 1, 1) := by decide +kernel
theorem dX6_isHeap_69 : decode cX6_isHeap 69 = .ok (.goto 4, 3) := by decide +kernel
theorem dX6_isHeap_72 : decode cX6_isHeap 72 = .ok (.iconst 0, 1) := by decide +kernel
theorem dX6_isHeap_73 : decode cX6_isHeap 73 = .ok (.ireturn, 1) := by decide +kernel
theorem dX6_comesWhole_0 : decode cX6_comesWhole 0 = .ok (.iload_n 1, 1) := by decide +kernel
theorem dX6_comesWhole_1 : decode cX6_comesWhole 1 = .ok (.lookupswitch 91 #[(1, 27), (3, 60)], 27) := by decide +kernel
theorem dX6_comesWhole_28 : decode cX6_comesWhole 28 = .ok (.bipush 10, 2) := by decide +kernel
theorem dX6_comesWhole_30 : decode cX6_comesWhole 30 = .ok (.aload_n 0, 1) := by decide +kernel
theorem dX6_comesWhole_31 : decode cX6_comesWhole 31 = .ok (.iload 4, 2) := by decide +kernel
theorem dX6_comesWhole_33 : decode cX6_comesWhole 33 = .ok (.iconst 1, 1) := by decide +kernel
theorem dX6_comesWhole_34 : decode cX6_comesWhole 34 = .ok (.invokevirtual 142, 3) := by decide +kernel
theorem dX6_comesWhole_37 : decode cX6_comesWhole 37 = .ok (.imul, 1) := by decide +kernel
theorem dX6_comesWhole_38 : decode cX6_comesWhole 38 = .ok (.aload_n 0, 1) := by decide +kernel
theorem dX6_comesWhole_39 : decode cX6_comesWhole 39 = .ok (.iload 4, 2) := by decide +kernel
theorem dX6_comesWhole_41 : decode cX6_comesWhole 41 = .ok (.iconst 3, 1) := by decide +kernel
theorem dX6_comesWhole_42 : decode cX6_comesWhole 42 = .ok (.invokevirtual 142, 3) := by decide +kernel
theorem dX6_comesWhole_45 : decode cX6_comesWhole 45 = .ok (.iload_n 2, 1) := by decide +kernel
theorem dX6_comesWhole_46 : decode cX6_comesWhole 46 = .ok (.imul, 1) := by decide +kernel
theorem dX6_comesWhole_47 : decode cX6_comesWhole 47 = .ok (.iadd, 1) := by decide +kernel
theorem dX6_comesWhole_48 : decode cX6_comesWhole 48 = .ok (.bipush 10, 2) := by decide +kernel
theorem dX6_comesWhole_50 : decode cX6_comesWhole 50 = .ok (.iload_n 3, 1) := by decide +kernel
theorem dX6_comesWhole_51 : decode cX6_comesWhole 51 = .ok (.imul, 1) := by decide +kernel
theorem dX6_comesWhole_52 : decode cX6_comesWhole 52 = .ok (.if_icmp .gt 7, 3) := by decide +kernel
theorem dX6_comesWhole_55 : decode cX6_comesWhole 55 = .ok (.iconst 1, 1) := by decide +kernel
theorem dX6_comesWhole_56 : decode cX6_comesWhole 56 = .ok (.goto 4, 3) := by decide +kernel
theorem dX6_comesWhole_59 : decode cX6_comesWhole 59 = .ok (.iconst 0, 1) := by decide +kernel
theorem dX6_comesWhole_60 : decode cX6_comesWhole 60 = .ok (.ireturn, 1) := by decide +kernel
theorem dX6_comesWhole_61 : decode cX6_comesWhole 61 = .ok (.aload_n 0, 1) := by decide +kernel
theorem dX6_comesWhole_62 : decode cX6_comesWhole 62 = .ok (.iload 4, 2) := by decide +kernel
theorem dX6_comesWhole_64 : decode cX6_comesWhole 64 = .ok (.iconst 1, 1) := by decide +kernel
theorem dX6_comesWhole_65 : decode cX6_comesWhole 65 = .ok (.invokevirtual 142, 3) := by decide +kernel
theorem dX6_comesWhole_68 : decode cX6_comesWhole 68 = .ok (.iload_n 3, 1) := by decide +kernel
theorem dX6_comesWhole_69 : decode cX6_comesWhole 69 = .ok (.if_icmp .le 17, 3) := by decide +kernel
theorem dX6_comesWhole_72 : decode cX6_comesWhole 72 = .ok (.aload_n 0, 1) := by decide +kernel
theorem dX6_comesWhole_73 : decode cX6_comesWhole 73 = .ok (.iload 4, 2) := by decide +kernel
theorem dX6_comesWhole_75 : decode cX6_comesWhole 75 = .ok (.iconst 3, 1) := by decide +kernel
theorem dX6_comesWhole_76 : decode cX6_comesWhole 76 = .ok (.invokevirtual 142, 3) := by decide +kernel
theorem dX6_comesWhole_79 : decode cX6_comesWhole 79 = .ok (.iload_n 2, 1) := by decide +kernel
theorem dX6_comesWhole_80 : decode cX6_comesWhole 80 = .ok (.imul, 1) := by decide +kernel
theorem dX6_comesWhole_81 : decode cX6_comesWhole 81 = .ok (.bipush 100, 2) := by decide +kernel
theorem dX6_comesWhole_83 : decode cX6_comesWhole 83 = .ok (.if_icmp .ne 7, 3) := by decide +kernel
theorem dX6_comesWhole_86 : decode cX6_comesWhole 86 = .ok (.iconst 1, 1) := by decide +kernel
theorem dX6_comesWhole_87 : decode cX6_comesWhole 87 = .ok (.goto 4, 3) := by decide +kernel
theorem dX6_comesWhole_90 : decode cX6_comesWhole 90 = .ok (.iconst 0, 1) := by decide +kernel
theorem dX6_comesWhole_91 : decode cX6_comesWhole 91 = .ok (.ireturn, 1) := by decide +kernel
theorem dX6_comesWhole_92 : decode cX6_comesWhole 92 = .ok (.aload_n 0, 1) := by decide +kernel
theorem dX6_comesWhole_93 : decode cX6_comesWhole 93 = .ok (.iload 4, 2) := by decide +kernel
theorem dX6_comesWhole_95 : decode cX6_comesWhole 95 = .ok (.iconst 1, 1) := by decide +kernel
theorem dX6_comesWhole_96 : decode cX6_comesWhole 96 = .ok (.invokevirtual 142, 3) := by decide +kernel
theorem dX6_comesWhole_99 : decode cX6_comesWhole 99 = .ok (.iload_n 3, 1) := by decide +kernel
theorem dX6_comesWhole_100 : decode cX6_comesWhole 100 = .ok (.if_icmp .gt 7, 3) := by decide +kernel
theorem dX6_comesWhole_103 : decode cX6_comesWhole 103 = .ok (.iconst 1, 1) := by decide +kernel
theorem dX6_comesWhole_104 : decode cX6_comesWhole 104 = .ok (.goto 4, 3) := by decide +kernel
theorem dX6_comesWhole_107 : decode cX6_comesWhole 107 = .ok (.iconst 0, 1) := by decide +kernel
theorem dX6_comesWhole_108 : decode cX6_comesWhole 108 = .ok (.ireturn, 1) := by decide +kernel
theorem dX6_partsOf_0 : decode cX6_partsOf 0 = .ok (.iload_n 1, 1) := by decide +kernel
theorem dX6_partsOf_1 : decode cX6_partsOf 1 = .ok (.iconst 2, 1) := by decide +kernel
theorem dX6_partsOf_2 : decode cX6_partsOf 2 = .ok (.if_icmp .ne 35, 3) := by decide +kernel
theorem dX6_partsOf_5 : decode cX6_partsOf 5 = .ok (.bipush 100, 2) := by decide +kernel
theorem dX6_partsOf_7 : decode cX6_partsOf 7 = .ok (.aload_n 0, 1) := by decide +kernel
theorem dX6_partsOf_8 : decode cX6_partsOf 8 = .ok (.iload_n 3, 1) := by decide +kernel
theorem dX6_partsOf_9 : decode cX6_partsOf 9 = .ok (.invokevirtual 147, 3) := by decide +kernel
theorem dX6_partsOf_12 : decode cX6_partsOf 12 = .ok (.ifCond .eq 12, 3) := by decide +kernel
theorem dX6_partsOf_15 : decode cX6_partsOf 15 = .ok (.aload_n 0, 1) := by decide +kernel
theorem dX6_partsOf_16 : decode cX6_partsOf 16 = .ok (.getfield 25, 3) := by decide +kernel
theorem dX6_partsOf_19 : decode cX6_partsOf 19 = .ok (.iconst 1, 1) := by decide +kernel
theorem dX6_partsOf_20 : decode cX6_partsOf 20 = .ok (.iaload, 1) := by decide +kernel
theorem dX6_partsOf_21 : decode cX6_partsOf 21 = .ok (.goto 12, 3) := by decide +kernel
theorem dX6_partsOf_24 : decode cX6_partsOf 24 = .ok (.bipush 8, 2) := by decide +kernel
theorem dX6_partsOf_26 : decode cX6_partsOf 26 = .ok (.aload_n 0, 1) := by decide +kernel
theorem dX6_partsOf_27 : decode cX6_partsOf 27 = .ok (.getfield 25, 3) := by decide +kernel
theorem dX6_partsOf_30 : decode cX6_partsOf 30 = .ok (.iconst 1, 1) := by decide +kernel
theorem dX6_partsOf_31 : decode cX6_partsOf 31 = .ok (.iaload, 1) := by decide +kernel
theorem dX6_partsOf_32 : decode cX6_partsOf 32 = .ok (.isub, 1) := by decide +kernel
theorem dX6_partsOf_33 : decode cX6_partsOf 33 = .ok (.imul, 1) := by decide +kernel
theorem dX6_partsOf_34 : decode cX6_partsOf 34 = .ok (.goto 28, 3) := by decide +kernel
theorem dX6_partsOf_37 : decode cX6_partsOf 37 = .ok (.iload_n 1, 1) := by decide +kernel
theorem dX6_partsOf_38 : decode cX6_partsOf 38 = .ok (.iconst 3, 1) := by decide +kernel
theorem dX6_partsOf_39 : decode cX6_partsOf 39 = .ok (.if_icmp .ne 20, 3) := by decide +kernel
theorem dX6_partsOf_42 : decode cX6_partsOf 42 = .ok (.bipush 8, 2) := by decide +kernel
theorem dX6_partsOf_44 : decode cX6_partsOf 44 = .ok (.bipush 100, 2) := by decide +kernel
theorem dX6_partsOf_46 : decode cX6_partsOf 46 = .ok (.aload_n 0, 1) := by decide +kernel
theorem dX6_partsOf_47 : decode cX6_partsOf 47 = .ok (.iload_n 3, 1) := by decide +kernel
theorem dX6_partsOf_48 : decode cX6_partsOf 48 = .ok (.iconst 3, 1) := by decide +kernel
theorem dX6_partsOf_49 : decode cX6_partsOf 49 = .ok (.invokevirtual 142, 3) := by decide +kernel
theorem dX6_partsOf_52 : decode cX6_partsOf 52 = .ok (.iload_n 2, 1) := by decide +kernel
theorem dX6_partsOf_53 : decode cX6_partsOf 53 = .ok (.imul, 1) := by decide +kernel
theorem dX6_partsOf_54 : decode cX6_partsOf 54 = .ok (.isub, 1) := by decide +kernel
theorem dX6_partsOf_55 : decode cX6_partsOf 55 = .ok (.imul, 1) := by decide +kernel
theorem dX6_partsOf_56 : decode cX6_partsOf 56 = .ok (.goto 6, 3) := by decide +kernel
theorem dX6_partsOf_59 : decode cX6_partsOf 59 = .ok (.sipush 800, 3) := by decide +kernel
theorem dX6_partsOf_62 : decode cX6_partsOf 62 = .ok (.ireturn, 1) := by decide +kernel
theorem dX6_layOffer_0 : decode cX6_layOffer 0 = .ok (.iload_n 1, 1) := by decide +kernel
theorem dX6_layOffer_1 : decode cX6_layOffer 1 = .ok (.iconst 4, 1) := by decide +kernel
theorem dX6_layOffer_2 : decode cX6_layOffer 2 = .ok (.if_icmp .ne 15, 3) := by decide +kernel
theorem dX6_layOffer_5 : decode cX6_layOffer 5 = .ok (.aload_n 0, 1) := by decide +kernel
theorem dX6_layOffer_6 : decode cX6_layOffer 6 = .ok (.iload_n 3, 1) := by decide +kernel
theorem dX6_layOffer_7 : decode cX6_layOffer 7 = .ok (.invokevirtual 155, 3) := by decide +kernel
theorem dX6_layOffer_10 : decode cX6_layOffer 10 = .ok (.ifCond .eq 7, 3) := by decide +kernel
theorem dX6_layOffer_13 : decode cX6_layOffer 13 = .ok (.iconst 1, 1) := by decide +kernel
theorem dX6_layOffer_14 : decode cX6_layOffer 14 = .ok (.goto 4, 3) := by decide +kernel
theorem dX6_layOffer_17 : decode cX6_layOffer 17 = .ok (.iconst 0, 1) := by decide +kernel
theorem dX6_layOffer_18 : decode cX6_layOffer 18 = .ok (.istore 4, 2) := by decide +kernel
theorem dX6_layOffer_20 : decode cX6_layOffer 20 = .ok (.aload_n 0, 1) := by decide +kernel
theorem dX6_layOffer_21 : decode cX6_layOffer 21 = .ok (.iconst 0, 1) := by decide +kernel
theorem dX6_layOffer_22 : decode cX6_layOffer 22 = .ok (.putfield 158, 3) := by decide +kernel
theorem dX6_layOffer_25 : decode cX6_layOffer 25 = .ok (.aload_n 0, 1) := by decide +kernel
theorem dX6_layOffer_26 : decode cX6_layOffer 26 = .ok (.iconst 0, 1) := by decide +kernel
theorem dX6_layOffer_27 : decode cX6_layOffer 27 = .ok (.putfield 161, 3) := by decide +kernel
theorem dX6_layOffer_30 : decode cX6_layOffer 30 = .ok (.aload_n 0, 1) := by decide +kernel
theorem dX6_layOffer_31 : decode cX6_layOffer 31 = .ok (.iconst 0, 1) := by decide +kernel
theorem dX6_layOffer_32 : decode cX6_layOffer 32 = .ok (.putfield 164, 3) := by decide +kernel
theorem dX6_layOffer_35 : decode cX6_layOffer 35 = .ok (.aload_n 0, 1) := by decide +kernel
theorem dX6_layOffer_36 : decode cX6_layOffer 36 = .ok (.lconst 0, 1) := by decide +kernel
theorem dX6_layOffer_37 : decode cX6_layOffer 37 = .ok (.putfield 167, 3) := by decide +kernel
theorem dX6_layOffer_40 : decode cX6_layOffer 40 = .ok (.aload_n 0, 1) := by decide +kernel
theorem dX6_layOffer_41 : decode cX6_layOffer 41 = .ok (.lconst 0, 1) := by decide +kernel
theorem dX6_layOffer_42 : decode cX6_layOffer 42 = .ok (.putfield 171, 3) := by decide +kernel
theorem dX6_layOffer_45 : decode cX6_layOffer 45 = .ok (.iconst 0, 1) := by decide +kernel
theorem dX6_layOffer_46 : decode cX6_layOffer 46 = .ok (.istore 5, 2) := by decide +kernel
theorem dX6_layOffer_48 : decode cX6_layOffer 48 = .ok (.iload 5, 2) := by decide +kernel
theorem dX6_layOffer_50 : decode cX6_layOffer 50 = .ok (.bipush 8, 2) := by decide +kernel
theorem dX6_layOffer_52 : decode cX6_layOffer 52 = .ok (.if_icmp .ge 252, 3) := by decide +kernel
theorem dX6_layOffer_55 : decode cX6_layOffer 55 = .ok (.aload_n 0, 1) := by decide +kernel
theorem dX6_layOffer_56 : decode cX6_layOffer 56 = .ok (.getfield 35, 3) := by decide +kernel
theorem dX6_layOffer_59 : decode cX6_layOffer 59 = .ok (.iload 5, 2) := by decide +kernel
theorem dX6_layOffer_61 : decode cX6_layOffer 61 = .ok (.iconst 0, 1) := by decide +kernel
theorem dX6_layOffer_62 : decode cX6_layOffer 62 = .ok (.iastore, 1) := by decide +kernel
theorem dX6_layOffer_63 : decode cX6_layOffer 63 = .ok (.aload_n 0, 1) := by decide +kernel
theorem dX6_layOffer_64 : decode cX6_layOffer 64 = .ok (.getfield 38, 3) := by decide +kernel
theorem dX6_layOffer_67 : decode cX6_layOffer 67 = .ok (.iload 5, 2) := by decide +kernel
theorem dX6_layOffer_69 : decode cX6_layOffer 69 = .ok (.iconst 0, 1) := by decide +kernel
theorem dX6_layOffer_70 : decode cX6_layOffer 70 = .ok (.iastore, 1) := by decide +kernel
theorem dX6_layOffer_71 : decode cX6_layOffer 71 = .ok (.aload_n 0, 1) := by decide +kernel
theorem dX6_layOffer_72 : decode cX6_layOffer 72 = .ok (.iload 5, 2) := by decide +kernel
theorem dX6_layOffer_74 : decode cX6_layOffer 74 = .ok (.invokevirtual 152, 3) := by decide +kernel
theorem dX6_layOffer_77 : decode cX6_layOffer 77 = .ok (.ifCond .eq 221, 3) := by decide +kernel
theorem dX6_layOffer_80 : decode cX6_layOffer 80 = .ok (.iload_n 1, 1) := by decide +kernel
theorem dX6_layOffer_81 : decode cX6_layOffer 81 = .ok (.iconst 4, 1) := by decide +kernel
theorem dX6_layOffer_82 : decode cX6_layOffer 82 = .ok (.if_icmp .ne 8, 3) := by decide +kernel
theorem dX6_layOffer_85 : decode cX6_layOffer 85 = .ok (.iload 4, 2) := by decide +kernel
theorem dX6_layOffer_87 : decode cX6_layOffer 87 = .ok (.goto 12, 3) := by decide +kernel
theorem dX6_layOffer_90 : decode cX6_layOffer 90 = .ok (.aload_n 0, 1) := by decide +kernel
theorem dX6_layOffer_91 : decode cX6_layOffer 91 = .ok (.iload_n 1, 1) := by decide +kernel
theorem dX6_layOffer_92 : decode cX6_layOffer 92 = .ok (.iload_n 2, 1) := by decide +kernel
theorem dX6_layOffer_93 : decode cX6_layOffer 93 = .ok (.iload_n 3, 1) := by decide +kernel
theorem dX6_layOffer_94 : decode cX6_layOffer 94 = .ok (.iload 5, 2) := by decide +kernel
theorem dX6_layOffer_96 : decode cX6_layOffer 96 = .ok (.invokevirtual 174, 3) := by decide +kernel
theorem dX6_layOffer_99 : decode cX6_layOffer 99 = .ok (.istore 6, 2) := by decide +kernel
theorem dX6_layOffer_101 : decode cX6_layOffer 101 = .ok (.aload_n 0, 1) := by decide +kernel
theorem dX6_layOffer_102 : decode cX6_layOffer 102 = .ok (.dup, 1) := by decide +kernel
theorem dX6_layOffer_103 : decode cX6_layOffer 103 = .ok (.getfield 158, 3) := by decide +kernel
theorem dX6_layOffer_106 : decode cX6_layOffer 106 = .ok (.iload 6, 2) := by decide +kernel
theorem dX6_layOffer_108 : decode cX6_layOffer 108 = .ok (.ifCond .eq 10, 3) := by decide +kernel
theorem dX6_layOffer_111 : decode cX6_layOffer 111 = .ok (.iconst 1, 1) := by decide +kernel
theorem dX6_layOffer_112 : decode cX6_layOffer 112 = .ok (.iload 5, 2) := by decide +kernel
theorem dX6_layOffer_114 : decode cX6_layOffer 114 = .ok (.ishl, 1) := by decide +kernel
theorem dX6_layOffer_115 : decode cX6_layOffer 115 = .ok (.goto 4, 3) := by decide +kernel
theorem dX6_layOffer_118 : decode cX6_layOffer 118 = .ok (.iconst 0, 1) := by decide +kernel
theorem dX6_layOffer_119 : decode cX6_layOffer 119 = .ok (.ior, 1) := by decide +kernel
theorem dX6_layOffer_120 : decode cX6_layOffer 120 = .ok (.putfield 158, 3) := by decide +kernel
theorem dX6_layOffer_123 : decode cX6_layOffer 123 = .ok (.aload_n 0, 1) := by decide +kernel
theorem dX6_layOffer_124 : decode cX6_layOffer 124 = .ok (.getfield 35, 3) := by decide +kernel
theorem dX6_layOffer_127 : decode cX6_layOffer 127 = .ok (.iload 5, 2) := by decide +kernel
theorem dX6_layOffer_129 : decode cX6_layOffer 129 = .ok (.iload 6, 2) := by decide +kernel
theorem dX6_layOffer_131 : decode cX6_layOffer 131 = .ok (.ifCond .eq 13, 3) := by decide +kernel
theorem dX6_layOffer_134 : decode cX6_layOffer 134 = .ok (.aload_n 0, 1) := by decide +kernel
theorem dX6_layOffer_135 : decode cX6_layOffer 135 = .ok (.iload 5, 2) := by decide +kernel
theorem dX6_layOffer_137 : decode cX6_layOffer 137 = .ok (.iconst 0, 1) := by decide +kernel
theorem dX6_layOffer_138 : decode cX6_layOffer 138 = .ok (.invokevirtual 142, 3) := by decide +kernel
theorem dX6_layOffer_141 : decode cX6_layOffer 141 = .ok (.goto 19, 3) := by decide +kernel
theorem dX6_layOffer_144 : decode cX6_layOffer 144 = .ok (.iload_n 1, 1) := by decide +kernel
theorem dX6_layOffer_145 : decode cX6_layOffer 145 = .ok (.iconst 4, 1) := by decide +kernel
theorem dX6_layOffer_146 : decode cX6_layOffer 146 = .ok (.if_icmp .ne 7, 3) := by decide +kernel
theorem dX6_layOffer_149 : decode cX6_layOffer 149 = .ok (.iconst 0, 1) := by decide +kernel
theorem dX6_layOffer_150 : decode cX6_layOffer 150 = .ok (.goto 10, 3) := by decide +kernel
theorem dX6_layOffer_153 : decode cX6_layOffer 153 = .ok (.aload_n 0, 1) := by decide +kernel
theorem dX6_layOffer_154 : decode cX6_layOffer 154 = .ok (.iload 5, 2) := by decide +kernel
theorem dX6_layOffer_156 : decode cX6_layOffer 156 = .ok (.iconst 4, 1) := by decide +kernel
theorem dX6_layOffer_157 : decode cX6_layOffer 157 = .ok (.invokevirtual 142, 3) := by decide +kernel
theorem dX6_layOffer_160 : decode cX6_layOffer 160 = .ok (.iastore, 1) := by decide +kernel
theorem dX6_layOffer_161 : decode cX6_layOffer 161 = .ok (.aload_n 0, 1) := by decide +kernel
theorem dX6_layOffer_162 : decode cX6_layOffer 162 = .ok (.getfield 38, 3) := by decide +kernel
theorem dX6_layOffer_165 : decode cX6_layOffer 165 = .ok (.iload 5, 2) := by decide +kernel
theorem dX6_layOffer_167 : decode cX6_layOffer 167 = .ok (.aload_n 0, 1) := by decide +kernel
theorem dX6_layOffer_168 : decode cX6_layOffer 168 = .ok (.getfield 35, 3) := by decide +kernel
theorem dX6_layOffer_171 : decode cX6_layOffer 171 = .ok (.iload 5, 2) := by decide +kernel
theorem dX6_layOffer_173 : decode cX6_layOffer 173 = .ok (.iaload, 1) := by decide +kernel
theorem dX6_layOffer_174 : decode cX6_layOffer 174 = .ok (.aload_n 0, 1) := by decide +kernel
theorem dX6_layOffer_175 : decode cX6_layOffer 175 = .ok (.iload_n 1, 1) := by decide +kernel
theorem dX6_layOffer_176 : decode cX6_layOffer 176 = .ok (.iload_n 2, 1) := by decide +kernel
theorem dX6_layOffer_177 : decode cX6_layOffer 177 = .ok (.iload 5, 2) := by decide +kernel
theorem dX6_layOffer_179 : decode cX6_layOffer 179 = .ok (.invokevirtual 177, 3) := by decide +kernel
theorem dX6_layOffer_182 : decode cX6_layOffer 182 = .ok (.imul, 1) := by decide +kernel
theorem dX6_layOffer_183 : decode cX6_layOffer 183 = .ok (.iastore, 1) := by decide +kernel
theorem dX6_layOffer_184 : decode cX6_layOffer 184 = .ok (.aload_n 0, 1) := by decide +kernel
theorem dX6_layOffer_185 : decode cX6_layOffer 185 = .ok (.dup, 1) := by decide +kernel
theorem dX6_layOffer_186 : decode cX6_layOffer 186 = .ok (.getfield 161, 3) := by decide +kernel
theorem dX6_layOffer_189 : decode cX6_layOffer 189 = .ok (.aload_n 0, 1) := by decide +kernel
theorem dX6_layOffer_190 : decode cX6_layOffer 190 = .ok (.getfield 35, 3) := by decide +kernel
theorem dX6_layOffer_193 : decode cX6_layOffer 193 = .ok (.iload 5, 2) := by decide +kernel
theorem dX6_layOffer_195 : decode cX6_layOffer 195 = .ok (.iaload, 1) := by decide +kernel
theorem dX6_layOffer_196 : decode cX6_layOffer 196 = .ok (.iadd, 1) := by decide +kernel
theorem dX6_layOffer_197 : decode cX6_layOffer 197 = .ok (.putfield 161, 3) := by decide +kernel
theorem dX6_layOffer_200 : decode cX6_layOffer 200 = .ok (.aload_n 0, 1) := by decide +kernel
theorem dX6_layOffer_201 : decode cX6_layOffer 201 = .ok (.dup, 1) := by decide +kernel
theorem dX6_layOffer_202 : decode cX6_layOffer 202 = .ok (.getfield 164, 3) := by decide +kernel
theorem dX6_layOffer_205 : decode cX6_layOffer 205 = .ok (.aload_n 0, 1) := by decide +kernel
theorem dX6_layOffer_206 : decode cX6_layOffer 206 = .ok (.getfield 38, 3) := by decide +kernel
theorem dX6_layOffer_209 : decode cX6_layOffer 209 = .ok (.iload 5, 2) := by decide +kernel
theorem dX6_layOffer_211 : decode cX6_layOffer 211 = .ok (.iaload, 1) := by decide +kernel
theorem dX6_layOffer_212 : decode cX6_layOffer 212 = .ok (.iadd, 1) := by decide +kernel
theorem dX6_layOffer_213 : decode cX6_layOffer 213 = .ok (.putfield 164, 3) := by decide +kernel
theorem dX6_layOffer_216 : decode cX6_layOffer 216 = .ok (.aload_n 0, 1) := by decide +kernel
theorem dX6_layOffer_217 : decode cX6_layOffer 217 = .ok (.dup, 1) := by decide +kernel
theorem dX6_layOffer_218 : decode cX6_layOffer 218 = .ok (.getfield 167, 3) := by decide +kernel
theorem dX6_layOffer_221 : decode cX6_layOffer 221 = .ok (.aload_n 0, 1) := by decide +kernel
theorem dX6_layOffer_222 : decode cX6_layOffer 222 = .ok (.getfield 38, 3) := by decide +kernel
theorem dX6_layOffer_225 : decode cX6_layOffer 225 = .ok (.iload 5, 2) := by decide +kernel
theorem dX6_layOffer_227 : decode cX6_layOffer 227 = .ok (.iaload, 1) := by decide +kernel
theorem dX6_layOffer_228 : decode cX6_layOffer 228 = .ok (.i2l, 1) := by decide +kernel
theorem dX6_layOffer_229 : decode cX6_layOffer 229 = .ok (.bipush 10, 2) := by decide +kernel
theorem dX6_layOffer_231 : decode cX6_layOffer 231 = .ok (.aload_n 0, 1) := by decide +kernel
theorem dX6_layOffer_232 : decode cX6_layOffer 232 = .ok (.iload 5, 2) := by decide +kernel
theorem dX6_layOffer_234 : decode cX6_layOffer 234 = .ok (.iconst 2, 1) := by decide +kernel
theorem dX6_layOffer_235 : decode cX6_layOffer 235 = .ok (.invokevirtual 142, 3) := by decide +kernel
theorem dX6_layOffer_238 : decode cX6_layOffer 238 = .ok (.imul, 1) := by decide +kernel
theorem dX6_layOffer_239 : decode cX6_layOffer 239 = .ok (.iload_n 1, 1) := by decide +kernel
theorem dX6_layOffer_240 : decode cX6_layOffer 240 = .ok (.iconst 1, 1) := by decide +kernel
theorem dX6_layOffer_241 : decode cX6_layOffer 241 = .ok (.if_icmp .ne 15, 3) := by decide +kernel
theorem dX6_layOffer_244 : decode cX6_layOffer 244 = .ok (.aload_n 0, 1) := by decide +kernel
theorem dX6_layOffer_245 : decode cX6_layOffer 245 = .ok (.iload 5, 2) := by decide +kernel
theorem dX6_layOffer_247 : decode cX6_layOffer 247 = .ok (.iconst 3, 1) := by decide +kernel
theorem dX6_layOffer_248 : decode cX6_layOffer 248 = .ok (.invokevirtual 142, 3) := by decide +kernel
theorem dX6_layOffer_251 : decode cX6_layOffer 251 = .ok (.iload_n 2, 1) := by decide +kernel
theorem dX6_layOffer_252 : decode cX6_layOffer 252 = .ok (.imul, 1) := by decide +kernel
theorem dX6_layOffer_253 : decode cX6_layOffer 253 = .ok (.goto 4, 3) := by decide +kernel
theorem dX6_layOffer_256 : decode cX6_layOffer 256 = .ok (.iconst 0, 1) := by decide +kernel
theorem dX6_layOffer_257 : decode cX6_layOffer 257 = .ok (.iadd, 1) := by decide +kernel
theorem dX6_layOffer_258 : decode cX6_layOffer 258 = .ok (.i2l, 1) := by decide +kernel
theorem dX6_layOffer_259 : decode cX6_layOffer 259 = .ok (.lmul, 1) := by decide +kernel
theorem dX6_layOffer_260 : decode cX6_layOffer 260 = .ok (.ladd, 1) := by decide +kernel
theorem dX6_layOffer_261 : decode cX6_layOffer 261 = .ok (.putfield 167, 3) := by decide +kernel
theorem dX6_layOffer_264 : decode cX6_layOffer 264 = .ok (.aload_n 0, 1) := by decide +kernel
theorem dX6_layOffer_265 : decode cX6_layOffer 265 = .ok (.dup, 1) := by decide +kernel
theorem dX6_layOffer_266 : decode cX6_layOffer 266 = .ok (.getfield 171, 3) := by decide +kernel
theorem dX6_layOffer_269 : decode cX6_layOffer 269 = .ok (.aload_n 0, 1) := by decide +kernel
theorem dX6_layOffer_270 : decode cX6_layOffer 270 = .ok (.getfield 38, 3) := by decide +kernel
theorem dX6_layOffer_273 : decode cX6_layOffer 273 = .ok (.iload 5, 2) := by decide +kernel
theorem dX6_layOffer_275 : decode cX6_layOffer 275 = .ok (.iaload, 1) := by decide +kernel
theorem dX6_layOffer_276 : decode cX6_layOffer 276 = .ok (.i2l, 1) := by decide +kernel
theorem dX6_layOffer_277 : decode cX6_layOffer 277 = .ok (.aload_n 0, 1) := by decide +kernel
theorem dX6_layOffer_278 : decode cX6_layOffer 278 = .ok (.iload 5, 2) := by decide +kernel
theorem dX6_layOffer_280 : decode cX6_layOffer 280 = .ok (.iconst 2, 1) := by decide +kernel
theorem dX6_layOffer_281 : decode cX6_layOffer 281 = .ok (.invokevirtual 142, 3) := by decide +kernel
theorem dX6_layOffer_284 : decode cX6_layOffer 284 = .ok (.aload_n 0, 1) := by decide +kernel
theorem dX6_layOffer_285 : decode cX6_layOffer 285 = .ok (.iload 5, 2) := by decide +kernel
theorem dX6_layOffer_287 : decode cX6_layOffer 287 = .ok (.iconst 1, 1) := by decide +kernel
theorem dX6_layOffer_288 : decode cX6_layOffer 288 = .ok (.invokevirtual 142, 3) := by decide +kernel
theorem dX6_layOffer_291 : decode cX6_layOffer 291 = .ok (.isub, 1) := by decide +kernel
theorem dX6_layOffer_292 : decode cX6_layOffer 292 = .ok (.i2l, 1) := by decide +kernel
theorem dX6_layOffer_293 : decode cX6_layOffer 293 = .ok (.lmul, 1) := by decide +kernel
theorem dX6_layOffer_294 : decode cX6_layOffer 294 = .ok (.ladd, 1) := by decide +kernel
theorem dX6_layOffer_295 : decode cX6_layOffer 295 = .ok (.putfield 171, 3) := by decide +kernel
theorem dX6_layOffer_298 : decode cX6_layOffer 298 = .ok (.iinc 5 1, 3) := by decide +kernel
theorem dX6_layOffer_301 : decode cX6_layOffer 301 = .ok (.goto (-253), 3) := by decide +kernel
theorem dX6_layOffer_304 : decode cX6_layOffer 304 = .ok (.iload_n 1, 1) := by decide +kernel
theorem dX6_layOffer_305 : decode cX6_layOffer 305 = .ok (.iconst 2, 1) := by decide +kernel
theorem dX6_layOffer_306 : decode cX6_layOffer 306 = .ok (.if_icmp .ne 23, 3) := by decide +kernel
theorem dX6_layOffer_309 : decode cX6_layOffer 309 = .ok (.ldc2_w 181, 3) := by decide +kernel
theorem dX6_layOffer_312 : decode cX6_layOffer 312 = .ok (.aload_n 0, 1) := by decide +kernel
theorem dX6_layOffer_313 : decode cX6_layOffer 313 = .ok (.getfield 25, 3) := by decide +kernel
theorem dX6_layOffer_316 : decode cX6_layOffer 316 = .ok (.iconst 2, 1) := by decide +kernel
theorem dX6_layOffer_317 : decode cX6_layOffer 317 = .ok (.iaload, 1) := by decide +kernel
theorem dX6_layOffer_318 : decode cX6_layOffer 318 = .ok (.i2l, 1) := by decide +kernel
theorem dX6_layOffer_319 : decode cX6_layOffer 319 = .ok (.lmul, 1) := by decide +kernel
theorem dX6_layOffer_320 : decode cX6_layOffer 320 = .ok (.aload_n 0, 1) := by decide +kernel
theorem dX6_layOffer_321 : decode cX6_layOffer 321 = .ok (.getfield 161, 3) := by decide +kernel
theorem dX6_layOffer_324 : decode cX6_layOffer 324 = .ok (.i2l, 1) := by decide +kernel
theorem dX6_layOffer_325 : decode cX6_layOffer 325 = .ok (.lmul, 1) := by decide +kernel
theorem dX6_layOffer_326 : decode cX6_layOffer 326 = .ok (.goto 4, 3) := by decide +kernel
theorem dX6_layOffer_329 : decode cX6_layOffer 329 = .ok (.lconst 0, 1) := by decide +kernel
theorem dX6_layOffer_330 : decode cX6_layOffer 330 = .ok (.lstore 5, 2) := by decide +kernel
theorem dX6_layOffer_332 : decode cX6_layOffer 332 = .ok (.aload_n 0, 1) := by decide +kernel
theorem dX6_layOffer_333 : decode cX6_layOffer 333 = .ok (.dup, 1) := by decide +kernel
theorem dX6_layOffer_334 : decode cX6_layOffer 334 = .ok (.getfield 167, 3) := by decide +kernel
theorem dX6_layOffer_337 : decode cX6_layOffer 337 = .ok (.ldc2_w 130, 3) := by decide +kernel
theorem dX6_layOffer_340 : decode cX6_layOffer 340 = .ok (.lload 5, 2) := by decide +kernel
theorem dX6_layOffer_342 : decode cX6_layOffer 342 = .ok (.lmul, 1) := by decide +kernel
theorem dX6_layOffer_343 : decode cX6_layOffer 343 = .ok (.lsub, 1) := by decide +kernel
theorem dX6_layOffer_344 : decode cX6_layOffer 344 = .ok (.putfield 167, 3) := by decide +kernel
theorem dX6_layOffer_347 : decode cX6_layOffer 347 = .ok (.aload_n 0, 1) := by decide +kernel
theorem dX6_layOffer_348 : decode cX6_layOffer 348 = .ok (.ldc2_w 130, 3) := by decide +kernel
theorem dX6_layOffer_351 : decode cX6_layOffer 351 = .ok (.aload_n 0, 1) := by decide +kernel
theorem dX6_layOffer_352 : decode cX6_layOffer 352 = .ok (.getfield 164, 3) := by decide +kernel
theorem dX6_layOffer_355 : decode cX6_layOffer 355 = .ok (.i2l, 1) := by decide +kernel
theorem dX6_layOffer_356 : decode cX6_layOffer 356 = .ok (.lmul, 1) := by decide +kernel
theorem dX6_layOffer_357 : decode cX6_layOffer 357 = .ok (.putfield 183, 3) := by decide +kernel
theorem dX6_layOffer_360 : decode cX6_layOffer 360 = .ok (.aload_n 0, 1) := by decide +kernel
theorem dX6_layOffer_361 : decode cX6_layOffer 361 = .ok (.dup, 1) := by decide +kernel
theorem dX6_layOffer_362 : decode cX6_layOffer 362 = .ok (.getfield 171, 3) := by decide +kernel
theorem dX6_layOffer_365 : decode cX6_layOffer 365 = .ok (.lload 5, 2) := by decide +kernel
theorem dX6_layOffer_367 : decode cX6_layOffer 367 = .ok (.lsub, 1) := by decide +kernel
theorem dX6_layOffer_368 : decode cX6_layOffer 368 = .ok (.putfield 171, 3) := by decide +kernel
theorem dX6_layOffer_371 : decode cX6_layOffer 371 = .ok (.return_, 1) := by decide +kernel
theorem dX6_isOffer_0 : decode cX6_isOffer 0 = .ok (.iload_n 0, 1) := by decide +kernel
theorem dX6_isOffer_1 : decode cX6_isOffer 1 = .ok (.i2l, 1) := by decide +kernel
theorem dX6_isOffer_2 : decode cX6_isOffer 2 = .ok (.lconst 0, 1) := by decide +kernel
theorem dX6_isOffer_3 : decode cX6_isOffer 3 = .ok (.ldc2_w 140, 3) := by decide +kernel
theorem dX6_isOffer_6 : decode cX6_isOffer 6 = .ok (.invokestatic 53, 3) := by decide +kernel
theorem dX6_isOffer_9 : decode cX6_isOffer 9 = .ok (.ifCond .eq 30, 3) := by decide +kernel
theorem dX6_isOffer_12 : decode cX6_isOffer 12 = .ok (.iload_n 1, 1) := by decide +kernel
theorem dX6_isOffer_13 : decode cX6_isOffer 13 = .ok (.i2l, 1) := by decide +kernel
theorem dX6_isOffer_14 : decode cX6_isOffer 14 = .ok (.lconst 0, 1) := by decide +kernel
theorem dX6_isOffer_15 : decode cX6_isOffer 15 = .ok (.iload_n 0, 1) := by decide +kernel
theorem dX6_isOffer_16 : decode cX6_isOffer 16 = .ok (.iconst 3, 1) := by decide +kernel
theorem dX6_isOffer_17 : decode cX6_isOffer 17 = .ok (.if_icmp .ne 9, 3) := by decide +kernel
theorem dX6_isOffer_20 : decode cX6_isOffer 20 = .ok (.ldc2_w 130, 3) := by decide +kernel
theorem dX6_isOffer_23 : decode cX6_isOffer 23 = .ok (.goto 6, 3) := by decide +kernel
theorem dX6_isOffer_26 : decode cX6_isOffer 26 = .ok (.ldc2_w 128, 3) := by decide +kernel
theorem dX6_isOffer_29 : decode cX6_isOffer 29 = .ok (.invokestatic 53, 3) := by decide +kernel
theorem dX6_isOffer_32 : decode cX6_isOffer 32 = .ok (.ifCond .eq 7, 3) := by decide +kernel
theorem dX6_isOffer_35 : decode cX6_isOffer 35 = .ok (.iconst 1, 1) := by decide +kernel
theorem dX6_isOffer_36 : decode cX6_isOffer 36 = .ok (.goto 4, 3) := by decide +kernel
theorem dX6_isOffer_39 : decode cX6_isOffer 39 = .ok (.iconst 0, 1) := by decide +kernel
theorem dX6_isOffer_40 : decode cX6_isOffer 40 = .ok (.ireturn, 1) := by decide +kernel
theorem dX6_isPrice_0 : decode cX6_isPrice 0 = .ok (.iload_n 0, 1) := by decide +kernel
theorem dX6_isPrice_1 : decode cX6_isPrice 1 = .ok (.i2l, 1) := by decide +kernel
theorem dX6_isPrice_2 : decode cX6_isPrice 2 = .ok (.lconst 0, 1) := by decide +kernel
theorem dX6_isPrice_3 : decode cX6_isPrice 3 = .ok (.ldc2_w 128, 3) := by decide +kernel
theorem dX6_isPrice_6 : decode cX6_isPrice 6 = .ok (.invokestatic 53, 3) := by decide +kernel
theorem dX6_isPrice_9 : decode cX6_isPrice 9 = .ok (.ireturn, 1) := by decide +kernel
theorem dX6_comes_0 : decode cX6_comes 0 = .ok (.iload_n 1, 1) := by decide +kernel
theorem dX6_comes_1 : decode cX6_comes 1 = .ok (.iload_n 2, 1) := by decide +kernel
theorem dX6_comes_2 : decode cX6_comes 2 = .ok (.invokestatic 186, 3) := by decide +kernel
theorem dX6_comes_5 : decode cX6_comes 5 = .ok (.ifCond .eq 23, 3) := by decide +kernel
theorem dX6_comes_8 : decode cX6_comes 8 = .ok (.iload_n 3, 1) := by decide +kernel
theorem dX6_comes_9 : decode cX6_comes 9 = .ok (.invokestatic 190, 3) := by decide +kernel
theorem dX6_comes_12 : decode cX6_comes 12 = .ok (.ifCond .eq 16, 3) := by decide +kernel
theorem dX6_comes_15 : decode cX6_comes 15 = .ok (.iload 4, 2) := by decide +kernel
theorem dX6_comes_17 : decode cX6_comes 17 = .ok (.i2l, 1) := by decide +kernel
theorem dX6_comes_18 : decode cX6_comes 18 = .ok (.lconst 0, 1) := by decide +kernel
theorem dX6_comes_19 : decode cX6_comes 19 = .ok (.ldc2_w 193, 3) := by decide +kernel
theorem dX6_comes_22 : decode cX6_comes 22 = .ok (.invokestatic 53, 3) := by decide +kernel
theorem dX6_comes_25 : decode cX6_comes 25 = .ok (.ifCond .ne 5, 3) := by decide +kernel
theorem dX6_comes_28 : decode cX6_comes 28 = .ok (.iconst (-1), 1) := by decide +kernel
theorem dX6_comes_29 : decode cX6_comes 29 = .ok (.ireturn, 1) := by decide +kernel
theorem dX6_comes_30 : decode cX6_comes 30 = .ok (.aload_n 0, 1) := by decide +kernel
theorem dX6_comes_31 : decode cX6_comes 31 = .ok (.iload_n 1, 1) := by decide +kernel
theorem dX6_comes_32 : decode cX6_comes 32 = .ok (.iload_n 2, 1) := by decide +kernel
theorem dX6_comes_33 : decode cX6_comes 33 = .ok (.iload_n 3, 1) := by decide +kernel
theorem dX6_comes_34 : decode cX6_comes 34 = .ok (.invokevirtual 195, 3) := by decide +kernel
theorem dX6_comes_37 : decode cX6_comes 37 = .ok (.iload 4, 2) := by decide +kernel
theorem dX6_comes_39 : decode cX6_comes 39 = .ok (.ifCond .ne 10, 3) := by decide +kernel
theorem dX6_comes_42 : decode cX6_comes 42 = .ok (.aload_n 0, 1) := by decide +kernel
theorem dX6_comes_43 : decode cX6_comes 43 = .ok (.getfield 158, 3) := by decide +kernel
theorem dX6_comes_46 : decode cX6_comes 46 = .ok (.goto 20, 3) := by decide +kernel
theorem dX6_comes_49 : decode cX6_comes 49 = .ok (.iload 4, 2) := by decide +kernel
theorem dX6_comes_51 : decode cX6_comes 51 = .ok (.iconst 1, 1) := by decide +kernel
theorem dX6_comes_52 : decode cX6_comes 52 = .ok (.if_icmp .ne 10, 3) := by decide +kernel
theorem dX6_comes_55 : decode cX6_comes 55 = .ok (.aload_n 0, 1) := by decide +kernel
theorem dX6_comes_56 : decode cX6_comes 56 = .ok (.getfield 161, 3) := by decide +kernel
theorem dX6_comes_59 : decode cX6_comes 59 = .ok (.goto 7, 3) := by decide +kernel
theorem dX6_comes_62 : decode cX6_comes 62 = .ok (.aload_n 0, 1) := by decide +kernel
theorem dX6_comes_63 : decode cX6_comes 63 = .ok (.getfield 164, 3) := by decide +kernel
theorem dX6_comes_66 : decode cX6_comes 66 = .ok (.ireturn, 1) := by decide +kernel
theorem dX6_sold_0 : decode cX6_sold 0 = .ok (.iload_n 1, 1) := by decide +kernel
theorem dX6_sold_1 : decode cX6_sold 1 = .ok (.iload_n 2, 1) := by decide +kernel
theorem dX6_sold_2 : decode cX6_sold 2 = .ok (.invokestatic 186, 3) := by decide +kernel
theorem dX6_sold_5 : decode cX6_sold 5 = .ok (.ifCond .eq 19, 3) := by decide +kernel
theorem dX6_sold_8 : decode cX6_sold 8 = .ok (.iload_n 3, 1) := by decide +kernel
theorem dX6_sold_9 : decode cX6_sold 9 = .ok (.invokestatic 190, 3) := by decide +kernel
theorem dX6_sold_12 : decode cX6_sold 12 = .ok (.ifCond .eq 12, 3) := by decide +kernel
theorem dX6_sold_15 : decode cX6_sold 15 = .ok (.aload_n 0, 1) := by decide +kernel
theorem dX6_sold_16 : decode cX6_sold 16 = .ok (.iload 4, 2) := by decide +kernel
theorem dX6_sold_18 : decode cX6_sold 18 = .ok (.invokevirtual 136, 3) := by decide +kernel
theorem dX6_sold_21 : decode cX6_sold 21 = .ok (.ifCond .ne 5, 3) := by decide +kernel
theorem dX6_sold_24 : decode cX6_sold 24 = .ok (.iconst (-1), 1) := by decide +kernel
theorem dX6_sold_25 : decode cX6_sold 25 = .ok (.ireturn, 1) := by decide +kernel
theorem dX6_sold_26 : decode cX6_sold 26 = .ok (.aload_n 0, 1) := by decide +kernel
theorem dX6_sold_27 : decode cX6_sold 27 = .ok (.iload_n 1, 1) := by decide +kernel
theorem dX6_sold_28 : decode cX6_sold 28 = .ok (.iload_n 2, 1) := by decide +kernel
theorem dX6_sold_29 : decode cX6_sold 29 = .ok (.iload_n 3, 1) := by decide +kernel
theorem dX6_sold_30 : decode cX6_sold 30 = .ok (.invokevirtual 195, 3) := by decide +kernel
theorem dX6_sold_33 : decode cX6_sold 33 = .ok (.aload_n 0, 1) := by decide +kernel
theorem dX6_sold_34 : decode cX6_sold 34 = .ok (.getfield 38, 3) := by decide +kernel
theorem dX6_sold_37 : decode cX6_sold 37 = .ok (.iload 4, 2) := by decide +kernel
theorem dX6_sold_39 : decode cX6_sold 39 = .ok (.iaload, 1) := by decide +kernel
theorem dX6_sold_40 : decode cX6_sold 40 = .ok (.ireturn, 1) := by decide +kernel
theorem dX6_lowest_0 : decode cX6_lowest 0 = .ok (.lload_n 0, 1) := by decide +kernel
theorem dX6_lowest_1 : decode cX6_lowest 1 = .ok (.lconst 0, 1) := by decide +kernel
theorem dX6_lowest_2 : decode cX6_lowest 2 = .ok (.lcmp, 1) := by decide +kernel
theorem dX6_lowest_3 : decode cX6_lowest 3 = .ok (.ifCond .ge 8, 3) := by decide +kernel
theorem dX6_lowest_6 : decode cX6_lowest 6 = .ok (.lload_n 0, 1) := by decide +kernel
theorem dX6_lowest_7 : decode cX6_lowest 7 = .ok (.lneg, 1) := by decide +kernel
theorem dX6_lowest_8 : decode cX6_lowest 8 = .ok (.goto 4, 3) := by decide +kernel
theorem dX6_lowest_11 : decode cX6_lowest 11 = .ok (.lload_n 0, 1) := by decide +kernel
theorem dX6_lowest_12 : decode cX6_lowest 12 = .ok (.lstore 5, 2) := by decide +kernel
theorem dX6_lowest_14 : decode cX6_lowest 14 = .ok (.lload_n 2, 1) := by decide +kernel
theorem dX6_lowest_15 : decode cX6_lowest 15 = .ok (.lstore 7, 2) := by decide +kernel
theorem dX6_lowest_17 : decode cX6_lowest 17 = .ok (.lload 7, 2) := by decide +kernel
theorem dX6_lowest_19 : decode cX6_lowest 19 = .ok (.lconst 0, 1) := by decide +kernel
theorem dX6_lowest_20 : decode cX6_lowest 20 = .ok (.lcmp, 1) := by decide +kernel
theorem dX6_lowest_21 : decode cX6_lowest 21 = .ok (.ifCond .eq 21, 3) := by decide +kernel
theorem dX6_lowest_24 : decode cX6_lowest 24 = .ok (.lload 5, 2) := by decide +kernel
theorem dX6_lowest_26 : decode cX6_lowest 26 = .ok (.lload 7, 2) := by decide +kernel
theorem dX6_lowest_28 : decode cX6_lowest 28 = .ok (.lrem, 1) := by decide +kernel
theorem dX6_lowest_29 : decode cX6_lowest 29 = .ok (.lstore 9, 2) := by decide +kernel
theorem dX6_lowest_31 : decode cX6_lowest 31 = .ok (.lload 7, 2) := by decide +kernel
theorem dX6_lowest_33 : decode cX6_lowest 33 = .ok (.lstore 5, 2) := by decide +kernel
theorem dX6_lowest_35 : decode cX6_lowest 35 = .ok (.lload 9, 2) := by decide +kernel
theorem dX6_lowest_37 : decode cX6_lowest 37 = .ok (.lstore 7, 2) := by decide +kernel
theorem dX6_lowest_39 : decode cX6_lowest 39 = .ok (.goto (-22), 3) := by decide +kernel
theorem dX6_lowest_42 : decode cX6_lowest 42 = .ok (.iload 4, 2) := by decide +kernel
theorem dX6_lowest_44 : decode cX6_lowest 44 = .ok (.ifCond .ne 7, 3) := by decide +kernel
theorem dX6_lowest_47 : decode cX6_lowest 47 = .ok (.lload_n 0, 1) := by decide +kernel
theorem dX6_lowest_48 : decode cX6_lowest 48 = .ok (.goto 4, 3) := by decide +kernel
theorem dX6_lowest_51 : decode cX6_lowest 51 = .ok (.lload_n 2, 1) := by decide +kernel
theorem dX6_lowest_52 : decode cX6_lowest 52 = .ok (.lload 5, 2) := by decide +kernel
theorem dX6_lowest_54 : decode cX6_lowest 54 = .ok (.ldiv, 1) := by decide +kernel
theorem dX6_lowest_55 : decode cX6_lowest 55 = .ok (.lreturn, 1) := by decide +kernel
theorem dX6_thought_0 : decode cX6_thought 0 = .ok (.iload_n 1, 1) := by decide +kernel
theorem dX6_thought_1 : decode cX6_thought 1 = .ok (.iload_n 2, 1) := by decide +kernel
theorem dX6_thought_2 : decode cX6_thought 2 = .ok (.invokestatic 186, 3) := by decide +kernel
theorem dX6_thought_5 : decode cX6_thought 5 = .ok (.ifCond .eq 21, 3) := by decide +kernel
theorem dX6_thought_8 : decode cX6_thought 8 = .ok (.iload_n 3, 1) := by decide +kernel
theorem dX6_thought_9 : decode cX6_thought 9 = .ok (.invokestatic 190, 3) := by decide +kernel
theorem dX6_thought_12 : decode cX6_thought 12 = .ok (.ifCond .eq 14, 3) := by decide +kernel
theorem dX6_thought_15 : decode cX6_thought 15 = .ok (.iload 4, 2) := by decide +kernel
theorem dX6_thought_17 : decode cX6_thought 17 = .ok (.i2l, 1) := by decide +kernel
theorem dX6_thought_18 : decode cX6_thought 18 = .ok (.lconst 0, 1) := by decide +kernel
theorem dX6_thought_19 : decode cX6_thought 19 = .ok (.lconst 1, 1) := by decide +kernel
theorem dX6_thought_20 : decode cX6_thought 20 = .ok (.invokestatic 53, 3) := by decide +kernel
theorem dX6_thought_23 : decode cX6_thought 23 = .ok (.ifCond .ne 6, 3) := by decide +kernel
theorem dX6_thought_26 : decode cX6_thought 26 = .ok (.ldc 199, 2) := by decide +kernel
theorem dX6_thought_28 : decode cX6_thought 28 = .ok (.ireturn, 1) := by decide +kernel
theorem dX6_thought_29 : decode cX6_thought 29 = .ok (.aload_n 0, 1) := by decide +kernel
theorem dX6_thought_30 : decode cX6_thought 30 = .ok (.iload_n 1, 1) := by decide +kernel
theorem dX6_thought_31 : decode cX6_thought 31 = .ok (.iload_n 2, 1) := by decide +kernel
theorem dX6_thought_32 : decode cX6_thought 32 = .ok (.iload_n 3, 1) := by decide +kernel
theorem dX6_thought_33 : decode cX6_thought 33 = .ok (.invokevirtual 195, 3) := by decide +kernel
theorem dX6_thought_36 : decode cX6_thought 36 = .ok (.aload_n 0, 1) := by decide +kernel
theorem dX6_thought_37 : decode cX6_thought 37 = .ok (.getfield 164, 3) := by decide +kernel
theorem dX6_thought_40 : decode cX6_thought 40 = .ok (.ifCond .ne 8, 3) := by decide +kernel
theorem dX6_thought_43 : decode cX6_thought 43 = .ok (.ldc 200, 2) := by decide +kernel
theorem dX6_thought_45 : decode cX6_thought 45 = .ok (.goto 17, 3) := by decide +kernel
theorem dX6_thought_48 : decode cX6_thought 48 = .ok (.aload_n 0, 1) := by decide +kernel
theorem dX6_thought_49 : decode cX6_thought 49 = .ok (.getfield 167, 3) := by decide +kernel
theorem dX6_thought_52 : decode cX6_thought 52 = .ok (.aload_n 0, 1) := by decide +kernel
theorem dX6_thought_53 : decode cX6_thought 53 = .ok (.getfield 183, 3) := by decide +kernel
theorem dX6_thought_56 : decode cX6_thought 56 = .ok (.iload 4, 2) := by decide +kernel
theorem dX6_thought_58 : decode cX6_thought 58 = .ok (.invokestatic 201, 3) := by decide +kernel
theorem dX6_thought_61 : decode cX6_thought 61 = .ok (.l2i, 1) := by decide +kernel
theorem dX6_thought_62 : decode cX6_thought 62 = .ok (.ireturn, 1) := by decide +kernel
theorem dX6_doesRest_0 : decode cX6_doesRest 0 = .ok (.aload_n 0, 1) := by decide +kernel
theorem dX6_doesRest_1 : decode cX6_doesRest 1 = .ok (.iload_n 1, 1) := by decide +kernel
theorem dX6_doesRest_2 : decode cX6_doesRest 2 = .ok (.iload_n 2, 1) := by decide +kernel
theorem dX6_doesRest_3 : decode cX6_doesRest 3 = .ok (.iload_n 3, 1) := by decide +kernel
theorem dX6_doesRest_4 : decode cX6_doesRest 4 = .ok (.invokevirtual 195, 3) := by decide +kernel
theorem dX6_doesRest_7 : decode cX6_doesRest 7 = .ok (.aload_n 0, 1) := by decide +kernel
theorem dX6_doesRest_8 : decode cX6_doesRest 8 = .ok (.getfield 164, 3) := by decide +kernel
theorem dX6_doesRest_11 : decode cX6_doesRest 11 = .ok (.ifCond .le 22, 3) := by decide +kernel
theorem dX6_doesRest_14 : decode cX6_doesRest 14 = .ok (.aload_n 0, 1) := by decide +kernel
theorem dX6_doesRest_15 : decode cX6_doesRest 15 = .ok (.getfield 167, 3) := by decide +kernel
theorem dX6_doesRest_18 : decode cX6_doesRest 18 = .ok (.iload_n 3, 1) := by decide +kernel
theorem dX6_doesRest_19 : decode cX6_doesRest 19 = .ok (.i2l, 1) := by decide +kernel
theorem dX6_doesRest_20 : decode cX6_doesRest 20 = .ok (.aload_n 0, 1) := by decide +kernel
theorem dX6_doesRest_21 : decode cX6_doesRest 21 = .ok (.getfield 183, 3) := by decide +kernel
theorem dX6_doesRest_24 : decode cX6_doesRest 24 = .ok (.lmul, 1) := by decide +kernel
theorem dX6_doesRest_25 : decode cX6_doesRest 25 = .ok (.lcmp, 1) := by decide +kernel
theorem dX6_doesRest_26 : decode cX6_doesRest 26 = .ok (.ifCond .lt 7, 3) := by decide +kernel
theorem dX6_doesRest_29 : decode cX6_doesRest 29 = .ok (.iconst 1, 1) := by decide +kernel
theorem dX6_doesRest_30 : decode cX6_doesRest 30 = .ok (.goto 4, 3) := by decide +kernel
theorem dX6_doesRest_33 : decode cX6_doesRest 33 = .ok (.iconst 0, 1) := by decide +kernel
theorem dX6_doesRest_34 : decode cX6_doesRest 34 = .ok (.ireturn, 1) := by decide +kernel
theorem dX6_rests_0 : decode cX6_rests 0 = .ok (.iload_n 1, 1) := by decide +kernel
theorem dX6_rests_1 : decode cX6_rests 1 = .ok (.iload_n 2, 1) := by decide +kernel
theorem dX6_rests_2 : decode cX6_rests 2 = .ok (.invokestatic 186, 3) := by decide +kernel
theorem dX6_rests_5 : decode cX6_rests 5 = .ok (.ifCond .eq 15, 3) := by decide +kernel
theorem dX6_rests_8 : decode cX6_rests 8 = .ok (.iload_n 3, 1) := by decide +kernel
theorem dX6_rests_9 : decode cX6_rests 9 = .ok (.i2l, 1) := by decide +kernel
theorem dX6_rests_10 : decode cX6_rests 10 = .ok (.lconst 0, 1) := by decide +kernel
theorem dX6_rests_11 : decode cX6_rests 11 = .ok (.ldc2_w 150, 3) := by decide +kernel
theorem dX6_rests_14 : decode cX6_rests 14 = .ok (.invokestatic 53, 3) := by decide +kernel
theorem dX6_rests_17 : decode cX6_rests 17 = .ok (.ifCond .ne 5, 3) := by decide +kernel
theorem dX6_rests_20 : decode cX6_rests 20 = .ok (.iconst (-1), 1) := by decide +kernel
theorem dX6_rests_21 : decode cX6_rests 21 = .ok (.ireturn, 1) := by decide +kernel
theorem dX6_rests_22 : decode cX6_rests 22 = .ok (.iconst 0, 1) := by decide +kernel
theorem dX6_rests_23 : decode cX6_rests 23 = .ok (.istore 4, 2) := by decide +kernel
theorem dX6_rests_25 : decode cX6_rests 25 = .ok (.bipush (-4), 2) := by decide +kernel
theorem dX6_rests_27 : decode cX6_rests 27 = .ok (.istore 5, 2) := by decide +kernel
theorem dX6_rests_29 : decode cX6_rests 29 = .ok (.bipush (-4), 2) := by decide +kernel
theorem dX6_rests_31 : decode cX6_rests 31 = .ok (.istore 6, 2) := by decide +kernel
theorem dX6_rests_33 : decode cX6_rests 33 = .ok (.bipush (-4), 2) := by decide +kernel
theorem dX6_rests_35 : decode cX6_rests 35 = .ok (.istore 7, 2) := by decide +kernel
theorem dX6_rests_37 : decode cX6_rests 37 = .ok (.iconst 0, 1) := by decide +kernel
theorem dX6_rests_38 : decode cX6_rests 38 = .ok (.istore 8, 2) := by decide +kernel
theorem dX6_rests_40 : decode cX6_rests 40 = .ok (.iconst 0, 1) := by decide +kernel
theorem dX6_rests_41 : decode cX6_rests 41 = .ok (.istore 9, 2) := by decide +kernel
theorem dX6_rests_43 : decode cX6_rests 43 = .ok (.iload 9, 2) := by decide +kernel
theorem dX6_rests_45 : decode cX6_rests 45 = .ok (.bipush 100, 2) := by decide +kernel
theorem dX6_rests_47 : decode cX6_rests 47 = .ok (.if_icmp .ge 81, 3) := by decide +kernel
theorem dX6_rests_50 : decode cX6_rests 50 = .ok (.aload_n 0, 1) := by decide +kernel
theorem dX6_rests_51 : decode cX6_rests 51 = .ok (.iload_n 1, 1) := by decide +kernel
theorem dX6_rests_52 : decode cX6_rests 52 = .ok (.iload_n 2, 1) := by decide +kernel
theorem dX6_rests_53 : decode cX6_rests 53 = .ok (.iload 9, 2) := by decide +kernel
theorem dX6_rests_55 : decode cX6_rests 55 = .ok (.invokevirtual 205, 3) := by decide +kernel
theorem dX6_rests_58 : decode cX6_rests 58 = .ok (.ifCond .eq 64, 3) := by decide +kernel
theorem dX6_rests_61 : decode cX6_rests 61 = .ok (.iinc 4 1, 3) := by decide +kernel
theorem dX6_rests_64 : decode cX6_rests 64 = .ok (.iload 5, 2) := by decide +kernel
theorem dX6_rests_66 : decode cX6_rests 66 = .ok (.bipush (-4), 2) := by decide +kernel
theorem dX6_rests_68 : decode cX6_rests 68 = .ok (.if_icmp .ne 8, 3) := by decide +kernel
theorem dX6_rests_71 : decode cX6_rests 71 = .ok (.iload 9, 2) := by decide +kernel
theorem dX6_rests_73 : decode cX6_rests 73 = .ok (.goto 5, 3) := by decide +kernel
theorem dX6_rests_76 : decode cX6_rests 76 = .ok (.iload 5, 2) := by decide +kernel
theorem dX6_rests_78 : decode cX6_rests 78 = .ok (.istore 5, 2) := by decide +kernel
theorem dX6_rests_80 : decode cX6_rests 80 = .ok (.iload 9, 2) := by decide +kernel
theorem dX6_rests_82 : decode cX6_rests 82 = .ok (.istore 6, 2) := by decide +kernel
theorem dX6_rests_84 : decode cX6_rests 84 = .ok (.aload_n 0, 1) := by decide +kernel
theorem dX6_rests_85 : decode cX6_rests 85 = .ok (.getfield 164, 3) := by decide +kernel
theorem dX6_rests_88 : decode cX6_rests 88 = .ok (.iload 8, 2) := by decide +kernel
theorem dX6_rests_90 : decode cX6_rests 90 = .ok (.if_icmp .le 8, 3) := by decide +kernel
theorem dX6_rests_93 : decode cX6_rests 93 = .ok (.iload 9, 2) := by decide +kernel
theorem dX6_rests_95 : decode cX6_rests 95 = .ok (.goto 5, 3) := by decide +kernel
theorem dX6_rests_98 : decode cX6_rests 98 = .ok (.iload 7, 2) := by decide +kernel
theorem dX6_rests_100 : decode cX6_rests 100 = .ok (.istore 7, 2) := by decide +kernel
theorem dX6_rests_102 : decode cX6_rests 102 = .ok (.aload_n 0, 1) := by decide +kernel
theorem dX6_rests_103 : decode cX6_rests 103 = .ok (.getfield 164, 3) := by decide +kernel
theorem dX6_rests_106 : decode cX6_rests 106 = .ok (.iload 8, 2) := by decide +kernel
theorem dX6_rests_108 : decode cX6_rests 108 = .ok (.if_icmp .le 10, 3) := by decide +kernel
theorem dX6_rests_111 : decode cX6_rests 111 = .ok (.aload_n 0, 1) := by decide +kernel
theorem dX6_rests_112 : decode cX6_rests 112 = .ok (.getfield 164, 3) := by decide +kernel
theorem dX6_rests_115 : decode cX6_rests 115 = .ok (.goto 5, 3) := by decide +kernel
theorem dX6_rests_118 : decode cX6_rests 118 = .ok (.iload 8, 2) := by decide +kernel
theorem dX6_rests_120 : decode cX6_rests 120 = .ok (.istore 8, 2) := by decide +kernel
theorem dX6_rests_122 : decode cX6_rests 122 = .ok (.iinc 9 1, 3) := by decide +kernel
theorem dX6_rests_125 : decode cX6_rests 125 = .ok (.goto (-82), 3) := by decide +kernel
theorem dX6_rests_128 : decode cX6_rests 128 = .ok (.iload_n 3, 1) := by decide +kernel
theorem dX6_rests_129 : decode cX6_rests 129 = .ok (.ifCond .ne 8, 3) := by decide +kernel
theorem dX6_rests_132 : decode cX6_rests 132 = .ok (.iload 4, 2) := by decide +kernel
theorem dX6_rests_134 : decode cX6_rests 134 = .ok (.goto 25, 3) := by decide +kernel
theorem dX6_rests_137 : decode cX6_rests 137 = .ok (.iload_n 3, 1) := by decide +kernel
theorem dX6_rests_138 : decode cX6_rests 138 = .ok (.iconst 1, 1) := by decide +kernel
theorem dX6_rests_139 : decode cX6_rests 139 = .ok (.if_icmp .ne 8, 3) := by decide +kernel
theorem dX6_rests_142 : decode cX6_rests 142 = .ok (.iload 5, 2) := by decide +kernel
theorem dX6_rests_144 : decode cX6_rests 144 = .ok (.goto 15, 3) := by decide +kernel
theorem dX6_rests_147 : decode cX6_rests 147 = .ok (.iload_n 3, 1) := by decide +kernel
theorem dX6_rests_148 : decode cX6_rests 148 = .ok (.iconst 2, 1) := by decide +kernel
theorem dX6_rests_149 : decode cX6_rests 149 = .ok (.if_icmp .ne 8, 3) := by decide +kernel
theorem dX6_rests_152 : decode cX6_rests 152 = .ok (.iload 6, 2) := by decide +kernel
theorem dX6_rests_154 : decode cX6_rests 154 = .ok (.goto 5, 3) := by decide +kernel
theorem dX6_rests_157 : decode cX6_rests 157 = .ok (.iload 7, 2) := by decide +kernel
theorem dX6_rests_159 : decode cX6_rests 159 = .ok (.ireturn, 1) := by decide +kernel
theorem dX6_fall_0 : decode cX6_fall 0 = .ok (.iload_n 1, 1) := by decide +kernel
theorem dX6_fall_1 : decode cX6_fall 1 = .ok (.iload_n 2, 1) := by decide +kernel
theorem dX6_fall_2 : decode cX6_fall 2 = .ok (.invokestatic 186, 3) := by decide +kernel
theorem dX6_fall_5 : decode cX6_fall 5 = .ok (.ifCond .eq 36, 3) := by decide +kernel
theorem dX6_fall_8 : decode cX6_fall 8 = .ok (.iload_n 3, 1) := by decide +kernel
theorem dX6_fall_9 : decode cX6_fall 9 = .ok (.invokestatic 190, 3) := by decide +kernel
theorem dX6_fall_12 : decode cX6_fall 12 = .ok (.ifCond .eq 29, 3) := by decide +kernel
theorem dX6_fall_15 : decode cX6_fall 15 = .ok (.iload 4, 2) := by decide +kernel
theorem dX6_fall_17 : decode cX6_fall 17 = .ok (.i2l, 1) := by decide +kernel
theorem dX6_fall_18 : decode cX6_fall 18 = .ok (.lconst 0, 1) := by decide +kernel
theorem dX6_fall_19 : decode cX6_fall 19 = .ok (.lconst 1, 1) := by decide +kernel
theorem dX6_fall_20 : decode cX6_fall 20 = .ok (.invokestatic 53, 3) := by decide +kernel
theorem dX6_fall_23 : decode cX6_fall 23 = .ok (.ifCond .ne 20, 3) := by decide +kernel
theorem dX6_fall_26 : decode cX6_fall 26 = .ok (.iload 4, 2) := by decide +kernel
theorem dX6_fall_28 : decode cX6_fall 28 = .ok (.i2l, 1) := by decide +kernel
theorem dX6_fall_29 : decode cX6_fall 29 = .ok (.ldc2_w 130, 3) := by decide +kernel
theorem dX6_fall_32 : decode cX6_fall 32 = .ok (.ldc2_w 128, 3) := by decide +kernel
theorem dX6_fall_35 : decode cX6_fall 35 = .ok (.invokestatic 53, 3) := by decide +kernel
theorem dX6_fall_38 : decode cX6_fall 38 = .ok (.ifCond .ne 5, 3) := by decide +kernel
theorem dX6_fall_41 : decode cX6_fall 41 = .ok (.iconst (-1), 1) := by decide +kernel
theorem dX6_fall_42 : decode cX6_fall 42 = .ok (.ireturn, 1) := by decide +kernel
theorem dX6_fall_43 : decode cX6_fall 43 = .ok (.iload_n 3, 1) := by decide +kernel
theorem dX6_fall_44 : decode cX6_fall 44 = .ok (.istore 5, 2) := by decide +kernel
theorem dX6_fall_46 : decode cX6_fall 46 = .ok (.iconst 0, 1) := by decide +kernel
theorem dX6_fall_47 : decode cX6_fall 47 = .ok (.istore 6, 2) := by decide +kernel
theorem dX6_fall_49 : decode cX6_fall 49 = .ok (.iload 4, 2) := by decide +kernel
theorem dX6_fall_51 : decode cX6_fall 51 = .ok (.bipush 10, 2) := by decide +kernel
theorem dX6_fall_53 : decode cX6_fall 53 = .ok (.if_icmp .ne 7, 3) := by decide +kernel
theorem dX6_fall_56 : decode cX6_fall 56 = .ok (.iload_n 3, 1) := by decide +kernel
theorem dX6_fall_57 : decode cX6_fall 57 = .ok (.goto 5, 3) := by decide +kernel
theorem dX6_fall_60 : decode cX6_fall 60 = .ok (.bipush (-4), 2) := by decide +kernel
theorem dX6_fall_62 : decode cX6_fall 62 = .ok (.istore 7, 2) := by decide +kernel
theorem dX6_fall_64 : decode cX6_fall 64 = .ok (.aload_n 0, 1) := by decide +kernel
theorem dX6_fall_65 : decode cX6_fall 65 = .ok (.iload_n 1, 1) := by decide +kernel
theorem dX6_fall_66 : decode cX6_fall 66 = .ok (.iload_n 2, 1) := by decide +kernel
theorem dX6_fall_67 : decode cX6_fall 67 = .ok (.iload 5, 2) := by decide +kernel
theorem dX6_fall_69 : decode cX6_fall 69 = .ok (.invokevirtual 205, 3) := by decide +kernel
theorem dX6_fall_72 : decode cX6_fall 72 = .ok (.ifCond .ne 14, 3) := by decide +kernel
theorem dX6_fall_75 : decode cX6_fall 75 = .ok (.aload_n 0, 1) := by decide +kernel
theorem dX6_fall_76 : decode cX6_fall 76 = .ok (.getfield 164, 3) := by decide +kernel
theorem dX6_fall_79 : decode cX6_fall 79 = .ok (.ifCond .le 7, 3) := by decide +kernel
theorem dX6_fall_82 : decode cX6_fall 82 = .ok (.iconst 1, 1) := by decide +kernel
theorem dX6_fall_83 : decode cX6_fall 83 = .ok (.goto 4, 3) := by decide +kernel
theorem dX6_fall_86 : decode cX6_fall 86 = .ok (.iconst 0, 1) := by decide +kernel
theorem dX6_fall_87 : decode cX6_fall 87 = .ok (.istore 8, 2) := by decide +kernel
theorem dX6_fall_89 : decode cX6_fall 89 = .ok (.iload 8, 2) := by decide +kernel
theorem dX6_fall_91 : decode cX6_fall 91 = .ok (.ifCond .eq 99, 3) := by decide +kernel
theorem dX6_fall_94 : decode cX6_fall 94 = .ok (.aload_n 0, 1) := by decide +kernel
theorem dX6_fall_95 : decode cX6_fall 95 = .ok (.getfield 167, 3) := by decide +kernel
theorem dX6_fall_98 : decode cX6_fall 98 = .ok (.lconst 0, 1) := by decide +kernel
theorem dX6_fall_99 : decode cX6_fall 99 = .ok (.lcmp, 1) := by decide +kernel
theorem dX6_fall_100 : decode cX6_fall 100 = .ok (.ifCond .ge 7, 3) := by decide +kernel
theorem dX6_fall_103 : decode cX6_fall 103 = .ok (.iconst 0, 1) := by decide +kernel
theorem dX6_fall_104 : decode cX6_fall 104 = .ok (.goto 13, 3) := by decide +kernel
theorem dX6_fall_107 : decode cX6_fall 107 = .ok (.aload_n 0, 1) := by decide +kernel
theorem dX6_fall_108 : decode cX6_fall 108 = .ok (.getfield 167, 3) := by decide +kernel
theorem dX6_fall_111 : decode cX6_fall 111 = .ok (.aload_n 0, 1) := by decide +kernel
theorem dX6_fall_112 : decode cX6_fall 112 = .ok (.getfield 183, 3) := by decide +kernel
theorem dX6_fall_115 : decode cX6_fall 115 = .ok (.ldiv, 1) := by decide +kernel
theorem dX6_fall_116 : decode cX6_fall 116 = .ok (.l2i, 1) := by decide +kernel
theorem dX6_fall_117 : decode cX6_fall 117 = .ok (.istore 9, 2) := by decide +kernel
theorem dX6_fall_119 : decode cX6_fall 119 = .ok (.iload 5, 2) := by decide +kernel
theorem dX6_fall_121 : decode cX6_fall 121 = .ok (.ifCond .le 7, 3) := by decide +kernel
theorem dX6_fall_124 : decode cX6_fall 124 = .ok (.iconst 1, 1) := by decide +kernel
theorem dX6_fall_125 : decode cX6_fall 125 = .ok (.goto 4, 3) := by decide +kernel
theorem dX6_fall_128 : decode cX6_fall 128 = .ok (.iconst 0, 1) := by decide +kernel
theorem dX6_fall_129 : decode cX6_fall 129 = .ok (.istore 8, 2) := by decide +kernel
theorem dX6_fall_131 : decode cX6_fall 131 = .ok (.iload 8, 2) := by decide +kernel
theorem dX6_fall_133 : decode cX6_fall 133 = .ok (.ifCond .eq 54, 3) := by decide +kernel
theorem dX6_fall_136 : decode cX6_fall 136 = .ok (.iload 9, 2) := by decide +kernel
theorem dX6_fall_138 : decode cX6_fall 138 = .ok (.istore 5, 2) := by decide +kernel
theorem dX6_fall_140 : decode cX6_fall 140 = .ok (.iinc 6 1, 3) := by decide +kernel
theorem dX6_fall_143 : decode cX6_fall 143 = .ok (.iload 6, 2) := by decide +kernel
theorem dX6_fall_145 : decode cX6_fall 145 = .ok (.iload 4, 2) := by decide +kernel
theorem dX6_fall_147 : decode cX6_fall 147 = .ok (.bipush 10, 2) := by decide +kernel
theorem dX6_fall_149 : decode cX6_fall 149 = .ok (.isub, 1) := by decide +kernel
theorem dX6_fall_150 : decode cX6_fall 150 = .ok (.if_icmp .ne 8, 3) := by decide +kernel
theorem dX6_fall_153 : decode cX6_fall 153 = .ok (.iload 5, 2) := by decide +kernel
theorem dX6_fall_155 : decode cX6_fall 155 = .ok (.goto 5, 3) := by decide +kernel
theorem dX6_fall_158 : decode cX6_fall 158 = .ok (.iload 7, 2) := by decide +kernel
theorem dX6_fall_160 : decode cX6_fall 160 = .ok (.istore 7, 2) := by decide +kernel
theorem dX6_fall_162 : decode cX6_fall 162 = .ok (.aload_n 0, 1) := by decide +kernel
theorem dX6_fall_163 : decode cX6_fall 163 = .ok (.iload_n 1, 1) := by decide +kernel
theorem dX6_fall_164 : decode cX6_fall 164 = .ok (.iload_n 2, 1) := by decide +kernel
theorem dX6_fall_165 : decode cX6_fall 165 = .ok (.iload 5, 2) := by decide +kernel
theorem dX6_fall_167 : decode cX6_fall 167 = .ok (.invokevirtual 205, 3) := by decide +kernel
theorem dX6_fall_170 : decode cX6_fall 170 = .ok (.ifCond .ne 14, 3) := by decide +kernel
theorem dX6_fall_173 : decode cX6_fall 173 = .ok (.aload_n 0, 1) := by decide +kernel
theorem dX6_fall_174 : decode cX6_fall 174 = .ok (.getfield 164, 3) := by decide +kernel
theorem dX6_fall_177 : decode cX6_fall 177 = .ok (.ifCond .le 7, 3) := by decide +kernel
theorem dX6_fall_180 : decode cX6_fall 180 = .ok (.iconst 1, 1) := by decide +kernel
theorem dX6_fall_181 : decode cX6_fall 181 = .ok (.goto 4, 3) := by decide +kernel
theorem dX6_fall_184 : decode cX6_fall 184 = .ok (.iconst 0, 1) := by decide +kernel
theorem dX6_fall_185 : decode cX6_fall 185 = .ok (.istore 8, 2) := by decide +kernel
theorem dX6_fall_187 : decode cX6_fall 187 = .ok (.goto (-98), 3) := by decide +kernel
theorem dX6_fall_190 : decode cX6_fall 190 = .ok (.iload 4, 2) := by decide +kernel
theorem dX6_fall_192 : decode cX6_fall 192 = .ok (.iconst 1, 1) := by decide +kernel
theorem dX6_fall_193 : decode cX6_fall 193 = .ok (.if_icmp .ne 8, 3) := by decide +kernel
theorem dX6_fall_196 : decode cX6_fall 196 = .ok (.iload 6, 2) := by decide +kernel
theorem dX6_fall_198 : decode cX6_fall 198 = .ok (.goto 44, 3) := by decide +kernel
theorem dX6_fall_201 : decode cX6_fall 201 = .ok (.iload 4, 2) := by decide +kernel
theorem dX6_fall_203 : decode cX6_fall 203 = .ok (.iconst 1, 1) := by decide +kernel
theorem dX6_fall_204 : decode cX6_fall 204 = .ok (.if_icmp .le 8, 3) := by decide +kernel
theorem dX6_fall_207 : decode cX6_fall 207 = .ok (.iload 7, 2) := by decide +kernel
theorem dX6_fall_209 : decode cX6_fall 209 = .ok (.goto 33, 3) := by decide +kernel
theorem dX6_fall_212 : decode cX6_fall 212 = .ok (.aload_n 0, 1) := by decide +kernel
theorem dX6_fall_213 : decode cX6_fall 213 = .ok (.getfield 164, 3) := by decide +kernel
theorem dX6_fall_216 : decode cX6_fall 216 = .ok (.ifCond .eq 19, 3) := by decide +kernel
theorem dX6_fall_219 : decode cX6_fall 219 = .ok (.aload_n 0, 1) := by decide +kernel
theorem dX6_fall_220 : decode cX6_fall 220 = .ok (.getfield 167, 3) := by decide +kernel
theorem dX6_fall_223 : decode cX6_fall 223 = .ok (.iload 5, 2) := by decide +kernel
theorem dX6_fall_225 : decode cX6_fall 225 = .ok (.i2l, 1) := by decide +kernel
theorem dX6_fall_226 : decode cX6_fall 226 = .ok (.aload_n 0, 1) := by decide +kernel
theorem dX6_fall_227 : decode cX6_fall 227 = .ok (.getfield 183, 3) := by decide +kernel
theorem dX6_fall_230 : decode cX6_fall 230 = .ok (.lmul, 1) := by decide +kernel
theorem dX6_fall_231 : decode cX6_fall 231 = .ok (.lcmp, 1) := by decide +kernel
theorem dX6_fall_232 : decode cX6_fall 232 = .ok (.ifCond .ge 8, 3) := by decide +kernel
theorem dX6_fall_235 : decode cX6_fall 235 = .ok (.bipush (-4), 2) := by decide +kernel
theorem dX6_fall_237 : decode cX6_fall 237 = .ok (.goto 5, 3) := by decide +kernel
theorem dX6_fall_240 : decode cX6_fall 240 = .ok (.iload 5, 2) := by decide +kernel
theorem dX6_fall_242 : decode cX6_fall 242 = .ok (.ireturn, 1) := by decide +kernel
theorem dX6_gain_0 : decode cX6_gain 0 = .ok (.iload_n 1, 1) := by decide +kernel
theorem dX6_gain_1 : decode cX6_gain 1 = .ok (.iload_n 2, 1) := by decide +kernel
theorem dX6_gain_2 : decode cX6_gain 2 = .ok (.invokestatic 186, 3) := by decide +kernel
theorem dX6_gain_5 : decode cX6_gain 5 = .ok (.ifCond .eq 10, 3) := by decide +kernel
theorem dX6_gain_8 : decode cX6_gain 8 = .ok (.iload_n 3, 1) := by decide +kernel
theorem dX6_gain_9 : decode cX6_gain 9 = .ok (.invokestatic 190, 3) := by decide +kernel
theorem dX6_gain_12 : decode cX6_gain 12 = .ok (.ifCond .ne 6, 3) := by decide +kernel
theorem dX6_gain_15 : decode cX6_gain 15 = .ok (.ldc 199, 2) := by decide +kernel
theorem dX6_gain_17 : decode cX6_gain 17 = .ok (.ireturn, 1) := by decide +kernel
theorem dX6_gain_18 : decode cX6_gain 18 = .ok (.aload_n 0, 1) := by decide +kernel
theorem dX6_gain_19 : decode cX6_gain 19 = .ok (.iload_n 1, 1) := by decide +kernel
theorem dX6_gain_20 : decode cX6_gain 20 = .ok (.iload_n 2, 1) := by decide +kernel
theorem dX6_gain_21 : decode cX6_gain 21 = .ok (.iload_n 3, 1) := by decide +kernel
theorem dX6_gain_22 : decode cX6_gain 22 = .ok (.invokevirtual 195, 3) := by decide +kernel
theorem dX6_gain_25 : decode cX6_gain 25 = .ok (.aload_n 0, 1) := by decide +kernel
theorem dX6_gain_26 : decode cX6_gain 26 = .ok (.getfield 171, 3) := by decide +kernel
theorem dX6_gain_29 : decode cX6_gain 29 = .ok (.l2i, 1) := by decide +kernel
theorem dX6_gain_30 : decode cX6_gain 30 = .ok (.ireturn, 1) := by decide +kernel
theorem dX6_lost_0 : decode cX6_lost 0 = .ok (.iload_n 1, 1) := by decide +kernel
theorem dX6_lost_1 : decode cX6_lost 1 = .ok (.iload_n 2, 1) := by decide +kernel
theorem dX6_lost_2 : decode cX6_lost 2 = .ok (.invokestatic 186, 3) := by decide +kernel
theorem dX6_lost_5 : decode cX6_lost 5 = .ok (.ifCond .eq 10, 3) := by decide +kernel
theorem dX6_lost_8 : decode cX6_lost 8 = .ok (.iload_n 3, 1) := by decide +kernel
theorem dX6_lost_9 : decode cX6_lost 9 = .ok (.invokestatic 190, 3) := by decide +kernel
theorem dX6_lost_12 : decode cX6_lost 12 = .ok (.ifCond .ne 5, 3) := by decide +kernel
theorem dX6_lost_15 : decode cX6_lost 15 = .ok (.iconst (-1), 1) := by decide +kernel
theorem dX6_lost_16 : decode cX6_lost 16 = .ok (.ireturn, 1) := by decide +kernel
theorem dX6_lost_17 : decode cX6_lost 17 = .ok (.aload_n 0, 1) := by decide +kernel
theorem dX6_lost_18 : decode cX6_lost 18 = .ok (.iload_n 1, 1) := by decide +kernel
theorem dX6_lost_19 : decode cX6_lost 19 = .ok (.iload_n 2, 1) := by decide +kernel
theorem dX6_lost_20 : decode cX6_lost 20 = .ok (.iload_n 3, 1) := by decide +kernel
theorem dX6_lost_21 : decode cX6_lost 21 = .ok (.invokevirtual 195, 3) := by decide +kernel
theorem dX6_lost_24 : decode cX6_lost 24 = .ok (.iconst 0, 1) := by decide +kernel
theorem dX6_lost_25 : decode cX6_lost 25 = .ok (.istore 4, 2) := by decide +kernel
theorem dX6_lost_27 : decode cX6_lost 27 = .ok (.iconst 0, 1) := by decide +kernel
theorem dX6_lost_28 : decode cX6_lost 28 = .ok (.istore 5, 2) := by decide +kernel
theorem dX6_lost_30 : decode cX6_lost 30 = .ok (.iload 5, 2) := by decide +kernel
theorem dX6_lost_32 : decode cX6_lost 32 = .ok (.aload_n 0, 1) := by decide +kernel
theorem dX6_lost_33 : decode cX6_lost 33 = .ok (.getfield 123, 3) := by decide +kernel
theorem dX6_lost_36 : decode cX6_lost 36 = .ok (.if_icmp .ge 62, 3) := by decide +kernel
theorem dX6_lost_39 : decode cX6_lost 39 = .ok (.aload_n 0, 1) := by decide +kernel
theorem dX6_lost_40 : decode cX6_lost 40 = .ok (.iload 5, 2) := by decide +kernel
theorem dX6_lost_42 : decode cX6_lost 42 = .ok (.iconst 2, 1) := by decide +kernel
theorem dX6_lost_43 : decode cX6_lost 43 = .ok (.invokevirtual 142, 3) := by decide +kernel
theorem dX6_lost_46 : decode cX6_lost 46 = .ok (.aload_n 0, 1) := by decide +kernel
theorem dX6_lost_47 : decode cX6_lost 47 = .ok (.iload 5, 2) := by decide +kernel
theorem dX6_lost_49 : decode cX6_lost 49 = .ok (.iconst 1, 1) := by decide +kernel
theorem dX6_lost_50 : decode cX6_lost 50 = .ok (.invokevirtual 142, 3) := by decide +kernel
theorem dX6_lost_53 : decode cX6_lost 53 = .ok (.isub, 1) := by decide +kernel
theorem dX6_lost_54 : decode cX6_lost 54 = .ok (.istore 6, 2) := by decide +kernel
theorem dX6_lost_56 : decode cX6_lost 56 = .ok (.iload 4, 2) := by decide +kernel
theorem dX6_lost_58 : decode cX6_lost 58 = .ok (.iload 6, 2) := by decide +kernel
theorem dX6_lost_60 : decode cX6_lost 60 = .ok (.ifCond .le 28, 3) := by decide +kernel
theorem dX6_lost_63 : decode cX6_lost 63 = .ok (.sipush 800, 3) := by decide +kernel
theorem dX6_lost_66 : decode cX6_lost 66 = .ok (.aload_n 0, 1) := by decide +kernel
theorem dX6_lost_67 : decode cX6_lost 67 = .ok (.iload 5, 2) := by decide +kernel
theorem dX6_lost_69 : decode cX6_lost 69 = .ok (.iconst 0, 1) := by decide +kernel
theorem dX6_lost_70 : decode cX6_lost 70 = .ok (.invokevirtual 142, 3) := by decide +kernel
theorem dX6_lost_73 : decode cX6_lost 73 = .ok (.imul, 1) := by decide +kernel
theorem dX6_lost_74 : decode cX6_lost 74 = .ok (.aload_n 0, 1) := by decide +kernel
theorem dX6_lost_75 : decode cX6_lost 75 = .ok (.getfield 38, 3) := by decide +kernel
theorem dX6_lost_78 : decode cX6_lost 78 = .ok (.iload 5, 2) := by decide +kernel
theorem dX6_lost_80 : decode cX6_lost 80 = .ok (.iaload, 1) := by decide +kernel
theorem dX6_lost_81 : decode cX6_lost 81 = .ok (.isub, 1) := by decide +kernel
theorem dX6_lost_82 : decode cX6_lost 82 = .ok (.iload 6, 2) := by decide +kernel
theorem dX6_lost_84 : decode cX6_lost 84 = .ok (.imul, 1) := by decide +kernel
theorem dX6_lost_85 : decode cX6_lost 85 = .ok (.goto 4, 3) := by decide +kernel
theorem dX6_lost_88 : decode cX6_lost 88 = .ok (.iconst 0, 1) := by decide +kernel
theorem dX6_lost_89 : decode cX6_lost 89 = .ok (.iadd, 1) := by decide +kernel
theorem dX6_lost_90 : decode cX6_lost 90 = .ok (.istore 4, 2) := by decide +kernel
theorem dX6_lost_92 : decode cX6_lost 92 = .ok (.iinc 5 1, 3) := by decide +kernel
theorem dX6_lost_95 : decode cX6_lost 95 = .ok (.goto (-65), 3) := by decide +kernel
theorem dX6_lost_98 : decode cX6_lost 98 = .ok (.iload 4, 2) := by decide +kernel
theorem dX6_lost_100 : decode cX6_lost 100 = .ok (.ireturn, 1) := by decide +kernel
theorem dX6_layBest_0 : decode cX6_layBest 0 = .ok (.aload_n 0, 1) := by decide +kernel
theorem dX6_layBest_1 : decode cX6_layBest 1 = .ok (.bipush (-4), 2) := by decide +kernel
theorem dX6_layBest_3 : decode cX6_layBest 3 = .ok (.putfield 209, 3) := by decide +kernel
theorem dX6_layBest_6 : decode cX6_layBest 6 = .ok (.aload_n 0, 1) := by decide +kernel
theorem dX6_layBest_7 : decode cX6_layBest 7 = .ok (.lconst 0, 1) := by decide +kernel
theorem dX6_layBest_8 : decode cX6_layBest 8 = .ok (.putfield 212, 3) := by decide +kernel
theorem dX6_layBest_11 : decode cX6_layBest 11 = .ok (.iconst 0, 1) := by decide +kernel
theorem dX6_layBest_12 : decode cX6_layBest 12 = .ok (.istore_n 3, 1) := by decide +kernel
theorem dX6_layBest_13 : decode cX6_layBest 13 = .ok (.iload_n 3, 1) := by decide +kernel
theorem dX6_layBest_14 : decode cX6_layBest 14 = .ok (.bipush 100, 2) := by decide +kernel
theorem dX6_layBest_16 : decode cX6_layBest 16 = .ok (.if_icmp .ge 53, 3) := by decide +kernel
theorem dX6_layBest_19 : decode cX6_layBest 19 = .ok (.aload_n 0, 1) := by decide +kernel
theorem dX6_layBest_20 : decode cX6_layBest 20 = .ok (.iload_n 1, 1) := by decide +kernel
theorem dX6_layBest_21 : decode cX6_layBest 21 = .ok (.iload_n 2, 1) := by decide +kernel
theorem dX6_layBest_22 : decode cX6_layBest 22 = .ok (.iload_n 3, 1) := by decide +kernel
theorem dX6_layBest_23 : decode cX6_layBest 23 = .ok (.invokevirtual 205, 3) := by decide +kernel
theorem dX6_layBest_26 : decode cX6_layBest 26 = .ok (.ifCond .eq 37, 3) := by decide +kernel
theorem dX6_layBest_29 : decode cX6_layBest 29 = .ok (.aload_n 0, 1) := by decide +kernel
theorem dX6_layBest_30 : decode cX6_layBest 30 = .ok (.getfield 209, 3) := by decide +kernel
theorem dX6_layBest_33 : decode cX6_layBest 33 = .ok (.bipush (-4), 2) := by decide +kernel
theorem dX6_layBest_35 : decode cX6_layBest 35 = .ok (.if_icmp .eq 15, 3) := by decide +kernel
theorem dX6_layBest_38 : decode cX6_layBest 38 = .ok (.aload_n 0, 1) := by decide +kernel
theorem dX6_layBest_39 : decode cX6_layBest 39 = .ok (.getfield 171, 3) := by decide +kernel
theorem dX6_layBest_42 : decode cX6_layBest 42 = .ok (.aload_n 0, 1) := by decide +kernel
theorem dX6_layBest_43 : decode cX6_layBest 43 = .ok (.getfield 212, 3) := by decide +kernel
theorem dX6_layBest_46 : decode cX6_layBest 46 = .ok (.lcmp, 1) := by decide +kernel
theorem dX6_layBest_47 : decode cX6_layBest 47 = .ok (.ifCond .le 16, 3) := by decide +kernel
theorem dX6_layBest_50 : decode cX6_layBest 50 = .ok (.aload_n 0, 1) := by decide +kernel
theorem dX6_layBest_51 : decode cX6_layBest 51 = .ok (.iload_n 3, 1) := by decide +kernel
theorem dX6_layBest_52 : decode cX6_layBest 52 = .ok (.putfield 209, 3) := by decide +kernel
theorem dX6_layBest_55 : decode cX6_layBest 55 = .ok (.aload_n 0, 1) := by decide +kernel
theorem dX6_layBest_56 : decode cX6_layBest 56 = .ok (.aload_n 0, 1) := by decide +kernel
theorem dX6_layBest_57 : decode cX6_layBest 57 = .ok (.getfield 171, 3) := by decide +kernel
theorem dX6_layBest_60 : decode cX6_layBest 60 = .ok (.putfield 212, 3) := by decide +kernel
theorem dX6_layBest_63 : decode cX6_layBest 63 = .ok (.iinc 3 1, 3) := by decide +kernel
theorem dX6_layBest_66 : decode cX6_layBest 66 = .ok (.goto (-53), 3) := by decide +kernel
theorem dX6_layBest_69 : decode cX6_layBest 69 = .ok (.aload_n 0, 1) := by decide +kernel
theorem dX6_layBest_70 : decode cX6_layBest 70 = .ok (.getfield 209, 3) := by decide +kernel
theorem dX6_layBest_73 : decode cX6_layBest 73 = .ok (.bipush (-4), 2) := by decide +kernel
theorem dX6_layBest_75 : decode cX6_layBest 75 = .ok (.if_icmp .eq 7, 3) := by decide +kernel
theorem dX6_layBest_78 : decode cX6_layBest 78 = .ok (.iconst 1, 1) := by decide +kernel
theorem dX6_layBest_79 : decode cX6_layBest 79 = .ok (.goto 4, 3) := by decide +kernel
theorem dX6_layBest_82 : decode cX6_layBest 82 = .ok (.iconst 0, 1) := by decide +kernel
theorem dX6_layBest_83 : decode cX6_layBest 83 = .ok (.ireturn, 1) := by decide +kernel
theorem dX6_best_0 : decode cX6_best 0 = .ok (.iload_n 1, 1) := by decide +kernel
theorem dX6_best_1 : decode cX6_best 1 = .ok (.iload_n 2, 1) := by decide +kernel
theorem dX6_best_2 : decode cX6_best 2 = .ok (.invokestatic 186, 3) := by decide +kernel
theorem dX6_best_5 : decode cX6_best 5 = .ok (.ifCond .eq 13, 3) := by decide +kernel
theorem dX6_best_8 : decode cX6_best 8 = .ok (.iload_n 3, 1) := by decide +kernel
theorem dX6_best_9 : decode cX6_best 9 = .ok (.i2l, 1) := by decide +kernel
theorem dX6_best_10 : decode cX6_best 10 = .ok (.lconst 0, 1) := by decide +kernel
theorem dX6_best_11 : decode cX6_best 11 = .ok (.lconst 1, 1) := by decide +kernel
theorem dX6_best_12 : decode cX6_best 12 = .ok (.invokestatic 53, 3) := by decide +kernel
theorem dX6_best_15 : decode cX6_best 15 = .ok (.ifCond .ne 6, 3) := by decide +kernel
theorem dX6_best_18 : decode cX6_best 18 = .ok (.ldc 199, 2) := by decide +kernel
theorem dX6_best_20 : decode cX6_best 20 = .ok (.ireturn, 1) := by decide +kernel
theorem dX6_best_21 : decode cX6_best 21 = .ok (.aload_n 0, 1) := by decide +kernel
theorem dX6_best_22 : decode cX6_best 22 = .ok (.iload_n 1, 1) := by decide +kernel
theorem dX6_best_23 : decode cX6_best 23 = .ok (.iload_n 2, 1) := by decide +kernel
theorem dX6_best_24 : decode cX6_best 24 = .ok (.invokevirtual 215, 3) := by decide +kernel
theorem dX6_best_27 : decode cX6_best 27 = .ok (.ifCond .ne 8, 3) := by decide +kernel
theorem dX6_best_30 : decode cX6_best 30 = .ok (.ldc 200, 2) := by decide +kernel
theorem dX6_best_32 : decode cX6_best 32 = .ok (.goto 19, 3) := by decide +kernel
theorem dX6_best_35 : decode cX6_best 35 = .ok (.iload_n 3, 1) := by decide +kernel
theorem dX6_best_36 : decode cX6_best 36 = .ok (.ifCond .ne 10, 3) := by decide +kernel
theorem dX6_best_39 : decode cX6_best 39 = .ok (.aload_n 0, 1) := by decide +kernel
theorem dX6_best_40 : decode cX6_best 40 = .ok (.getfield 209, 3) := by decide +kernel
theorem dX6_best_43 : decode cX6_best 43 = .ok (.goto 8, 3) := by decide +kernel
theorem dX6_best_46 : decode cX6_best 46 = .ok (.aload_n 0, 1) := by decide +kernel
theorem dX6_best_47 : decode cX6_best 47 = .ok (.getfield 212, 3) := by decide +kernel
theorem dX6_best_50 : decode cX6_best 50 = .ok (.l2i, 1) := by decide +kernel
theorem dX6_best_51 : decode cX6_best 51 = .ok (.ireturn, 1) := by decide +kernel
theorem dX6_all_0 : decode cX6_all 0 = .ok (.iconst 0, 1) := by decide +kernel
theorem dX6_all_1 : decode cX6_all 1 = .ok (.istore_n 1, 1) := by decide +kernel
theorem dX6_all_2 : decode cX6_all 2 = .ok (.iconst 0, 1) := by decide +kernel
theorem dX6_all_3 : decode cX6_all 3 = .ok (.istore_n 2, 1) := by decide +kernel
theorem dX6_all_4 : decode cX6_all 4 = .ok (.iload_n 2, 1) := by decide +kernel
theorem dX6_all_5 : decode cX6_all 5 = .ok (.aload_n 0, 1) := by decide +kernel
theorem dX6_all_6 : decode cX6_all 6 = .ok (.getfield 123, 3) := by decide +kernel
theorem dX6_all_9 : decode cX6_all 9 = .ok (.if_icmp .ge 46, 3) := by decide +kernel
theorem dX6_all_12 : decode cX6_all 12 = .ok (.aload_n 0, 1) := by decide +kernel
theorem dX6_all_13 : decode cX6_all 13 = .ok (.iload_n 2, 1) := by decide +kernel
theorem dX6_all_14 : decode cX6_all 14 = .ok (.iconst 2, 1) := by decide +kernel
theorem dX6_all_15 : decode cX6_all 15 = .ok (.invokevirtual 142, 3) := by decide +kernel
theorem dX6_all_18 : decode cX6_all 18 = .ok (.aload_n 0, 1) := by decide +kernel
theorem dX6_all_19 : decode cX6_all 19 = .ok (.iload_n 2, 1) := by decide +kernel
theorem dX6_all_20 : decode cX6_all 20 = .ok (.iconst 1, 1) := by decide +kernel
theorem dX6_all_21 : decode cX6_all 21 = .ok (.invokevirtual 142, 3) := by decide +kernel
theorem dX6_all_24 : decode cX6_all 24 = .ok (.isub, 1) := by decide +kernel
theorem dX6_all_25 : decode cX6_all 25 = .ok (.istore_n 3, 1) := by decide +kernel
theorem dX6_all_26 : decode cX6_all 26 = .ok (.iload_n 1, 1) := by decide +kernel
theorem dX6_all_27 : decode cX6_all 27 = .ok (.iload_n 3, 1) := by decide +kernel
theorem dX6_all_28 : decode cX6_all 28 = .ok (.ifCond .le 18, 3) := by decide +kernel
theorem dX6_all_31 : decode cX6_all 31 = .ok (.sipush 800, 3) := by decide +kernel
theorem dX6_all_34 : decode cX6_all 34 = .ok (.aload_n 0, 1) := by decide +kernel
theorem dX6_all_35 : decode cX6_all 35 = .ok (.iload_n 2, 1) := by decide +kernel
theorem dX6_all_36 : decode cX6_all 36 = .ok (.iconst 0, 1) := by decide +kernel
theorem dX6_all_37 : decode cX6_all 37 = .ok (.invokevirtual 142, 3) := by decide +kernel
theorem dX6_all_40 : decode cX6_all 40 = .ok (.imul, 1) := by decide +kernel
theorem dX6_all_41 : decode cX6_all 41 = .ok (.iload_n 3, 1) := by decide +kernel
theorem dX6_all_42 : decode cX6_all 42 = .ok (.imul, 1) := by decide +kernel
theorem dX6_all_43 : decode cX6_all 43 = .ok (.goto 4, 3) := by decide +kernel
theorem dX6_all_46 : decode cX6_all 46 = .ok (.iconst 0, 1) := by decide +kernel
theorem dX6_all_47 : decode cX6_all 47 = .ok (.iadd, 1) := by decide +kernel
theorem dX6_all_48 : decode cX6_all 48 = .ok (.istore_n 1, 1) := by decide +kernel
theorem dX6_all_49 : decode cX6_all 49 = .ok (.iinc 2 1, 3) := by decide +kernel
theorem dX6_all_52 : decode cX6_all 52 = .ok (.goto (-48), 3) := by decide +kernel
theorem dX6_all_55 : decode cX6_all 55 = .ok (.iload_n 1, 1) := by decide +kernel
theorem dX6_all_56 : decode cX6_all 56 = .ok (.ireturn, 1) := by decide +kernel
theorem dX6_part_0 : decode cX6_part 0 = .ok (.iload_n 1, 1) := by decide +kernel
theorem dX6_part_1 : decode cX6_part 1 = .ok (.i2l, 1) := by decide +kernel
theorem dX6_part_2 : decode cX6_part 2 = .ok (.lconst 0, 1) := by decide +kernel
theorem dX6_part_3 : decode cX6_part 3 = .ok (.ldc2_w 218, 3) := by decide +kernel
theorem dX6_part_6 : decode cX6_part 6 = .ok (.invokestatic 53, 3) := by decide +kernel
theorem dX6_part_9 : decode cX6_part 9 = .ok (.ifCond .eq 13, 3) := by decide +kernel
theorem dX6_part_12 : decode cX6_part 12 = .ok (.iload_n 2, 1) := by decide +kernel
theorem dX6_part_13 : decode cX6_part 13 = .ok (.i2l, 1) := by decide +kernel
theorem dX6_part_14 : decode cX6_part 14 = .ok (.lconst 0, 1) := by decide +kernel
theorem dX6_part_15 : decode cX6_part 15 = .ok (.lconst 1, 1) := by decide +kernel
theorem dX6_part_16 : decode cX6_part 16 = .ok (.invokestatic 53, 3) := by decide +kernel
theorem dX6_part_19 : decode cX6_part 19 = .ok (.ifCond .ne 5, 3) := by decide +kernel
theorem dX6_part_22 : decode cX6_part 22 = .ok (.iconst (-1), 1) := by decide +kernel
theorem dX6_part_23 : decode cX6_part 23 = .ok (.ireturn, 1) := by decide +kernel
theorem dX6_part_24 : decode cX6_part 24 = .ok (.iconst 0, 1) := by decide +kernel
theorem dX6_part_25 : decode cX6_part 25 = .ok (.istore_n 3, 1) := by decide +kernel
theorem dX6_part_26 : decode cX6_part 26 = .ok (.iconst 0, 1) := by decide +kernel
theorem dX6_part_27 : decode cX6_part 27 = .ok (.istore 4, 2) := by decide +kernel
theorem dX6_part_29 : decode cX6_part 29 = .ok (.iload 4, 2) := by decide +kernel
theorem dX6_part_31 : decode cX6_part 31 = .ok (.aload_n 0, 1) := by decide +kernel
theorem dX6_part_32 : decode cX6_part 32 = .ok (.getfield 123, 3) := by decide +kernel
theorem dX6_part_35 : decode cX6_part 35 = .ok (.if_icmp .ge 31, 3) := by decide +kernel
theorem dX6_part_38 : decode cX6_part 38 = .ok (.iload_n 3, 1) := by decide +kernel
theorem dX6_part_39 : decode cX6_part 39 = .ok (.aload_n 0, 1) := by decide +kernel
theorem dX6_part_40 : decode cX6_part 40 = .ok (.iload 4, 2) := by decide +kernel
theorem dX6_part_42 : decode cX6_part 42 = .ok (.iconst 3, 1) := by decide +kernel
theorem dX6_part_43 : decode cX6_part 43 = .ok (.invokevirtual 142, 3) := by decide +kernel
theorem dX6_part_46 : decode cX6_part 46 = .ok (.iload_n 1, 1) := by decide +kernel
theorem dX6_part_47 : decode cX6_part 47 = .ok (.if_icmp .gt 10, 3) := by decide +kernel
theorem dX6_part_50 : decode cX6_part 50 = .ok (.iconst 1, 1) := by decide +kernel
theorem dX6_part_51 : decode cX6_part 51 = .ok (.iload 4, 2) := by decide +kernel
theorem dX6_part_53 : decode cX6_part 53 = .ok (.ishl, 1) := by decide +kernel
theorem dX6_part_54 : decode cX6_part 54 = .ok (.goto 4, 3) := by decide +kernel
theorem dX6_part_57 : decode cX6_part 57 = .ok (.iconst 0, 1) := by decide +kernel
theorem dX6_part_58 : decode cX6_part 58 = .ok (.ior, 1) := by decide +kernel
theorem dX6_part_59 : decode cX6_part 59 = .ok (.istore_n 3, 1) := by decide +kernel
theorem dX6_part_60 : decode cX6_part 60 = .ok (.iinc 4 1, 3) := by decide +kernel
theorem dX6_part_63 : decode cX6_part 63 = .ok (.goto (-34), 3) := by decide +kernel
theorem dX6_part_66 : decode cX6_part 66 = .ok (.iconst 0, 1) := by decide +kernel
theorem dX6_part_67 : decode cX6_part 67 = .ok (.istore 4, 2) := by decide +kernel
theorem dX6_part_69 : decode cX6_part 69 = .ok (.iload 4, 2) := by decide +kernel
theorem dX6_part_71 : decode cX6_part 71 = .ok (.bipush 100, 2) := by decide +kernel
theorem dX6_part_73 : decode cX6_part 73 = .ok (.if_icmp .ge 61, 3) := by decide +kernel
theorem dX6_part_76 : decode cX6_part 76 = .ok (.iload_n 3, 1) := by decide +kernel
theorem dX6_part_77 : decode cX6_part 77 = .ok (.ifCond .eq 57, 3) := by decide +kernel
theorem dX6_part_80 : decode cX6_part 80 = .ok (.iconst 0, 1) := by decide +kernel
theorem dX6_part_81 : decode cX6_part 81 = .ok (.istore 5, 2) := by decide +kernel
theorem dX6_part_83 : decode cX6_part 83 = .ok (.iload 5, 2) := by decide +kernel
theorem dX6_part_85 : decode cX6_part 85 = .ok (.bipush 100, 2) := by decide +kernel
theorem dX6_part_87 : decode cX6_part 87 = .ok (.if_icmp .ge 41, 3) := by decide +kernel
theorem dX6_part_90 : decode cX6_part 90 = .ok (.aload_n 0, 1) := by decide +kernel
theorem dX6_part_91 : decode cX6_part 91 = .ok (.iconst 1, 1) := by decide +kernel
theorem dX6_part_92 : decode cX6_part 92 = .ok (.iload 4, 2) := by decide +kernel
theorem dX6_part_94 : decode cX6_part 94 = .ok (.iload 5, 2) := by decide +kernel
theorem dX6_part_96 : decode cX6_part 96 = .ok (.invokevirtual 205, 3) := by decide +kernel
theorem dX6_part_99 : decode cX6_part 99 = .ok (.ifCond .eq 23, 3) := by decide +kernel
theorem dX6_part_102 : decode cX6_part 102 = .ok (.aload_n 0, 1) := by decide +kernel
theorem dX6_part_103 : decode cX6_part 103 = .ok (.getfield 158, 3) := by decide +kernel
theorem dX6_part_106 : decode cX6_part 106 = .ok (.iload_n 3, 1) := by decide +kernel
theorem dX6_part_107 : decode cX6_part 107 = .ok (.if_icmp .ne 15, 3) := by decide +kernel
theorem dX6_part_110 : decode cX6_part 110 = .ok (.iload_n 2, 1) := by decide +kernel
theorem dX6_part_111 : decode cX6_part 111 = .ok (.ifCond .ne 8, 3) := by decide +kernel
theorem dX6_part_114 : decode cX6_part 114 = .ok (.iload 4, 2) := by decide +kernel
theorem dX6_part_116 : decode cX6_part 116 = .ok (.goto 5, 3) := by decide +kernel
theorem dX6_part_119 : decode cX6_part 119 = .ok (.iload 5, 2) := by decide +kernel
theorem dX6_part_121 : decode cX6_part 121 = .ok (.ireturn, 1) := by decide +kernel
theorem dX6_part_122 : decode cX6_part 122 = .ok (.iinc 5 1, 3) := by decide +kernel
theorem dX6_part_125 : decode cX6_part 125 = .ok (.goto (-42), 3) := by decide +kernel
theorem dX6_part_128 : decode cX6_part 128 = .ok (.iinc 4 1, 3) := by decide +kernel
theorem dX6_part_131 : decode cX6_part 131 = .ok (.goto (-62), 3) := by decide +kernel
theorem dX6_part_134 : decode cX6_part 134 = .ok (.bipush (-4), 2) := by decide +kernel
theorem dX6_part_136 : decode cX6_part 136 = .ok (.ireturn, 1) := by decide +kernel
theorem dX6_goesOn_0 : decode cX6_goesOn 0 = .ok (.iconst 0, 1) := by decide +kernel
theorem dX6_goesOn_1 : decode cX6_goesOn 1 = .ok (.istore 4, 2) := by decide +kernel
theorem dX6_goesOn_3 : decode cX6_goesOn 3 = .ok (.iload_n 2, 1) := by decide +kernel
theorem dX6_goesOn_4 : decode cX6_goesOn 4 = .ok (.istore 5, 2) := by decide +kernel
theorem dX6_goesOn_6 : decode cX6_goesOn 6 = .ok (.iload 5, 2) := by decide +kernel
theorem dX6_goesOn_8 : decode cX6_goesOn 8 = .ok (.bipush 100, 2) := by decide +kernel
theorem dX6_goesOn_10 : decode cX6_goesOn 10 = .ok (.if_icmp .ge 47, 3) := by decide +kernel
theorem dX6_goesOn_13 : decode cX6_goesOn 13 = .ok (.iload_n 3, 1) := by decide +kernel
theorem dX6_goesOn_14 : decode cX6_goesOn 14 = .ok (.ifCond .eq 43, 3) := by decide +kernel
theorem dX6_goesOn_17 : decode cX6_goesOn 17 = .ok (.iload 4, 2) := by decide +kernel
theorem dX6_goesOn_19 : decode cX6_goesOn 19 = .ok (.ifCond .ne 25, 3) := by decide +kernel
theorem dX6_goesOn_22 : decode cX6_goesOn 22 = .ok (.aload_n 0, 1) := by decide +kernel
theorem dX6_goesOn_23 : decode cX6_goesOn 23 = .ok (.iload_n 1, 1) := by decide +kernel
theorem dX6_goesOn_24 : decode cX6_goesOn 24 = .ok (.iconst 0, 1) := by decide +kernel
theorem dX6_goesOn_25 : decode cX6_goesOn 25 = .ok (.iload 5, 2) := by decide +kernel
theorem dX6_goesOn_27 : decode cX6_goesOn 27 = .ok (.invokevirtual 205, 3) := by decide +kernel
theorem dX6_goesOn_30 : decode cX6_goesOn 30 = .ok (.ifCond .eq 18, 3) := by decide +kernel
theorem dX6_goesOn_33 : decode cX6_goesOn 33 = .ok (.iload_n 3, 1) := by decide +kernel
theorem dX6_goesOn_34 : decode cX6_goesOn 34 = .ok (.aload_n 0, 1) := by decide +kernel
theorem dX6_goesOn_35 : decode cX6_goesOn 35 = .ok (.getfield 158, 3) := by decide +kernel
theorem dX6_goesOn_38 : decode cX6_goesOn 38 = .ok (.iconst (-1), 1) := by decide +kernel
theorem dX6_goesOn_39 : decode cX6_goesOn 39 = .ok (.ixor, 1) := by decide +kernel
theorem dX6_goesOn_40 : decode cX6_goesOn 40 = .ok (.iand, 1) := by decide +kernel
theorem dX6_goesOn_41 : decode cX6_goesOn 41 = .ok (.ifCond .ne 7, 3) := by decide +kernel
theorem dX6_goesOn_44 : decode cX6_goesOn 44 = .ok (.iconst 1, 1) := by decide +kernel
theorem dX6_goesOn_45 : decode cX6_goesOn 45 = .ok (.goto 4, 3) := by decide +kernel
theorem dX6_goesOn_48 : decode cX6_goesOn 48 = .ok (.iconst 0, 1) := by decide +kernel
theorem dX6_goesOn_49 : decode cX6_goesOn 49 = .ok (.istore 4, 2) := by decide +kernel
theorem dX6_goesOn_51 : decode cX6_goesOn 51 = .ok (.iinc 5 1, 3) := by decide +kernel
theorem dX6_goesOn_54 : decode cX6_goesOn 54 = .ok (.goto (-48), 3) := by decide +kernel
theorem dX6_goesOn_57 : decode cX6_goesOn 57 = .ok (.iload 4, 2) := by decide +kernel
theorem dX6_goesOn_59 : decode cX6_goesOn 59 = .ok (.ireturn, 1) := by decide +kernel
theorem dX6_sharp_0 : decode cX6_sharp 0 = .ok (.iconst 0, 1) := by decide +kernel
theorem dX6_sharp_1 : decode cX6_sharp 1 = .ok (.istore_n 1, 1) := by decide +kernel
theorem dX6_sharp_2 : decode cX6_sharp 2 = .ok (.iconst 0, 1) := by decide +kernel
theorem dX6_sharp_3 : decode cX6_sharp 3 = .ok (.istore_n 2, 1) := by decide +kernel
theorem dX6_sharp_4 : decode cX6_sharp 4 = .ok (.iload_n 2, 1) := by decide +kernel
theorem dX6_sharp_5 : decode cX6_sharp 5 = .ok (.aload_n 0, 1) := by decide +kernel
theorem dX6_sharp_6 : decode cX6_sharp 6 = .ok (.getfield 123, 3) := by decide +kernel
theorem dX6_sharp_9 : decode cX6_sharp 9 = .ok (.if_icmp .ge 27, 3) := by decide +kernel
theorem dX6_sharp_12 : decode cX6_sharp 12 = .ok (.iload_n 1, 1) := by decide +kernel
theorem dX6_sharp_13 : decode cX6_sharp 13 = .ok (.aload_n 0, 1) := by decide +kernel
theorem dX6_sharp_14 : decode cX6_sharp 14 = .ok (.iload_n 2, 1) := by decide +kernel
theorem dX6_sharp_15 : decode cX6_sharp 15 = .ok (.invokevirtual 147, 3) := by decide +kernel
theorem dX6_sharp_18 : decode cX6_sharp 18 = .ok (.ifCond .eq 9, 3) := by decide +kernel
theorem dX6_sharp_21 : decode cX6_sharp 21 = .ok (.iconst 1, 1) := by decide +kernel
theorem dX6_sharp_22 : decode cX6_sharp 22 = .ok (.iload_n 2, 1) := by decide +kernel
theorem dX6_sharp_23 : decode cX6_sharp 23 = .ok (.ishl, 1) := by decide +kernel
theorem dX6_sharp_24 : decode cX6_sharp 24 = .ok (.goto 4, 3) := by decide +kernel
theorem dX6_sharp_27 : decode cX6_sharp 27 = .ok (.iconst 0, 1) := by decide +kernel
theorem dX6_sharp_28 : decode cX6_sharp 28 = .ok (.ior, 1) := by decide +kernel
theorem dX6_sharp_29 : decode cX6_sharp 29 = .ok (.istore_n 1, 1) := by decide +kernel
theorem dX6_sharp_30 : decode cX6_sharp 30 = .ok (.iinc 2 1, 3) := by decide +kernel
theorem dX6_sharp_33 : decode cX6_sharp 33 = .ok (.goto (-29), 3) := by decide +kernel
theorem dX6_sharp_36 : decode cX6_sharp 36 = .ok (.aload_n 0, 1) := by decide +kernel
theorem dX6_sharp_37 : decode cX6_sharp 37 = .ok (.getfield 25, 3) := by decide +kernel
theorem dX6_sharp_40 : decode cX6_sharp 40 = .ok (.iconst 1, 1) := by decide +kernel
theorem dX6_sharp_41 : decode cX6_sharp 41 = .ok (.iaload, 1) := by decide +kernel
theorem dX6_sharp_42 : decode cX6_sharp 42 = .ok (.istore_n 2, 1) := by decide +kernel
theorem dX6_sharp_43 : decode cX6_sharp 43 = .ok (.bipush (-4), 2) := by decide +kernel
theorem dX6_sharp_45 : decode cX6_sharp 45 = .ok (.istore_n 3, 1) := by decide +kernel
theorem dX6_sharp_46 : decode cX6_sharp 46 = .ok (.bipush 8, 2) := by decide +kernel
theorem dX6_sharp_48 : decode cX6_sharp 48 = .ok (.istore 4, 2) := by decide +kernel
theorem dX6_sharp_50 : decode cX6_sharp 50 = .ok (.iload 4, 2) := by decide +kernel
theorem dX6_sharp_52 : decode cX6_sharp 52 = .ok (.iconst 4, 1) := by decide +kernel
theorem dX6_sharp_53 : decode cX6_sharp 53 = .ok (.if_icmp .lt 34, 3) := by decide +kernel
theorem dX6_sharp_56 : decode cX6_sharp 56 = .ok (.aload_n 0, 1) := by decide +kernel
theorem dX6_sharp_57 : decode cX6_sharp 57 = .ok (.getfield 25, 3) := by decide +kernel
theorem dX6_sharp_60 : decode cX6_sharp 60 = .ok (.iconst 1, 1) := by decide +kernel
theorem dX6_sharp_61 : decode cX6_sharp 61 = .ok (.iload 4, 2) := by decide +kernel
theorem dX6_sharp_63 : decode cX6_sharp 63 = .ok (.iastore, 1) := by decide +kernel
theorem dX6_sharp_64 : decode cX6_sharp 64 = .ok (.aload_n 0, 1) := by decide +kernel
theorem dX6_sharp_65 : decode cX6_sharp 65 = .ok (.iconst 2, 1) := by decide +kernel
theorem dX6_sharp_66 : decode cX6_sharp 66 = .ok (.iconst 0, 1) := by decide +kernel
theorem dX6_sharp_67 : decode cX6_sharp 67 = .ok (.iload_n 1, 1) := by decide +kernel
theorem dX6_sharp_68 : decode cX6_sharp 68 = .ok (.invokevirtual 220, 3) := by decide +kernel
theorem dX6_sharp_71 : decode cX6_sharp 71 = .ok (.ifCond .eq 8, 3) := by decide +kernel
theorem dX6_sharp_74 : decode cX6_sharp 74 = .ok (.iload 4, 2) := by decide +kernel
theorem dX6_sharp_76 : decode cX6_sharp 76 = .ok (.goto 4, 3) := by decide +kernel
theorem dX6_sharp_79 : decode cX6_sharp 79 = .ok (.iload_n 3, 1) := by decide +kernel
theorem dX6_sharp_80 : decode cX6_sharp 80 = .ok (.istore_n 3, 1) := by decide +kernel
theorem dX6_sharp_81 : decode cX6_sharp 81 = .ok (.iinc 4 (-1), 3) := by decide +kernel
theorem dX6_sharp_84 : decode cX6_sharp 84 = .ok (.goto (-34), 3) := by decide +kernel
theorem dX6_sharp_87 : decode cX6_sharp 87 = .ok (.aload_n 0, 1) := by decide +kernel
theorem dX6_sharp_88 : decode cX6_sharp 88 = .ok (.getfield 25, 3) := by decide +kernel
theorem dX6_sharp_91 : decode cX6_sharp 91 = .ok (.iconst 1, 1) := by decide +kernel
theorem dX6_sharp_92 : decode cX6_sharp 92 = .ok (.iload_n 2, 1) := by decide +kernel
theorem dX6_sharp_93 : decode cX6_sharp 93 = .ok (.iastore, 1) := by decide +kernel
theorem dX6_sharp_94 : decode cX6_sharp 94 = .ok (.iload_n 3, 1) := by decide +kernel
theorem dX6_sharp_95 : decode cX6_sharp 95 = .ok (.ireturn, 1) := by decide +kernel
theorem dX6_days_0 : decode cX6_days 0 = .ok (.iload_n 1, 1) := by decide +kernel
theorem dX6_days_1 : decode cX6_days 1 = .ok (.i2l, 1) := by decide +kernel
theorem dX6_days_2 : decode cX6_days 2 = .ok (.lconst 0, 1) := by decide +kernel
theorem dX6_days_3 : decode cX6_days 3 = .ok (.lconst 1, 1) := by decide +kernel
theorem dX6_days_4 : decode cX6_days 4 = .ok (.invokestatic 53, 3) := by decide +kernel
theorem dX6_days_7 : decode cX6_days 7 = .ok (.ifCond .ne 6, 3) := by decide +kernel
theorem dX6_days_10 : decode cX6_days 10 = .ok (.ldc 199, 2) := by decide +kernel
theorem dX6_days_12 : decode cX6_days 12 = .ok (.ireturn, 1) := by decide +kernel
theorem dX6_days_13 : decode cX6_days 13 = .ok (.bipush (-4), 2) := by decide +kernel
theorem dX6_days_15 : decode cX6_days 15 = .ok (.istore_n 2, 1) := by decide +kernel
theorem dX6_days_16 : decode cX6_days 16 = .ok (.lconst 0, 1) := by decide +kernel
theorem dX6_days_17 : decode cX6_days 17 = .ok (.lstore_n 3, 1) := by decide +kernel
theorem dX6_days_18 : decode cX6_days 18 = .ok (.iconst 0, 1) := by decide +kernel
theorem dX6_days_19 : decode cX6_days 19 = .ok (.istore 5, 2) := by decide +kernel
theorem dX6_days_21 : decode cX6_days 21 = .ok (.iload 5, 2) := by decide +kernel
theorem dX6_days_23 : decode cX6_days 23 = .ok (.bipush 11, 2) := by decide +kernel
theorem dX6_days_25 : decode cX6_days 25 = .ok (.if_icmp .ge 42, 3) := by decide +kernel
theorem dX6_days_28 : decode cX6_days 28 = .ok (.aload_n 0, 1) := by decide +kernel
theorem dX6_days_29 : decode cX6_days 29 = .ok (.iconst 3, 1) := by decide +kernel
theorem dX6_days_30 : decode cX6_days 30 = .ok (.iload 5, 2) := by decide +kernel
theorem dX6_days_32 : decode cX6_days 32 = .ok (.invokevirtual 215, 3) := by decide +kernel
theorem dX6_days_35 : decode cX6_days 35 = .ok (.ifCond .eq 26, 3) := by decide +kernel
theorem dX6_days_38 : decode cX6_days 38 = .ok (.iload_n 2, 1) := by decide +kernel
theorem dX6_days_39 : decode cX6_days 39 = .ok (.bipush (-4), 2) := by decide +kernel
theorem dX6_days_41 : decode cX6_days 41 = .ok (.if_icmp .eq 12, 3) := by decide +kernel
theorem dX6_days_44 : decode cX6_days 44 = .ok (.aload_n 0, 1) := by decide +kernel
theorem dX6_days_45 : decode cX6_days 45 = .ok (.getfield 212, 3) := by decide +kernel
theorem dX6_days_48 : decode cX6_days 48 = .ok (.lload_n 3, 1) := by decide +kernel
theorem dX6_days_49 : decode cX6_days 49 = .ok (.lcmp, 1) := by decide +kernel
theorem dX6_days_50 : decode cX6_days 50 = .ok (.ifCond .le 11, 3) := by decide +kernel
theorem dX6_days_53 : decode cX6_days 53 = .ok (.iload 5, 2) := by decide +kernel
theorem dX6_days_55 : decode cX6_days 55 = .ok (.istore_n 2, 1) := by decide +kernel
theorem dX6_days_56 : decode cX6_days 56 = .ok (.aload_n 0, 1) := by decide +kernel
theorem dX6_days_57 : decode cX6_days 57 = .ok (.getfield 212, 3) := by decide +kernel
theorem dX6_days_60 : decode cX6_days 60 = .ok (.lstore_n 3, 1) := by decide +kernel
theorem dX6_days_61 : decode cX6_days 61 = .ok (.iinc 5 1, 3) := by decide +kernel
theorem dX6_days_64 : decode cX6_days 64 = .ok (.goto (-43), 3) := by decide +kernel
theorem dX6_days_67 : decode cX6_days 67 = .ok (.iload_n 2, 1) := by decide +kernel
theorem dX6_days_68 : decode cX6_days 68 = .ok (.bipush (-4), 2) := by decide +kernel
theorem dX6_days_70 : decode cX6_days 70 = .ok (.if_icmp .ne 8, 3) := by decide +kernel
theorem dX6_days_73 : decode cX6_days 73 = .ok (.ldc 200, 2) := by decide +kernel
theorem dX6_days_75 : decode cX6_days 75 = .ok (.goto 13, 3) := by decide +kernel
theorem dX6_days_78 : decode cX6_days 78 = .ok (.iload_n 1, 1) := by decide +kernel
theorem dX6_days_79 : decode cX6_days 79 = .ok (.ifCond .ne 7, 3) := by decide +kernel
theorem dX6_days_82 : decode cX6_days 82 = .ok (.iload_n 2, 1) := by decide +kernel
theorem dX6_days_83 : decode cX6_days 83 = .ok (.goto 5, 3) := by decide +kernel
theorem dX6_days_86 : decode cX6_days 86 = .ok (.lload_n 3, 1) := by decide +kernel
theorem dX6_days_87 : decode cX6_days 87 = .ok (.l2i, 1) := by decide +kernel
theorem dX6_days_88 : decode cX6_days 88 = .ok (.ireturn, 1) := by decide +kernel
theorem dX6_keep_0 : decode cX6_keep 0 = .ok (.iload_n 1, 1) := by decide +kernel
theorem dX6_keep_1 : decode cX6_keep 1 = .ok (.i2l, 1) := by decide +kernel
theorem dX6_keep_2 : decode cX6_keep 2 = .ok (.lconst 1, 1) := by decide +kernel
theorem dX6_keep_3 : decode cX6_keep 3 = .ok (.ldc2_w 128, 3) := by decide +kernel
theorem dX6_keep_6 : decode cX6_keep 6 = .ok (.invokestatic 53, 3) := by decide +kernel
theorem dX6_keep_9 : decode cX6_keep 9 = .ok (.ifCond .eq 25, 3) := by decide +kernel
theorem dX6_keep_12 : decode cX6_keep 12 = .ok (.iload_n 2, 1) := by decide +kernel
theorem dX6_keep_13 : decode cX6_keep 13 = .ok (.i2l, 1) := by decide +kernel
theorem dX6_keep_14 : decode cX6_keep 14 = .ok (.lconst 0, 1) := by decide +kernel
theorem dX6_keep_15 : decode cX6_keep 15 = .ok (.ldc2_w 223, 3) := by decide +kernel
theorem dX6_keep_18 : decode cX6_keep 18 = .ok (.invokestatic 53, 3) := by decide +kernel
theorem dX6_keep_21 : decode cX6_keep 21 = .ok (.ifCond .eq 13, 3) := by decide +kernel
theorem dX6_keep_24 : decode cX6_keep 24 = .ok (.iload_n 2, 1) := by decide +kernel
theorem dX6_keep_25 : decode cX6_keep 25 = .ok (.iload_n 1, 1) := by decide +kernel
theorem dX6_keep_26 : decode cX6_keep 26 = .ok (.iadd, 1) := by decide +kernel
theorem dX6_keep_27 : decode cX6_keep 27 = .ok (.iconst 1, 1) := by decide +kernel
theorem dX6_keep_28 : decode cX6_keep 28 = .ok (.isub, 1) := by decide +kernel
theorem dX6_keep_29 : decode cX6_keep 29 = .ok (.iload_n 1, 1) := by decide +kernel
theorem dX6_keep_30 : decode cX6_keep 30 = .ok (.idiv, 1) := by decide +kernel
theorem dX6_keep_31 : decode cX6_keep 31 = .ok (.goto 4, 3) := by decide +kernel
theorem dX6_keep_34 : decode cX6_keep 34 = .ok (.iconst (-1), 1) := by decide +kernel
theorem dX6_keep_35 : decode cX6_keep 35 = .ok (.ireturn, 1) := by decide +kernel
theorem dX6_edge_0 : decode cX6_edge 0 = .ok (.aload_n 0, 1) := by decide +kernel
theorem dX6_edge_1 : decode cX6_edge 1 = .ok (.iload_n 1, 1) := by decide +kernel
theorem dX6_edge_2 : decode cX6_edge 2 = .ok (.invokevirtual 136, 3) := by decide +kernel
theorem dX6_edge_5 : decode cX6_edge 5 = .ok (.ifCond .ne 5, 3) := by decide +kernel
theorem dX6_edge_8 : decode cX6_edge 8 = .ok (.iconst (-1), 1) := by decide +kernel
theorem dX6_edge_9 : decode cX6_edge 9 = .ok (.ireturn, 1) := by decide +kernel
theorem dX6_edge_10 : decode cX6_edge 10 = .ok (.aload_n 0, 1) := by decide +kernel
theorem dX6_edge_11 : decode cX6_edge 11 = .ok (.iload_n 1, 1) := by decide +kernel
theorem dX6_edge_12 : decode cX6_edge 12 = .ok (.iconst 2, 1) := by decide +kernel
theorem dX6_edge_13 : decode cX6_edge 13 = .ok (.invokevirtual 142, 3) := by decide +kernel
theorem dX6_edge_16 : decode cX6_edge 16 = .ok (.istore_n 2, 1) := by decide +kernel
theorem dX6_edge_17 : decode cX6_edge 17 = .ok (.bipush (-4), 2) := by decide +kernel
theorem dX6_edge_19 : decode cX6_edge 19 = .ok (.istore_n 3, 1) := by decide +kernel
theorem dX6_edge_20 : decode cX6_edge 20 = .ok (.bipush 99, 2) := by decide +kernel
theorem dX6_edge_22 : decode cX6_edge 22 = .ok (.istore 4, 2) := by decide +kernel
theorem dX6_edge_24 : decode cX6_edge 24 = .ok (.iload 4, 2) := by decide +kernel
theorem dX6_edge_26 : decode cX6_edge 26 = .ok (.ifCond .lt 40, 3) := by decide +kernel
theorem dX6_edge_29 : decode cX6_edge 29 = .ok (.aload_n 0, 1) := by decide +kernel
theorem dX6_edge_30 : decode cX6_edge 30 = .ok (.getfield 19, 3) := by decide +kernel
theorem dX6_edge_33 : decode cX6_edge 33 = .ok (.iconst 5, 1) := by decide +kernel
theorem dX6_edge_34 : decode cX6_edge 34 = .ok (.iload_n 1, 1) := by decide +kernel
theorem dX6_edge_35 : decode cX6_edge 35 = .ok (.imul, 1) := by decide +kernel
theorem dX6_edge_36 : decode cX6_edge 36 = .ok (.iconst 2, 1) := by decide +kernel
theorem dX6_edge_37 : decode cX6_edge 37 = .ok (.iadd, 1) := by decide +kernel
theorem dX6_edge_38 : decode cX6_edge 38 = .ok (.iload 4, 2) := by decide +kernel
theorem dX6_edge_40 : decode cX6_edge 40 = .ok (.iastore, 1) := by decide +kernel
theorem dX6_edge_41 : decode cX6_edge 41 = .ok (.aload_n 0, 1) := by decide +kernel
theorem dX6_edge_42 : decode cX6_edge 42 = .ok (.iconst 0, 1) := by decide +kernel
theorem dX6_edge_43 : decode cX6_edge 43 = .ok (.iconst 1, 1) := by decide +kernel
theorem dX6_edge_44 : decode cX6_edge 44 = .ok (.iconst 1, 1) := by decide +kernel
theorem dX6_edge_45 : decode cX6_edge 45 = .ok (.iload_n 1, 1) := by decide +kernel
theorem dX6_edge_46 : decode cX6_edge 46 = .ok (.ishl, 1) := by decide +kernel
theorem dX6_edge_47 : decode cX6_edge 47 = .ok (.invokevirtual 220, 3) := by decide +kernel
theorem dX6_edge_50 : decode cX6_edge 50 = .ok (.ifCond .eq 8, 3) := by decide +kernel
theorem dX6_edge_53 : decode cX6_edge 53 = .ok (.iload 4, 2) := by decide +kernel
theorem dX6_edge_55 : decode cX6_edge 55 = .ok (.goto 4, 3) := by decide +kernel
theorem dX6_edge_58 : decode cX6_edge 58 = .ok (.iload_n 3, 1) := by decide +kernel
theorem dX6_edge_59 : decode cX6_edge 59 = .ok (.istore_n 3, 1) := by decide +kernel
theorem dX6_edge_60 : decode cX6_edge 60 = .ok (.iinc 4 (-1), 3) := by decide +kernel
theorem dX6_edge_63 : decode cX6_edge 63 = .ok (.goto (-39), 3) := by decide +kernel
theorem dX6_edge_66 : decode cX6_edge 66 = .ok (.aload_n 0, 1) := by decide +kernel
theorem dX6_edge_67 : decode cX6_edge 67 = .ok (.getfield 19, 3) := by decide +kernel
theorem dX6_edge_70 : decode cX6_edge 70 = .ok (.iconst 5, 1) := by decide +kernel
theorem dX6_edge_71 : decode cX6_edge 71 = .ok (.iload_n 1, 1) := by decide +kernel
theorem dX6_edge_72 : decode cX6_edge 72 = .ok (.imul, 1) := by decide +kernel
theorem dX6_edge_73 : decode cX6_edge 73 = .ok (.iconst 2, 1) := by decide +kernel
theorem dX6_edge_74 : decode cX6_edge 74 = .ok (.iadd, 1) := by decide +kernel
theorem dX6_edge_75 : decode cX6_edge 75 = .ok (.iload_n 2, 1) := by decide +kernel
theorem dX6_edge_76 : decode cX6_edge 76 = .ok (.iastore, 1) := by decide +kernel
theorem dX6_edge_77 : decode cX6_edge 77 = .ok (.iload_n 3, 1) := by decide +kernel
theorem dX6_edge_78 : decode cX6_edge 78 = .ok (.ireturn, 1) := by decide +kernel
theorem dX6_spur_0 : decode cX6_spur 0 = .ok (.aload_n 0, 1) := by decide +kernel
theorem dX6_spur_1 : decode cX6_spur 1 = .ok (.iload_n 1, 1) := by decide +kernel
theorem dX6_spur_2 : decode cX6_spur 2 = .ok (.invokevirtual 136, 3) := by decide +kernel
theorem dX6_spur_5 : decode cX6_spur 5 = .ok (.ifCond .ne 5, 3) := by decide +kernel
theorem dX6_spur_8 : decode cX6_spur 8 = .ok (.iconst (-1), 1) := by decide +kernel
theorem dX6_spur_9 : decode cX6_spur 9 = .ok (.ireturn, 1) := by decide +kernel
theorem dX6_spur_10 : decode cX6_spur 10 = .ok (.iconst 0, 1) := by decide +kernel
theorem dX6_spur_11 : decode cX6_spur 11 = .ok (.istore_n 2, 1) := by decide +kernel
theorem dX6_spur_12 : decode cX6_spur 12 = .ok (.iconst 0, 1) := by decide +kernel
theorem dX6_spur_13 : decode cX6_spur 13 = .ok (.istore_n 3, 1) := by decide +kernel
theorem dX6_spur_14 : decode cX6_spur 14 = .ok (.iload_n 3, 1) := by decide +kernel
theorem dX6_spur_15 : decode cX6_spur 15 = .ok (.aload_n 0, 1) := by decide +kernel
theorem dX6_spur_16 : decode cX6_spur 16 = .ok (.getfield 123, 3) := by decide +kernel
theorem dX6_spur_19 : decode cX6_spur 19 = .ok (.if_icmp .ge 34, 3) := by decide +kernel
theorem dX6_spur_22 : decode cX6_spur 22 = .ok (.iload_n 2, 1) := by decide +kernel
theorem dX6_spur_23 : decode cX6_spur 23 = .ok (.aload_n 0, 1) := by decide +kernel
theorem dX6_spur_24 : decode cX6_spur 24 = .ok (.iload_n 3, 1) := by decide +kernel
theorem dX6_spur_25 : decode cX6_spur 25 = .ok (.iconst 2, 1) := by decide +kernel
theorem dX6_spur_26 : decode cX6_spur 26 = .ok (.invokevirtual 142, 3) := by decide +kernel
theorem dX6_spur_29 : decode cX6_spur 29 = .ok (.aload_n 0, 1) := by decide +kernel
theorem dX6_spur_30 : decode cX6_spur 30 = .ok (.iload_n 3, 1) := by decide +kernel
theorem dX6_spur_31 : decode cX6_spur 31 = .ok (.iconst 1, 1) := by decide +kernel
theorem dX6_spur_32 : decode cX6_spur 32 = .ok (.invokevirtual 142, 3) := by decide +kernel
theorem dX6_spur_35 : decode cX6_spur 35 = .ok (.if_icmp .le 9, 3) := by decide +kernel
theorem dX6_spur_38 : decode cX6_spur 38 = .ok (.iconst 1, 1) := by decide +kernel
theorem dX6_spur_39 : decode cX6_spur 39 = .ok (.iload_n 3, 1) := by decide +kernel
theorem dX6_spur_40 : decode cX6_spur 40 = .ok (.ishl, 1) := by decide +kernel
theorem dX6_spur_41 : decode cX6_spur 41 = .ok (.goto 4, 3) := by decide +kernel
theorem dX6_spur_44 : decode cX6_spur 44 = .ok (.iconst 0, 1) := by decide +kernel
theorem dX6_spur_45 : decode cX6_spur 45 = .ok (.ior, 1) := by decide +kernel
theorem dX6_spur_46 : decode cX6_spur 46 = .ok (.istore_n 2, 1) := by decide +kernel
theorem dX6_spur_47 : decode cX6_spur 47 = .ok (.iinc 3 1, 3) := by decide +kernel
theorem dX6_spur_50 : decode cX6_spur 50 = .ok (.goto (-36), 3) := by decide +kernel
theorem dX6_spur_53 : decode cX6_spur 53 = .ok (.aload_n 0, 1) := by decide +kernel
theorem dX6_spur_54 : decode cX6_spur 54 = .ok (.iload_n 1, 1) := by decide +kernel
theorem dX6_spur_55 : decode cX6_spur 55 = .ok (.iconst 4, 1) := by decide +kernel
theorem dX6_spur_56 : decode cX6_spur 56 = .ok (.invokevirtual 142, 3) := by decide +kernel
theorem dX6_spur_59 : decode cX6_spur 59 = .ok (.istore_n 3, 1) := by decide +kernel
theorem dX6_spur_60 : decode cX6_spur 60 = .ok (.bipush (-4), 2) := by decide +kernel
theorem dX6_spur_62 : decode cX6_spur 62 = .ok (.istore 4, 2) := by decide +kernel
theorem dX6_spur_64 : decode cX6_spur 64 = .ok (.aload_n 0, 1) := by decide +kernel
theorem dX6_spur_65 : decode cX6_spur 65 = .ok (.iload_n 1, 1) := by decide +kernel
theorem dX6_spur_66 : decode cX6_spur 66 = .ok (.iconst 0, 1) := by decide +kernel
theorem dX6_spur_67 : decode cX6_spur 67 = .ok (.invokevirtual 142, 3) := by decide +kernel
theorem dX6_spur_70 : decode cX6_spur 70 = .ok (.istore 5, 2) := by decide +kernel
theorem dX6_spur_72 : decode cX6_spur 72 = .ok (.iload 5, 2) := by decide +kernel
theorem dX6_spur_74 : decode cX6_spur 74 = .ok (.ifCond .lt 40, 3) := by decide +kernel
theorem dX6_spur_77 : decode cX6_spur 77 = .ok (.aload_n 0, 1) := by decide +kernel
theorem dX6_spur_78 : decode cX6_spur 78 = .ok (.getfield 19, 3) := by decide +kernel
theorem dX6_spur_81 : decode cX6_spur 81 = .ok (.iconst 5, 1) := by decide +kernel
theorem dX6_spur_82 : decode cX6_spur 82 = .ok (.iload_n 1, 1) := by decide +kernel
theorem dX6_spur_83 : decode cX6_spur 83 = .ok (.imul, 1) := by decide +kernel
theorem dX6_spur_84 : decode cX6_spur 84 = .ok (.iconst 4, 1) := by decide +kernel
theorem dX6_spur_85 : decode cX6_spur 85 = .ok (.iadd, 1) := by decide +kernel
theorem dX6_spur_86 : decode cX6_spur 86 = .ok (.iload 5, 2) := by decide +kernel
theorem dX6_spur_88 : decode cX6_spur 88 = .ok (.iastore, 1) := by decide +kernel
theorem dX6_spur_89 : decode cX6_spur 89 = .ok (.aload_n 0, 1) := by decide +kernel
theorem dX6_spur_90 : decode cX6_spur 90 = .ok (.iconst 0, 1) := by decide +kernel
theorem dX6_spur_91 : decode cX6_spur 91 = .ok (.iconst 0, 1) := by decide +kernel
theorem dX6_spur_92 : decode cX6_spur 92 = .ok (.iload_n 2, 1) := by decide +kernel
theorem dX6_spur_93 : decode cX6_spur 93 = .ok (.invokevirtual 220, 3) := by decide +kernel
theorem dX6_spur_96 : decode cX6_spur 96 = .ok (.ifCond .eq 8, 3) := by decide +kernel
theorem dX6_spur_99 : decode cX6_spur 99 = .ok (.iload 5, 2) := by decide +kernel
theorem dX6_spur_101 : decode cX6_spur 101 = .ok (.goto 5, 3) := by decide +kernel
theorem dX6_spur_104 : decode cX6_spur 104 = .ok (.iload 4, 2) := by decide +kernel
theorem dX6_spur_106 : decode cX6_spur 106 = .ok (.istore 4, 2) := by decide +kernel
theorem dX6_spur_108 : decode cX6_spur 108 = .ok (.iinc 5 (-1), 3) := by decide +kernel
theorem dX6_spur_111 : decode cX6_spur 111 = .ok (.goto (-39), 3) := by decide +kernel
theorem dX6_spur_114 : decode cX6_spur 114 = .ok (.aload_n 0, 1) := by decide +kernel
theorem dX6_spur_115 : decode cX6_spur 115 = .ok (.getfield 19, 3) := by decide +kernel
theorem dX6_spur_118 : decode cX6_spur 118 = .ok (.iconst 5, 1) := by decide +kernel
theorem dX6_spur_119 : decode cX6_spur 119 = .ok (.iload_n 1, 1) := by decide +kernel
theorem dX6_spur_120 : decode cX6_spur 120 = .ok (.imul, 1) := by decide +kernel
theorem dX6_spur_121 : decode cX6_spur 121 = .ok (.iconst 4, 1) := by decide +kernel
theorem dX6_spur_122 : decode cX6_spur 122 = .ok (.iadd, 1) := by decide +kernel
theorem dX6_spur_123 : decode cX6_spur 123 = .ok (.iload_n 3, 1) := by decide +kernel
theorem dX6_spur_124 : decode cX6_spur 124 = .ok (.iastore, 1) := by decide +kernel
theorem dX6_spur_125 : decode cX6_spur 125 = .ok (.iload 4, 2) := by decide +kernel
theorem dX6_spur_127 : decode cX6_spur 127 = .ok (.ireturn, 1) := by decide +kernel
theorem dX6_areLaws_0 : decode cX6_areLaws 0 = .ok (.iload_n 1, 1) := by decide +kernel
theorem dX6_areLaws_1 : decode cX6_areLaws 1 = .ok (.iconst 1, 1) := by decide +kernel
theorem dX6_areLaws_2 : decode cX6_areLaws 2 = .ok (.iand, 1) := by decide +kernel
theorem dX6_areLaws_3 : decode cX6_areLaws 3 = .ok (.iload_n 1, 1) := by decide +kernel
theorem dX6_areLaws_4 : decode cX6_areLaws 4 = .ok (.iconst 1, 1) := by decide +kernel
theorem dX6_areLaws_5 : decode cX6_areLaws 5 = .ok (.ishr, 1) := by decide +kernel
theorem dX6_areLaws_6 : decode cX6_areLaws 6 = .ok (.iconst 1, 1) := by decide +kernel
theorem dX6_areLaws_7 : decode cX6_areLaws 7 = .ok (.iand, 1) := by decide +kernel
theorem dX6_areLaws_8 : decode cX6_areLaws 8 = .ok (.iadd, 1) := by decide +kernel
theorem dX6_areLaws_9 : decode cX6_areLaws 9 = .ok (.iload_n 1, 1) := by decide +kernel
theorem dX6_areLaws_10 : decode cX6_areLaws 10 = .ok (.iconst 3, 1) := by decide +kernel
theorem dX6_areLaws_11 : decode cX6_areLaws 11 = .ok (.ishr, 1) := by decide +kernel
theorem dX6_areLaws_12 : decode cX6_areLaws 12 = .ok (.iconst 1, 1) := by decide +kernel
theorem dX6_areLaws_13 : decode cX6_areLaws 13 = .ok (.iand, 1) := by decide +kernel
theorem dX6_areLaws_14 : decode cX6_areLaws 14 = .ok (.iadd, 1) := by decide +kernel
theorem dX6_areLaws_15 : decode cX6_areLaws 15 = .ok (.istore_n 2, 1) := by decide +kernel
theorem dX6_areLaws_16 : decode cX6_areLaws 16 = .ok (.iload_n 1, 1) := by decide +kernel
theorem dX6_areLaws_17 : decode cX6_areLaws 17 = .ok (.i2l, 1) := by decide +kernel
theorem dX6_areLaws_18 : decode cX6_areLaws 18 = .ok (.lconst 0, 1) := by decide +kernel
theorem dX6_areLaws_19 : decode cX6_areLaws 19 = .ok (.ldc2_w 225, 3) := by decide +kernel
theorem dX6_areLaws_22 : decode cX6_areLaws 22 = .ok (.invokestatic 53, 3) := by decide +kernel
theorem dX6_areLaws_25 : decode cX6_areLaws 25 = .ok (.ifCond .eq 25, 3) := by decide +kernel
theorem dX6_areLaws_28 : decode cX6_areLaws 28 = .ok (.iload_n 2, 1) := by decide +kernel
theorem dX6_areLaws_29 : decode cX6_areLaws 29 = .ok (.iconst 2, 1) := by decide +kernel
theorem dX6_areLaws_30 : decode cX6_areLaws 30 = .ok (.if_icmp .ge 20, 3) := by decide +kernel
theorem dX6_areLaws_33 : decode cX6_areLaws 33 = .ok (.iload_n 1, 1) := by decide +kernel
theorem dX6_areLaws_34 : decode cX6_areLaws 34 = .ok (.iconst 4, 1) := by decide +kernel
theorem dX6_areLaws_35 : decode cX6_areLaws 35 = .ok (.iand, 1) := by decide +kernel
theorem dX6_areLaws_36 : decode cX6_areLaws 36 = .ok (.ifCond .eq 10, 3) := by decide +kernel
theorem dX6_areLaws_39 : decode cX6_areLaws 39 = .ok (.aload_n 0, 1) := by decide +kernel
theorem dX6_areLaws_40 : decode cX6_areLaws 40 = .ok (.getfield 123, 3) := by decide +kernel
theorem dX6_areLaws_43 : decode cX6_areLaws 43 = .ok (.ifCond .le 7, 3) := by decide +kernel
theorem dX6_areLaws_46 : decode cX6_areLaws 46 = .ok (.iconst 1, 1) := by decide +kernel
theorem dX6_areLaws_47 : decode cX6_areLaws 47 = .ok (.goto 4, 3) := by decide +kernel
theorem dX6_areLaws_50 : decode cX6_areLaws 50 = .ok (.iconst 0, 1) := by decide +kernel
theorem dX6_areLaws_51 : decode cX6_areLaws 51 = .ok (.ireturn, 1) := by decide +kernel
theorem dX6_layLaws_0 : decode cX6_layLaws 0 = .ok (.lconst 0, 1) := by decide +kernel
theorem dX6_layLaws_1 : decode cX6_layLaws 1 = .ok (.lstore_n 3, 1) := by decide +kernel
theorem dX6_layLaws_2 : decode cX6_layLaws 2 = .ok (.iload_n 1, 1) := by decide +kernel
theorem dX6_layLaws_3 : decode cX6_layLaws 3 = .ok (.iconst 4, 1) := by decide +kernel
theorem dX6_layLaws_4 : decode cX6_layLaws 4 = .ok (.iand, 1) := by decide +kernel
theorem dX6_layLaws_5 : decode cX6_layLaws 5 = .ok (.ifCond .eq 84, 3) := by decide +kernel
theorem dX6_layLaws_8 : decode cX6_layLaws 8 = .ok (.aload_n 0, 1) := by decide +kernel
theorem dX6_layLaws_9 : decode cX6_layLaws 9 = .ok (.iconst 0, 1) := by decide +kernel
theorem dX6_layLaws_10 : decode cX6_layLaws 10 = .ok (.putfield 31, 3) := by decide +kernel
theorem dX6_layLaws_13 : decode cX6_layLaws 13 = .ok (.iconst 1, 1) := by decide +kernel
theorem dX6_layLaws_14 : decode cX6_layLaws 14 = .ok (.istore 5, 2) := by decide +kernel
theorem dX6_layLaws_16 : decode cX6_layLaws 16 = .ok (.iload 5, 2) := by decide +kernel
theorem dX6_layLaws_18 : decode cX6_layLaws 18 = .ok (.aload_n 0, 1) := by decide +kernel
theorem dX6_layLaws_19 : decode cX6_layLaws 19 = .ok (.getfield 123, 3) := by decide +kernel
theorem dX6_layLaws_22 : decode cX6_layLaws 22 = .ok (.if_icmp .ge 41, 3) := by decide +kernel
theorem dX6_layLaws_25 : decode cX6_layLaws 25 = .ok (.aload_n 0, 1) := by decide +kernel
theorem dX6_layLaws_26 : decode cX6_layLaws 26 = .ok (.aload_n 0, 1) := by decide +kernel
theorem dX6_layLaws_27 : decode cX6_layLaws 27 = .ok (.iload 5, 2) := by decide +kernel
theorem dX6_layLaws_29 : decode cX6_layLaws 29 = .ok (.iconst 2, 1) := by decide +kernel
theorem dX6_layLaws_30 : decode cX6_layLaws 30 = .ok (.invokevirtual 142, 3) := by decide +kernel
theorem dX6_layLaws_33 : decode cX6_layLaws 33 = .ok (.aload_n 0, 1) := by decide +kernel
theorem dX6_layLaws_34 : decode cX6_layLaws 34 = .ok (.aload_n 0, 1) := by decide +kernel
theorem dX6_layLaws_35 : decode cX6_layLaws 35 = .ok (.getfield 31, 3) := by decide +kernel
theorem dX6_layLaws_38 : decode cX6_layLaws 38 = .ok (.iconst 2, 1) := by decide +kernel
theorem dX6_layLaws_39 : decode cX6_layLaws 39 = .ok (.invokevirtual 142, 3) := by decide +kernel
theorem dX6_layLaws_42 : decode cX6_layLaws 42 = .ok (.if_icmp .ge 8, 3) := by decide +kernel
theorem dX6_layLaws_45 : decode cX6_layLaws 45 = .ok (.iload 5, 2) := by decide +kernel
theorem dX6_layLaws_47 : decode cX6_layLaws 47 = .ok (.goto 7, 3) := by decide +kernel
theorem dX6_layLaws_50 : decode cX6_layLaws 50 = .ok (.aload_n 0, 1) := by decide +kernel
theorem dX6_layLaws_51 : decode cX6_layLaws 51 = .ok (.getfield 31, 3) := by decide +kernel
theorem dX6_layLaws_54 : decode cX6_layLaws 54 = .ok (.putfield 31, 3) := by decide +kernel
theorem dX6_layLaws_57 : decode cX6_layLaws 57 = .ok (.iinc 5 1, 3) := by decide +kernel
theorem dX6_layLaws_60 : decode cX6_layLaws 60 = .ok (.goto (-44), 3) := by decide +kernel
theorem dX6_layLaws_63 : decode cX6_layLaws 63 = .ok (.ldc2_w 181, 3) := by decide +kernel
theorem dX6_layLaws_66 : decode cX6_layLaws 66 = .ok (.aload_n 0, 1) := by decide +kernel
theorem dX6_layLaws_67 : decode cX6_layLaws 67 = .ok (.aload_n 0, 1) := by decide +kernel
theorem dX6_layLaws_68 : decode cX6_layLaws 68 = .ok (.getfield 31, 3) := by decide +kernel
theorem dX6_layLaws_71 : decode cX6_layLaws 71 = .ok (.iconst 0, 1) := by decide +kernel
theorem dX6_layLaws_72 : decode cX6_layLaws 72 = .ok (.invokevirtual 142, 3) := by decide +kernel
theorem dX6_layLaws_75 : decode cX6_layLaws 75 = .ok (.i2l, 1) := by decide +kernel
theorem dX6_layLaws_76 : decode cX6_layLaws 76 = .ok (.lmul, 1) := by decide +kernel
theorem dX6_layLaws_77 : decode cX6_layLaws 77 = .ok (.aload_n 0, 1) := by decide +kernel
theorem dX6_layLaws_78 : decode cX6_layLaws 78 = .ok (.aload_n 0, 1) := by decide +kernel
theorem dX6_layLaws_79 : decode cX6_layLaws 79 = .ok (.getfield 31, 3) := by decide +kernel
theorem dX6_layLaws_82 : decode cX6_layLaws 82 = .ok (.iconst 1, 1) := by decide +kernel
theorem dX6_layLaws_83 : decode cX6_layLaws 83 = .ok (.invokevirtual 142, 3) := by decide +kernel
theorem dX6_layLaws_86 : decode cX6_layLaws 86 = .ok (.i2l, 1) := by decide +kernel
theorem dX6_layLaws_87 : decode cX6_layLaws 87 = .ok (.lmul, 1) := by decide +kernel
theorem dX6_layLaws_88 : decode cX6_layLaws 88 = .ok (.lstore_n 3, 1) := by decide +kernel
theorem dX6_layLaws_89 : decode cX6_layLaws 89 = .ok (.iload_n 1, 1) := by decide +kernel
theorem dX6_layLaws_90 : decode cX6_layLaws 90 = .ok (.iconst 1, 1) := by decide +kernel
theorem dX6_layLaws_91 : decode cX6_layLaws 91 = .ok (.iand, 1) := by decide +kernel
theorem dX6_layLaws_92 : decode cX6_layLaws 92 = .ok (.iconst 1, 1) := by decide +kernel
theorem dX6_layLaws_93 : decode cX6_layLaws 93 = .ok (.if_icmp .ne 7, 3) := by decide +kernel
theorem dX6_layLaws_96 : decode cX6_layLaws 96 = .ok (.iconst 1, 1) := by decide +kernel
theorem dX6_layLaws_97 : decode cX6_layLaws 97 = .ok (.goto 25, 3) := by decide +kernel
theorem dX6_layLaws_100 : decode cX6_layLaws 100 = .ok (.iload_n 1, 1) := by decide +kernel
theorem dX6_layLaws_101 : decode cX6_layLaws 101 = .ok (.iconst 2, 1) := by decide +kernel
theorem dX6_layLaws_102 : decode cX6_layLaws 102 = .ok (.iand, 1) := by decide +kernel
theorem dX6_layLaws_103 : decode cX6_layLaws 103 = .ok (.ifCond .eq 7, 3) := by decide +kernel
theorem dX6_layLaws_106 : decode cX6_layLaws 106 = .ok (.iconst 2, 1) := by decide +kernel
theorem dX6_layLaws_107 : decode cX6_layLaws 107 = .ok (.goto 15, 3) := by decide +kernel
theorem dX6_layLaws_110 : decode cX6_layLaws 110 = .ok (.iload_n 1, 1) := by decide +kernel
theorem dX6_layLaws_111 : decode cX6_layLaws 111 = .ok (.bipush 8, 2) := by decide +kernel
theorem dX6_layLaws_113 : decode cX6_layLaws 113 = .ok (.iand, 1) := by decide +kernel
theorem dX6_layLaws_114 : decode cX6_layLaws 114 = .ok (.ifCond .eq 7, 3) := by decide +kernel
theorem dX6_layLaws_117 : decode cX6_layLaws 117 = .ok (.iconst 4, 1) := by decide +kernel
theorem dX6_layLaws_118 : decode cX6_layLaws 118 = .ok (.goto 4, 3) := by decide +kernel
theorem dX6_layLaws_121 : decode cX6_layLaws 121 = .ok (.iconst 0, 1) := by decide +kernel
theorem dX6_layLaws_122 : decode cX6_layLaws 122 = .ok (.istore 5, 2) := by decide +kernel
theorem dX6_layLaws_124 : decode cX6_layLaws 124 = .ok (.aload_n 0, 1) := by decide +kernel
theorem dX6_layLaws_125 : decode cX6_layLaws 125 = .ok (.iload 5, 2) := by decide +kernel
theorem dX6_layLaws_127 : decode cX6_layLaws 127 = .ok (.iload_n 2, 1) := by decide +kernel
theorem dX6_layLaws_128 : decode cX6_layLaws 128 = .ok (.invokevirtual 215, 3) := by decide +kernel
theorem dX6_layLaws_131 : decode cX6_layLaws 131 = .ok (.pop, 1) := by decide +kernel
theorem dX6_layLaws_132 : decode cX6_layLaws 132 = .ok (.aload_n 0, 1) := by decide +kernel
theorem dX6_layLaws_133 : decode cX6_layLaws 133 = .ok (.bipush (-4), 2) := by decide +kernel
theorem dX6_layLaws_135 : decode cX6_layLaws 135 = .ok (.putfield 31, 3) := by decide +kernel
theorem dX6_layLaws_138 : decode cX6_layLaws 138 = .ok (.aload_n 0, 1) := by decide +kernel
theorem dX6_layLaws_139 : decode cX6_layLaws 139 = .ok (.aload_n 0, 1) := by decide +kernel
theorem dX6_layLaws_140 : decode cX6_layLaws 140 = .ok (.getfield 212, 3) := by decide +kernel
theorem dX6_layLaws_143 : decode cX6_layLaws 143 = .ok (.lload_n 3, 1) := by decide +kernel
theorem dX6_layLaws_144 : decode cX6_layLaws 144 = .ok (.lsub, 1) := by decide +kernel
theorem dX6_layLaws_145 : decode cX6_layLaws 145 = .ok (.l2i, 1) := by decide +kernel
theorem dX6_layLaws_146 : decode cX6_layLaws 146 = .ok (.putfield 227, 3) := by decide +kernel
theorem dX6_layLaws_149 : decode cX6_layLaws 149 = .ok (.return_, 1) := by decide +kernel
theorem dX6_laws_0 : decode cX6_laws 0 = .ok (.aload_n 0, 1) := by decide +kernel
theorem dX6_laws_1 : decode cX6_laws 1 = .ok (.iload_n 1, 1) := by decide +kernel
theorem dX6_laws_2 : decode cX6_laws 2 = .ok (.invokevirtual 230, 3) := by decide +kernel
theorem dX6_laws_5 : decode cX6_laws 5 = .ok (.ifCond .eq 25, 3) := by decide +kernel
theorem dX6_laws_8 : decode cX6_laws 8 = .ok (.iload_n 2, 1) := by decide +kernel
theorem dX6_laws_9 : decode cX6_laws 9 = .ok (.i2l, 1) := by decide +kernel
theorem dX6_laws_10 : decode cX6_laws 10 = .ok (.lconst 0, 1) := by decide +kernel
theorem dX6_laws_11 : decode cX6_laws 11 = .ok (.ldc2_w 128, 3) := by decide +kernel
theorem dX6_laws_14 : decode cX6_laws 14 = .ok (.invokestatic 53, 3) := by decide +kernel
theorem dX6_laws_17 : decode cX6_laws 17 = .ok (.ifCond .eq 13, 3) := by decide +kernel
theorem dX6_laws_20 : decode cX6_laws 20 = .ok (.iload_n 3, 1) := by decide +kernel
theorem dX6_laws_21 : decode cX6_laws 21 = .ok (.i2l, 1) := by decide +kernel
theorem dX6_laws_22 : decode cX6_laws 22 = .ok (.lconst 0, 1) := by decide +kernel
theorem dX6_laws_23 : decode cX6_laws 23 = .ok (.lconst 1, 1) := by decide +kernel
theorem dX6_laws_24 : decode cX6_laws 24 = .ok (.invokestatic 53, 3) := by decide +kernel
theorem dX6_laws_27 : decode cX6_laws 27 = .ok (.ifCond .ne 6, 3) := by decide +kernel
theorem dX6_laws_30 : decode cX6_laws 30 = .ok (.ldc 199, 2) := by decide +kernel
theorem dX6_laws_32 : decode cX6_laws 32 = .ok (.ireturn, 1) := by decide +kernel
theorem dX6_laws_33 : decode cX6_laws 33 = .ok (.aload_n 0, 1) := by decide +kernel
theorem dX6_laws_34 : decode cX6_laws 34 = .ok (.iload_n 1, 1) := by decide +kernel
theorem dX6_laws_35 : decode cX6_laws 35 = .ok (.iload_n 2, 1) := by decide +kernel
theorem dX6_laws_36 : decode cX6_laws 36 = .ok (.invokevirtual 233, 3) := by decide +kernel
theorem dX6_laws_39 : decode cX6_laws 39 = .ok (.iload_n 3, 1) := by decide +kernel
theorem dX6_laws_40 : decode cX6_laws 40 = .ok (.ifCond .ne 10, 3) := by decide +kernel
theorem dX6_laws_43 : decode cX6_laws 43 = .ok (.aload_n 0, 1) := by decide +kernel
theorem dX6_laws_44 : decode cX6_laws 44 = .ok (.getfield 227, 3) := by decide +kernel
theorem dX6_laws_47 : decode cX6_laws 47 = .ok (.goto 21, 3) := by decide +kernel
theorem dX6_laws_50 : decode cX6_laws 50 = .ok (.aload_n 0, 1) := by decide +kernel
theorem dX6_laws_51 : decode cX6_laws 51 = .ok (.getfield 209, 3) := by decide +kernel
theorem dX6_laws_54 : decode cX6_laws 54 = .ok (.bipush (-4), 2) := by decide +kernel
theorem dX6_laws_56 : decode cX6_laws 56 = .ok (.if_icmp .ne 8, 3) := by decide +kernel
theorem dX6_laws_59 : decode cX6_laws 59 = .ok (.ldc 200, 2) := by decide +kernel
theorem dX6_laws_61 : decode cX6_laws 61 = .ok (.goto 7, 3) := by decide +kernel
theorem dX6_laws_64 : decode cX6_laws 64 = .ok (.aload_n 0, 1) := by decide +kernel
theorem dX6_laws_65 : decode cX6_laws 65 = .ok (.getfield 209, 3) := by decide +kernel
theorem dX6_laws_68 : decode cX6_laws 68 = .ok (.ireturn, 1) := by decide +kernel
theorem dX6_bestLaws_0 : decode cX6_bestLaws 0 = .ok (.iload_n 1, 1) := by decide +kernel
theorem dX6_bestLaws_1 : decode cX6_bestLaws 1 = .ok (.i2l, 1) := by decide +kernel
theorem dX6_bestLaws_2 : decode cX6_bestLaws 2 = .ok (.lconst 0, 1) := by decide +kernel
theorem dX6_bestLaws_3 : decode cX6_bestLaws 3 = .ok (.ldc2_w 128, 3) := by decide +kernel
theorem dX6_bestLaws_6 : decode cX6_bestLaws 6 = .ok (.invokestatic 53, 3) := by decide +kernel
theorem dX6_bestLaws_9 : decode cX6_bestLaws 9 = .ok (.ifCond .eq 13, 3) := by decide +kernel
theorem dX6_bestLaws_12 : decode cX6_bestLaws 12 = .ok (.iload_n 2, 1) := by decide +kernel
theorem dX6_bestLaws_13 : decode cX6_bestLaws 13 = .ok (.i2l, 1) := by decide +kernel
theorem dX6_bestLaws_14 : decode cX6_bestLaws 14 = .ok (.lconst 0, 1) := by decide +kernel
theorem dX6_bestLaws_15 : decode cX6_bestLaws 15 = .ok (.lconst 1, 1) := by decide +kernel
theorem dX6_bestLaws_16 : decode cX6_bestLaws 16 = .ok (.invokestatic 53, 3) := by decide +kernel
theorem dX6_bestLaws_19 : decode cX6_bestLaws 19 = .ok (.ifCond .ne 6, 3) := by decide +kernel
theorem dX6_bestLaws_22 : decode cX6_bestLaws 22 = .ok (.ldc 199, 2) := by decide +kernel
theorem dX6_bestLaws_24 : decode cX6_bestLaws 24 = .ok (.ireturn, 1) := by decide +kernel
theorem dX6_bestLaws_25 : decode cX6_bestLaws 25 = .ok (.bipush (-4), 2) := by decide +kernel
theorem dX6_bestLaws_27 : decode cX6_bestLaws 27 = .ok (.istore_n 3, 1) := by decide +kernel
theorem dX6_bestLaws_28 : decode cX6_bestLaws 28 = .ok (.iconst 0, 1) := by decide +kernel
theorem dX6_bestLaws_29 : decode cX6_bestLaws 29 = .ok (.istore 4, 2) := by decide +kernel
theorem dX6_bestLaws_31 : decode cX6_bestLaws 31 = .ok (.iconst 0, 1) := by decide +kernel
theorem dX6_bestLaws_32 : decode cX6_bestLaws 32 = .ok (.istore 5, 2) := by decide +kernel
theorem dX6_bestLaws_34 : decode cX6_bestLaws 34 = .ok (.iload 5, 2) := by decide +kernel
theorem dX6_bestLaws_36 : decode cX6_bestLaws 36 = .ok (.bipush 16, 2) := by decide +kernel
theorem dX6_bestLaws_38 : decode cX6_bestLaws 38 = .ok (.if_icmp .ge 49, 3) := by decide +kernel
theorem dX6_bestLaws_41 : decode cX6_bestLaws 41 = .ok (.aload_n 0, 1) := by decide +kernel
theorem dX6_bestLaws_42 : decode cX6_bestLaws 42 = .ok (.iload 5, 2) := by decide +kernel
theorem dX6_bestLaws_44 : decode cX6_bestLaws 44 = .ok (.invokevirtual 230, 3) := by decide +kernel
theorem dX6_bestLaws_47 : decode cX6_bestLaws 47 = .ok (.ifCond .eq 34, 3) := by decide +kernel
theorem dX6_bestLaws_50 : decode cX6_bestLaws 50 = .ok (.aload_n 0, 1) := by decide +kernel
theorem dX6_bestLaws_51 : decode cX6_bestLaws 51 = .ok (.iload 5, 2) := by decide +kernel
theorem dX6_bestLaws_53 : decode cX6_bestLaws 53 = .ok (.iload_n 1, 1) := by decide +kernel
theorem dX6_bestLaws_54 : decode cX6_bestLaws 54 = .ok (.invokevirtual 233, 3) := by decide +kernel
theorem dX6_bestLaws_57 : decode cX6_bestLaws 57 = .ok (.iload_n 3, 1) := by decide +kernel
theorem dX6_bestLaws_58 : decode cX6_bestLaws 58 = .ok (.bipush (-4), 2) := by decide +kernel
theorem dX6_bestLaws_60 : decode cX6_bestLaws 60 = .ok (.if_icmp .eq 12, 3) := by decide +kernel
theorem dX6_bestLaws_63 : decode cX6_bestLaws 63 = .ok (.aload_n 0, 1) := by decide +kernel
theorem dX6_bestLaws_64 : decode cX6_bestLaws 64 = .ok (.getfield 227, 3) := by decide +kernel
theorem dX6_bestLaws_67 : decode cX6_bestLaws 67 = .ok (.iload 4, 2) := by decide +kernel
theorem dX6_bestLaws_69 : decode cX6_bestLaws 69 = .ok (.if_icmp .le 12, 3) := by decide +kernel
theorem dX6_bestLaws_72 : decode cX6_bestLaws 72 = .ok (.iload 5, 2) := by decide +kernel
theorem dX6_bestLaws_74 : decode cX6_bestLaws 74 = .ok (.istore_n 3, 1) := by decide +kernel
theorem dX6_bestLaws_75 : decode cX6_bestLaws 75 = .ok (.aload_n 0, 1) := by decide +kernel
theorem dX6_bestLaws_76 : decode cX6_bestLaws 76 = .ok (.getfield 227, 3) := by decide +kernel
theorem dX6_bestLaws_79 : decode cX6_bestLaws 79 = .ok (.istore 4, 2) := by decide +kernel
theorem dX6_bestLaws_81 : decode cX6_bestLaws 81 = .ok (.iinc 5 1, 3) := by decide +kernel
theorem dX6_bestLaws_84 : decode cX6_bestLaws 84 = .ok (.goto (-50), 3) := by decide +kernel
theorem dX6_bestLaws_87 : decode cX6_bestLaws 87 = .ok (.iload_n 2, 1) := by decide +kernel
theorem dX6_bestLaws_88 : decode cX6_bestLaws 88 = .ok (.ifCond .ne 7, 3) := by decide +kernel
theorem dX6_bestLaws_91 : decode cX6_bestLaws 91 = .ok (.iload_n 3, 1) := by decide +kernel
theorem dX6_bestLaws_92 : decode cX6_bestLaws 92 = .ok (.goto 5, 3) := by decide +kernel
theorem dX6_bestLaws_95 : decode cX6_bestLaws 95 = .ok (.iload 4, 2) := by decide +kernel
theorem dX6_bestLaws_97 : decode cX6_bestLaws 97 = .ok (.ireturn, 1) := by decide +kernel
theorem dX6_learnt_0 : decode cX6_learnt 0 = .ok (.aload_n 0, 1) := by decide +kernel
theorem dX6_learnt_1 : decode cX6_learnt 1 = .ok (.iconst 0, 1) := by decide +kernel
theorem dX6_learnt_2 : decode cX6_learnt 2 = .ok (.iconst 0, 1) := by decide +kernel
theorem dX6_learnt_3 : decode cX6_learnt 3 = .ok (.iload_n 1, 1) := by decide +kernel
theorem dX6_learnt_4 : decode cX6_learnt 4 = .ok (.invokevirtual 195, 3) := by decide +kernel
theorem dX6_learnt_7 : decode cX6_learnt 7 = .ok (.aload_n 0, 1) := by decide +kernel
theorem dX6_learnt_8 : decode cX6_learnt 8 = .ok (.getfield 164, 3) := by decide +kernel
theorem dX6_learnt_11 : decode cX6_learnt 11 = .ok (.ifCond .ne 7, 3) := by decide +kernel
theorem dX6_learnt_14 : decode cX6_learnt 14 = .ok (.iconst 0, 1) := by decide +kernel
theorem dX6_learnt_15 : decode cX6_learnt 15 = .ok (.goto 13, 3) := by decide +kernel
theorem dX6_learnt_18 : decode cX6_learnt 18 = .ok (.aload_n 0, 1) := by decide +kernel
theorem dX6_learnt_19 : decode cX6_learnt 19 = .ok (.getfield 167, 3) := by decide +kernel
theorem dX6_learnt_22 : decode cX6_learnt 22 = .ok (.aload_n 0, 1) := by decide +kernel
theorem dX6_learnt_23 : decode cX6_learnt 23 = .ok (.getfield 183, 3) := by decide +kernel
theorem dX6_learnt_26 : decode cX6_learnt 26 = .ok (.ldiv, 1) := by decide +kernel
theorem dX6_learnt_27 : decode cX6_learnt 27 = .ok (.l2i, 1) := by decide +kernel
theorem dX6_learnt_28 : decode cX6_learnt 28 = .ok (.istore_n 2, 1) := by decide +kernel
theorem dX6_learnt_29 : decode cX6_learnt 29 = .ok (.aload_n 0, 1) := by decide +kernel
theorem dX6_learnt_30 : decode cX6_learnt 30 = .ok (.getfield 25, 3) := by decide +kernel
theorem dX6_learnt_33 : decode cX6_learnt 33 = .ok (.iconst 3, 1) := by decide +kernel
theorem dX6_learnt_34 : decode cX6_learnt 34 = .ok (.iaload, 1) := by decide +kernel
theorem dX6_learnt_35 : decode cX6_learnt 35 = .ok (.iload_n 2, 1) := by decide +kernel
theorem dX6_learnt_36 : decode cX6_learnt 36 = .ok (.imul, 1) := by decide +kernel
theorem dX6_learnt_37 : decode cX6_learnt 37 = .ok (.bipush 10, 2) := by decide +kernel
theorem dX6_learnt_39 : decode cX6_learnt 39 = .ok (.aload_n 0, 1) := by decide +kernel
theorem dX6_learnt_40 : decode cX6_learnt 40 = .ok (.getfield 25, 3) := by decide +kernel
theorem dX6_learnt_43 : decode cX6_learnt 43 = .ok (.iconst 3, 1) := by decide +kernel
theorem dX6_learnt_44 : decode cX6_learnt 44 = .ok (.iaload, 1) := by decide +kernel
theorem dX6_learnt_45 : decode cX6_learnt 45 = .ok (.isub, 1) := by decide +kernel
theorem dX6_learnt_46 : decode cX6_learnt 46 = .ok (.iload_n 1, 1) := by decide +kernel
theorem dX6_learnt_47 : decode cX6_learnt 47 = .ok (.imul, 1) := by decide +kernel
theorem dX6_learnt_48 : decode cX6_learnt 48 = .ok (.iadd, 1) := by decide +kernel
theorem dX6_learnt_49 : decode cX6_learnt 49 = .ok (.bipush 10, 2) := by decide +kernel
theorem dX6_learnt_51 : decode cX6_learnt 51 = .ok (.idiv, 1) := by decide +kernel
theorem dX6_learnt_52 : decode cX6_learnt 52 = .ok (.ireturn, 1) := by decide +kernel
theorem dX6_learn_0 : decode cX6_learn 0 = .ok (.iload_n 1, 1) := by decide +kernel
theorem dX6_learn_1 : decode cX6_learn 1 = .ok (.invokestatic 190, 3) := by decide +kernel
theorem dX6_learn_4 : decode cX6_learn 4 = .ok (.ifCond .eq 25, 3) := by decide +kernel
theorem dX6_learn_7 : decode cX6_learn 7 = .ok (.iload_n 2, 1) := by decide +kernel
theorem dX6_learn_8 : decode cX6_learn 8 = .ok (.i2l, 1) := by decide +kernel
theorem dX6_learn_9 : decode cX6_learn 9 = .ok (.lconst 0, 1) := by decide +kernel
theorem dX6_learn_10 : decode cX6_learn 10 = .ok (.ldc2_w 128, 3) := by decide +kernel
theorem dX6_learn_13 : decode cX6_learn 13 = .ok (.invokestatic 53, 3) := by decide +kernel
theorem dX6_learn_16 : decode cX6_learn 16 = .ok (.ifCond .eq 13, 3) := by decide +kernel
theorem dX6_learn_19 : decode cX6_learn 19 = .ok (.iload_n 3, 1) := by decide +kernel
theorem dX6_learn_20 : decode cX6_learn 20 = .ok (.i2l, 1) := by decide +kernel
theorem dX6_learn_21 : decode cX6_learn 21 = .ok (.lconst 0, 1) := by decide +kernel
theorem dX6_learn_22 : decode cX6_learn 22 = .ok (.lconst 1, 1) := by decide +kernel
theorem dX6_learn_23 : decode cX6_learn 23 = .ok (.invokestatic 53, 3) := by decide +kernel
theorem dX6_learn_26 : decode cX6_learn 26 = .ok (.ifCond .ne 5, 3) := by decide +kernel
theorem dX6_learn_29 : decode cX6_learn 29 = .ok (.iconst (-1), 1) := by decide +kernel
theorem dX6_learn_30 : decode cX6_learn 30 = .ok (.ireturn, 1) := by decide +kernel
theorem dX6_learn_31 : decode cX6_learn 31 = .ok (.iload_n 1, 1) := by decide +kernel
theorem dX6_learn_32 : decode cX6_learn 32 = .ok (.istore 4, 2) := by decide +kernel
theorem dX6_learn_34 : decode cX6_learn 34 = .ok (.iconst 0, 1) := by decide +kernel
theorem dX6_learn_35 : decode cX6_learn 35 = .ok (.istore 5, 2) := by decide +kernel
theorem dX6_learn_37 : decode cX6_learn 37 = .ok (.iload 5, 2) := by decide +kernel
theorem dX6_learn_39 : decode cX6_learn 39 = .ok (.iload_n 3, 1) := by decide +kernel
theorem dX6_learn_40 : decode cX6_learn 40 = .ok (.ifCond .ne 7, 3) := by decide +kernel
theorem dX6_learn_43 : decode cX6_learn 43 = .ok (.iload_n 2, 1) := by decide +kernel
theorem dX6_learn_44 : decode cX6_learn 44 = .ok (.goto 5, 3) := by decide +kernel
theorem dX6_learn_47 : decode cX6_learn 47 = .ok (.bipush 100, 2) := by decide +kernel
theorem dX6_learn_49 : decode cX6_learn 49 = .ok (.if_icmp .ge 36, 3) := by decide +kernel
theorem dX6_learn_52 : decode cX6_learn 52 = .ok (.aload_n 0, 1) := by decide +kernel
theorem dX6_learn_53 : decode cX6_learn 53 = .ok (.iload 4, 2) := by decide +kernel
theorem dX6_learn_55 : decode cX6_learn 55 = .ok (.invokevirtual 237, 3) := by decide +kernel
theorem dX6_learn_58 : decode cX6_learn 58 = .ok (.istore 6, 2) := by decide +kernel
theorem dX6_learn_60 : decode cX6_learn 60 = .ok (.iload_n 3, 1) := by decide +kernel
theorem dX6_learn_61 : decode cX6_learn 61 = .ok (.iconst 1, 1) := by decide +kernel
theorem dX6_learn_62 : decode cX6_learn 62 = .ok (.if_icmp .ne 13, 3) := by decide +kernel
theorem dX6_learn_65 : decode cX6_learn 65 = .ok (.iload 6, 2) := by decide +kernel
theorem dX6_learn_67 : decode cX6_learn 67 = .ok (.iload 4, 2) := by decide +kernel
theorem dX6_learn_69 : decode cX6_learn 69 = .ok (.if_icmp .ne 6, 3) := by decide +kernel
theorem dX6_learn_72 : decode cX6_learn 72 = .ok (.iload 5, 2) := by decide +kernel
theorem dX6_learn_74 : decode cX6_learn 74 = .ok (.ireturn, 1) := by decide +kernel
theorem dX6_learn_75 : decode cX6_learn 75 = .ok (.iload 6, 2) := by decide +kernel
theorem dX6_learn_77 : decode cX6_learn 77 = .ok (.istore 4, 2) := by decide +kernel
theorem dX6_learn_79 : decode cX6_learn 79 = .ok (.iinc 5 1, 3) := by decide +kernel
theorem dX6_learn_82 : decode cX6_learn 82 = .ok (.goto (-45), 3) := by decide +kernel
theorem dX6_learn_85 : decode cX6_learn 85 = .ok (.iload_n 3, 1) := by decide +kernel
theorem dX6_learn_86 : decode cX6_learn 86 = .ok (.ifCond .ne 8, 3) := by decide +kernel
theorem dX6_learn_89 : decode cX6_learn 89 = .ok (.iload 4, 2) := by decide +kernel
theorem dX6_learn_91 : decode cX6_learn 91 = .ok (.goto 5, 3) := by decide +kernel
theorem dX6_learn_94 : decode cX6_learn 94 = .ok (.bipush (-4), 2) := by decide +kernel
theorem dX6_learn_96 : decode cX6_learn 96 = .ok (.ireturn, 1) := by decide +kernel
theorem dX6_sheet_0 : decode cX6_sheet 0 = .ok (.iload_n 1, 1) := by decide +kernel
theorem dX6_sheet_1 : decode cX6_sheet 1 = .ok (.i2l, 1) := by decide +kernel
theorem dX6_sheet_2 : decode cX6_sheet 2 = .ok (.lconst 0, 1) := by decide +kernel
theorem dX6_sheet_3 : decode cX6_sheet 3 = .ok (.ldc2_w 150, 3) := by decide +kernel
theorem dX6_sheet_6 : decode cX6_sheet 6 = .ok (.invokestatic 53, 3) := by decide +kernel
theorem dX6_sheet_9 : decode cX6_sheet 9 = .ok (.ifCond .eq 21, 3) := by decide +kernel
theorem dX6_sheet_12 : decode cX6_sheet 12 = .ok (.iload_n 2, 1) := by decide +kernel
theorem dX6_sheet_13 : decode cX6_sheet 13 = .ok (.i2l, 1) := by decide +kernel
theorem dX6_sheet_14 : decode cX6_sheet 14 = .ok (.lconst 0, 1) := by decide +kernel
theorem dX6_sheet_15 : decode cX6_sheet 15 = .ok (.ldc2_w 193, 3) := by decide +kernel
theorem dX6_sheet_18 : decode cX6_sheet 18 = .ok (.invokestatic 53, 3) := by decide +kernel
theorem dX6_sheet_21 : decode cX6_sheet 21 = .ok (.ifCond .eq 9, 3) := by decide +kernel
theorem dX6_sheet_24 : decode cX6_sheet 24 = .ok (.iload_n 3, 1) := by decide +kernel
theorem dX6_sheet_25 : decode cX6_sheet 25 = .ok (.bipush 40, 2) := by decide +kernel
theorem dX6_sheet_27 : decode cX6_sheet 27 = .ok (.if_icmp .le 5, 3) := by decide +kernel
theorem dX6_sheet_30 : decode cX6_sheet 30 = .ok (.iconst (-1), 1) := by decide +kernel
theorem dX6_sheet_31 : decode cX6_sheet 31 = .ok (.ireturn, 1) := by decide +kernel
theorem dX6_sheet_32 : decode cX6_sheet 32 = .ok (.iload_n 3, 1) := by decide +kernel
theorem dX6_sheet_33 : decode cX6_sheet 33 = .ok (.ifCond .ge 6, 3) := by decide +kernel
theorem dX6_sheet_36 : decode cX6_sheet 36 = .ok (.bipush (-14), 2) := by decide +kernel
theorem dX6_sheet_38 : decode cX6_sheet 38 = .ok (.ireturn, 1) := by decide +kernel
theorem dX6_sheet_39 : decode cX6_sheet 39 = .ok (.aload_n 0, 1) := by decide +kernel
theorem dX6_sheet_40 : decode cX6_sheet 40 = .ok (.getfield 41, 3) := by decide +kernel
theorem dX6_sheet_43 : decode cX6_sheet 43 = .ok (.iload_n 1, 1) := by decide +kernel
theorem dX6_sheet_44 : decode cX6_sheet 44 = .ok (.iload_n 2, 1) := by decide +kernel
theorem dX6_sheet_45 : decode cX6_sheet 45 = .ok (.iastore, 1) := by decide +kernel
theorem dX6_sheet_46 : decode cX6_sheet 46 = .ok (.aload_n 0, 1) := by decide +kernel
theorem dX6_sheet_47 : decode cX6_sheet 47 = .ok (.getfield 44, 3) := by decide +kernel
theorem dX6_sheet_50 : decode cX6_sheet 50 = .ok (.iload_n 1, 1) := by decide +kernel
theorem dX6_sheet_51 : decode cX6_sheet 51 = .ok (.iload_n 3, 1) := by decide +kernel
theorem dX6_sheet_52 : decode cX6_sheet 52 = .ok (.iastore, 1) := by decide +kernel
theorem dX6_sheet_53 : decode cX6_sheet 53 = .ok (.iconst 0, 1) := by decide +kernel
theorem dX6_sheet_54 : decode cX6_sheet 54 = .ok (.istore 4, 2) := by decide +kernel
theorem dX6_sheet_56 : decode cX6_sheet 56 = .ok (.iload 4, 2) := by decide +kernel
theorem dX6_sheet_58 : decode cX6_sheet 58 = .ok (.bipush 40, 2) := by decide +kernel
theorem dX6_sheet_60 : decode cX6_sheet 60 = .ok (.if_icmp .ge 22, 3) := by decide +kernel
theorem dX6_sheet_63 : decode cX6_sheet 63 = .ok (.aload_n 0, 1) := by decide +kernel
theorem dX6_sheet_64 : decode cX6_sheet 64 = .ok (.getfield 47, 3) := by decide +kernel
theorem dX6_sheet_67 : decode cX6_sheet 67 = .ok (.bipush 40, 2) := by decide +kernel
theorem dX6_sheet_69 : decode cX6_sheet 69 = .ok (.iload_n 1, 1) := by decide +kernel
theorem dX6_sheet_70 : decode cX6_sheet 70 = .ok (.imul, 1) := by decide +kernel
theorem dX6_sheet_71 : decode cX6_sheet 71 = .ok (.iload 4, 2) := by decide +kernel
theorem dX6_sheet_73 : decode cX6_sheet 73 = .ok (.iadd, 1) := by decide +kernel
theorem dX6_sheet_74 : decode cX6_sheet 74 = .ok (.iconst 0, 1) := by decide +kernel
theorem dX6_sheet_75 : decode cX6_sheet 75 = .ok (.iastore, 1) := by decide +kernel
theorem dX6_sheet_76 : decode cX6_sheet 76 = .ok (.iinc 4 1, 3) := by decide +kernel
theorem dX6_sheet_79 : decode cX6_sheet 79 = .ok (.goto (-23), 3) := by decide +kernel
theorem dX6_sheet_82 : decode cX6_sheet 82 = .ok (.iconst 1, 1) := by decide +kernel
theorem dX6_sheet_83 : decode cX6_sheet 83 = .ok (.ireturn, 1) := by decide +kernel
theorem dX6_lay_0 : decode cX6_lay 0 = .ok (.iload_n 1, 1) := by decide +kernel
theorem dX6_lay_1 : decode cX6_lay 1 = .ok (.i2l, 1) := by decide +kernel
theorem dX6_lay_2 : decode cX6_lay 2 = .ok (.lconst 0, 1) := by decide +kernel
theorem dX6_lay_3 : decode cX6_lay 3 = .ok (.ldc2_w 150, 3) := by decide +kernel
theorem dX6_lay_6 : decode cX6_lay 6 = .ok (.invokestatic 53, 3) := by decide +kernel
theorem dX6_lay_9 : decode cX6_lay 9 = .ok (.ifCond .ne 5, 3) := by decide +kernel
theorem dX6_lay_12 : decode cX6_lay 12 = .ok (.iconst (-1), 1) := by decide +kernel
theorem dX6_lay_13 : decode cX6_lay 13 = .ok (.ireturn, 1) := by decide +kernel
theorem dX6_lay_14 : decode cX6_lay 14 = .ok (.aload_n 0, 1) := by decide +kernel
theorem dX6_lay_15 : decode cX6_lay 15 = .ok (.getfield 41, 3) := by decide +kernel
theorem dX6_lay_18 : decode cX6_lay 18 = .ok (.iload_n 1, 1) := by decide +kernel
theorem dX6_lay_19 : decode cX6_lay 19 = .ok (.iaload, 1) := by decide +kernel
theorem dX6_lay_20 : decode cX6_lay 20 = .ok (.bipush (-4), 2) := by decide +kernel
theorem dX6_lay_22 : decode cX6_lay 22 = .ok (.if_icmp .ne 6, 3) := by decide +kernel
theorem dX6_lay_25 : decode cX6_lay 25 = .ok (.bipush (-11), 2) := by decide +kernel
theorem dX6_lay_27 : decode cX6_lay 27 = .ok (.ireturn, 1) := by decide +kernel
theorem dX6_lay_28 : decode cX6_lay 28 = .ok (.iload_n 2, 1) := by decide +kernel
theorem dX6_lay_29 : decode cX6_lay 29 = .ok (.i2l, 1) := by decide +kernel
theorem dX6_lay_30 : decode cX6_lay 30 = .ok (.lconst 0, 1) := by decide +kernel
theorem dX6_lay_31 : decode cX6_lay 31 = .ok (.aload_n 0, 1) := by decide +kernel
theorem dX6_lay_32 : decode cX6_lay 32 = .ok (.getfield 44, 3) := by decide +kernel
theorem dX6_lay_35 : decode cX6_lay 35 = .ok (.iload_n 1, 1) := by decide +kernel
theorem dX6_lay_36 : decode cX6_lay 36 = .ok (.iaload, 1) := by decide +kernel
theorem dX6_lay_37 : decode cX6_lay 37 = .ok (.iconst 1, 1) := by decide +kernel
theorem dX6_lay_38 : decode cX6_lay 38 = .ok (.isub, 1) := by decide +kernel
theorem dX6_lay_39 : decode cX6_lay 39 = .ok (.i2l, 1) := by decide +kernel
theorem dX6_lay_40 : decode cX6_lay 40 = .ok (.invokestatic 53, 3) := by decide +kernel
theorem dX6_lay_43 : decode cX6_lay 43 = .ok (.ifCond .ne 6, 3) := by decide +kernel
theorem dX6_lay_46 : decode cX6_lay 46 = .ok (.bipush (-12), 2) := by decide +kernel
theorem dX6_lay_48 : decode cX6_lay 48 = .ok (.ireturn, 1) := by decide +kernel
theorem dX6_lay_49 : decode cX6_lay 49 = .ok (.aload_n 0, 1) := by decide +kernel
theorem dX6_lay_50 : decode cX6_lay 50 = .ok (.getfield 47, 3) := by decide +kernel
theorem dX6_lay_53 : decode cX6_lay 53 = .ok (.bipush 40, 2) := by decide +kernel
theorem dX6_lay_55 : decode cX6_lay 55 = .ok (.iload_n 1, 1) := by decide +kernel
theorem dX6_lay_56 : decode cX6_lay 56 = .ok (.imul, 1) := by decide +kernel
theorem dX6_lay_57 : decode cX6_lay 57 = .ok (.iload_n 2, 1) := by decide +kernel
theorem dX6_lay_58 : decode cX6_lay 58 = .ok (.iadd, 1) := by decide +kernel
theorem dX6_lay_59 : decode cX6_lay 59 = .ok (.aload_n 0, 1) := by decide +kernel
theorem dX6_lay_60 : decode cX6_lay 60 = .ok (.getfield 41, 3) := by decide +kernel
theorem dX6_lay_63 : decode cX6_lay 63 = .ok (.iload_n 1, 1) := by decide +kernel
theorem dX6_lay_64 : decode cX6_lay 64 = .ok (.iaload, 1) := by decide +kernel
theorem dX6_lay_65 : decode cX6_lay 65 = .ok (.ifCond .ne 13, 3) := by decide +kernel
theorem dX6_lay_68 : decode cX6_lay 68 = .ok (.iload_n 3, 1) := by decide +kernel
theorem dX6_lay_69 : decode cX6_lay 69 = .ok (.bipush 24, 2) := by decide +kernel
theorem dX6_lay_71 : decode cX6_lay 71 = .ok (.ishl, 1) := by decide +kernel
theorem dX6_lay_72 : decode cX6_lay 72 = .ok (.bipush 24, 2) := by decide +kernel
theorem dX6_lay_74 : decode cX6_lay 74 = .ok (.ishr, 1) := by decide +kernel
theorem dX6_lay_75 : decode cX6_lay 75 = .ok (.goto 24, 3) := by decide +kernel
theorem dX6_lay_78 : decode cX6_lay 78 = .ok (.aload_n 0, 1) := by decide +kernel
theorem dX6_lay_79 : decode cX6_lay 79 = .ok (.getfield 41, 3) := by decide +kernel
theorem dX6_lay_82 : decode cX6_lay 82 = .ok (.iload_n 1, 1) := by decide +kernel
theorem dX6_lay_83 : decode cX6_lay 83 = .ok (.iaload, 1) := by decide +kernel
theorem dX6_lay_84 : decode cX6_lay 84 = .ok (.iconst 1, 1) := by decide +kernel
theorem dX6_lay_85 : decode cX6_lay 85 = .ok (.if_icmp .ne 13, 3) := by decide +kernel
theorem dX6_lay_88 : decode cX6_lay 88 = .ok (.iload_n 3, 1) := by decide +kernel
theorem dX6_lay_89 : decode cX6_lay 89 = .ok (.bipush 16, 2) := by decide +kernel
theorem dX6_lay_91 : decode cX6_lay 91 = .ok (.ishl, 1) := by decide +kernel
theorem dX6_lay_92 : decode cX6_lay 92 = .ok (.bipush 16, 2) := by decide +kernel
theorem dX6_lay_94 : decode cX6_lay 94 = .ok (.ishr, 1) := by decide +kernel
theorem dX6_lay_95 : decode cX6_lay 95 = .ok (.goto 4, 3) := by decide +kernel
theorem dX6_lay_98 : decode cX6_lay 98 = .ok (.iload_n 3, 1) := by decide +kernel
theorem dX6_lay_99 : decode cX6_lay 99 = .ok (.iastore, 1) := by decide +kernel
theorem dX6_lay_100 : decode cX6_lay 100 = .ok (.iconst 1, 1) := by decide +kernel
theorem dX6_lay_101 : decode cX6_lay 101 = .ok (.ireturn, 1) := by decide +kernel
theorem dX6_read_0 : decode cX6_read 0 = .ok (.iload_n 1, 1) := by decide +kernel
theorem dX6_read_1 : decode cX6_read 1 = .ok (.i2l, 1) := by decide +kernel
theorem dX6_read_2 : decode cX6_read 2 = .ok (.lconst 0, 1) := by decide +kernel
theorem dX6_read_3 : decode cX6_read 3 = .ok (.ldc2_w 150, 3) := by decide +kernel
theorem dX6_read_6 : decode cX6_read 6 = .ok (.invokestatic 53, 3) := by decide +kernel
theorem dX6_read_9 : decode cX6_read 9 = .ok (.ifCond .eq 28, 3) := by decide +kernel
theorem dX6_read_12 : decode cX6_read 12 = .ok (.iload_n 2, 1) := by decide +kernel
theorem dX6_read_13 : decode cX6_read 13 = .ok (.i2l, 1) := by decide +kernel
theorem dX6_read_14 : decode cX6_read 14 = .ok (.lconst 0, 1) := by decide +kernel
theorem dX6_read_15 : decode cX6_read 15 = .ok (.ldc2_w 193, 3) := by decide +kernel
theorem dX6_read_18 : decode cX6_read 18 = .ok (.invokestatic 53, 3) := by decide +kernel
theorem dX6_read_21 : decode cX6_read 21 = .ok (.ifCond .eq 16, 3) := by decide +kernel
theorem dX6_read_24 : decode cX6_read 24 = .ok (.iload 4, 2) := by decide +kernel
theorem dX6_read_26 : decode cX6_read 26 = .ok (.i2l, 1) := by decide +kernel
theorem dX6_read_27 : decode cX6_read 27 = .ok (.lconst 0, 1) := by decide +kernel
theorem dX6_read_28 : decode cX6_read 28 = .ok (.ldc2_w 240, 3) := by decide +kernel
theorem dX6_read_31 : decode cX6_read 31 = .ok (.invokestatic 53, 3) := by decide +kernel
theorem dX6_read_34 : decode cX6_read 34 = .ok (.ifCond .ne 5, 3) := by decide +kernel
theorem dX6_read_37 : decode cX6_read 37 = .ok (.iconst (-1), 1) := by decide +kernel
theorem dX6_read_38 : decode cX6_read 38 = .ok (.ireturn, 1) := by decide +kernel
theorem dX6_read_39 : decode cX6_read 39 = .ok (.iconst 0, 1) := by decide +kernel
theorem dX6_read_40 : decode cX6_read 40 = .ok (.istore 5, 2) := by decide +kernel
theorem dX6_read_42 : decode cX6_read 42 = .ok (.iconst 0, 1) := by decide +kernel
theorem dX6_read_43 : decode cX6_read 43 = .ok (.istore 6, 2) := by decide +kernel
theorem dX6_read_45 : decode cX6_read 45 = .ok (.iconst 0, 1) := by decide +kernel
theorem dX6_read_46 : decode cX6_read 46 = .ok (.istore 7, 2) := by decide +kernel
theorem dX6_read_48 : decode cX6_read 48 = .ok (.iload 7, 2) := by decide +kernel
theorem dX6_read_50 : decode cX6_read 50 = .ok (.iconst 4, 1) := by decide +kernel
theorem dX6_read_51 : decode cX6_read 51 = .ok (.iload 4, 2) := by decide +kernel
theorem dX6_read_53 : decode cX6_read 53 = .ok (.imul, 1) := by decide +kernel
theorem dX6_read_54 : decode cX6_read 54 = .ok (.if_icmp .ge 162, 3) := by decide +kernel
theorem dX6_read_57 : decode cX6_read 57 = .ok (.iload 5, 2) := by decide +kernel
theorem dX6_read_59 : decode cX6_read 59 = .ok (.ifCond .ne 157, 3) := by decide +kernel
theorem dX6_read_62 : decode cX6_read 62 = .ok (.aload_n 0, 1) := by decide +kernel
theorem dX6_read_63 : decode cX6_read 63 = .ok (.getfield 41, 3) := by decide +kernel
theorem dX6_read_66 : decode cX6_read 66 = .ok (.iload_n 1, 1) := by decide +kernel
theorem dX6_read_67 : decode cX6_read 67 = .ok (.iaload, 1) := by decide +kernel
theorem dX6_read_68 : decode cX6_read 68 = .ok (.bipush (-4), 2) := by decide +kernel
theorem dX6_read_70 : decode cX6_read 70 = .ok (.if_icmp .ne 7, 3) := by decide +kernel
theorem dX6_read_73 : decode cX6_read 73 = .ok (.iconst 1, 1) := by decide +kernel
theorem dX6_read_74 : decode cX6_read 74 = .ok (.goto 44, 3) := by decide +kernel
theorem dX6_read_77 : decode cX6_read 77 = .ok (.aload_n 0, 1) := by decide +kernel
theorem dX6_read_78 : decode cX6_read 78 = .ok (.getfield 41, 3) := by decide +kernel
theorem dX6_read_81 : decode cX6_read 81 = .ok (.iload_n 1, 1) := by decide +kernel
theorem dX6_read_82 : decode cX6_read 82 = .ok (.iaload, 1) := by decide +kernel
theorem dX6_read_83 : decode cX6_read 83 = .ok (.iload_n 2, 1) := by decide +kernel
theorem dX6_read_84 : decode cX6_read 84 = .ok (.if_icmp .eq 7, 3) := by decide +kernel
theorem dX6_read_87 : decode cX6_read 87 = .ok (.iconst 3, 1) := by decide +kernel
theorem dX6_read_88 : decode cX6_read 88 = .ok (.goto 30, 3) := by decide +kernel
theorem dX6_read_91 : decode cX6_read 91 = .ok (.iload_n 3, 1) := by decide +kernel
theorem dX6_read_92 : decode cX6_read 92 = .ok (.i2l, 1) := by decide +kernel
theorem dX6_read_93 : decode cX6_read 93 = .ok (.iload 7, 2) := by decide +kernel
theorem dX6_read_95 : decode cX6_read 95 = .ok (.i2l, 1) := by decide +kernel
theorem dX6_read_96 : decode cX6_read 96 = .ok (.ladd, 1) := by decide +kernel
theorem dX6_read_97 : decode cX6_read 97 = .ok (.lconst 0, 1) := by decide +kernel
theorem dX6_read_98 : decode cX6_read 98 = .ok (.aload_n 0, 1) := by decide +kernel
theorem dX6_read_99 : decode cX6_read 99 = .ok (.getfield 44, 3) := by decide +kernel
theorem dX6_read_102 : decode cX6_read 102 = .ok (.iload_n 1, 1) := by decide +kernel
theorem dX6_read_103 : decode cX6_read 103 = .ok (.iaload, 1) := by decide +kernel
theorem dX6_read_104 : decode cX6_read 104 = .ok (.iconst 1, 1) := by decide +kernel
theorem dX6_read_105 : decode cX6_read 105 = .ok (.isub, 1) := by decide +kernel
theorem dX6_read_106 : decode cX6_read 106 = .ok (.i2l, 1) := by decide +kernel
theorem dX6_read_107 : decode cX6_read 107 = .ok (.invokestatic 53, 3) := by decide +kernel
theorem dX6_read_110 : decode cX6_read 110 = .ok (.ifCond .ne 7, 3) := by decide +kernel
theorem dX6_read_113 : decode cX6_read 113 = .ok (.iconst 2, 1) := by decide +kernel
theorem dX6_read_114 : decode cX6_read 114 = .ok (.goto 4, 3) := by decide +kernel
theorem dX6_read_117 : decode cX6_read 117 = .ok (.iconst 0, 1) := by decide +kernel
theorem dX6_read_118 : decode cX6_read 118 = .ok (.istore 5, 2) := by decide +kernel
theorem dX6_read_120 : decode cX6_read 120 = .ok (.iload 5, 2) := by decide +kernel
theorem dX6_read_122 : decode cX6_read 122 = .ok (.ifCond .ne 88, 3) := by decide +kernel
theorem dX6_read_125 : decode cX6_read 125 = .ok (.iload 7, 2) := by decide +kernel
theorem dX6_read_127 : decode cX6_read 127 = .ok (.iconst 4, 1) := by decide +kernel
theorem dX6_read_128 : decode cX6_read 128 = .ok (.irem, 1) := by decide +kernel
theorem dX6_read_129 : decode cX6_read 129 = .ok (.iconst 3, 1) := by decide +kernel
theorem dX6_read_130 : decode cX6_read 130 = .ok (.if_icmp .ne 80, 3) := by decide +kernel
theorem dX6_read_133 : decode cX6_read 133 = .ok (.bipush 40, 2) := by decide +kernel
theorem dX6_read_135 : decode cX6_read 135 = .ok (.iload_n 1, 1) := by decide +kernel
theorem dX6_read_136 : decode cX6_read 136 = .ok (.imul, 1) := by decide +kernel
theorem dX6_read_137 : decode cX6_read 137 = .ok (.iload_n 3, 1) := by decide +kernel
theorem dX6_read_138 : decode cX6_read 138 = .ok (.iadd, 1) := by decide +kernel
theorem dX6_read_139 : decode cX6_read 139 = .ok (.iload 7, 2) := by decide +kernel
theorem dX6_read_141 : decode cX6_read 141 = .ok (.iadd, 1) := by decide +kernel
theorem dX6_read_142 : decode cX6_read 142 = .ok (.iconst 3, 1) := by decide +kernel
theorem dX6_read_143 : decode cX6_read 143 = .ok (.isub, 1) := by decide +kernel
theorem dX6_read_144 : decode cX6_read 144 = .ok (.istore 8, 2) := by decide +kernel
theorem dX6_read_146 : decode cX6_read 146 = .ok (.aload_n 0, 1) := by decide +kernel
theorem dX6_read_147 : decode cX6_read 147 = .ok (.getfield 47, 3) := by decide +kernel
theorem dX6_read_150 : decode cX6_read 150 = .ok (.iload 8, 2) := by decide +kernel
theorem dX6_read_152 : decode cX6_read 152 = .ok (.iaload, 1) := by decide +kernel
theorem dX6_read_153 : decode cX6_read 153 = .ok (.aload_n 0, 1) := by decide +kernel
theorem dX6_read_154 : decode cX6_read 154 = .ok (.getfield 47, 3) := by decide +kernel
theorem dX6_read_157 : decode cX6_read 157 = .ok (.iload 8, 2) := by decide +kernel
theorem dX6_read_159 : decode cX6_read 159 = .ok (.iconst 1, 1) := by decide +kernel
theorem dX6_read_160 : decode cX6_read 160 = .ok (.iadd, 1) := by decide +kernel
theorem dX6_read_161 : decode cX6_read 161 = .ok (.iaload, 1) := by decide +kernel
theorem dX6_read_162 : decode cX6_read 162 = .ok (.aload_n 0, 1) := by decide +kernel
theorem dX6_read_163 : decode cX6_read 163 = .ok (.getfield 47, 3) := by decide +kernel
theorem dX6_read_166 : decode cX6_read 166 = .ok (.iload 8, 2) := by decide +kernel
theorem dX6_read_168 : decode cX6_read 168 = .ok (.iconst 2, 1) := by decide +kernel
theorem dX6_read_169 : decode cX6_read 169 = .ok (.iadd, 1) := by decide +kernel
theorem dX6_read_170 : decode cX6_read 170 = .ok (.iaload, 1) := by decide +kernel
theorem dX6_read_171 : decode cX6_read 171 = .ok (.aload_n 0, 1) := by decide +kernel
theorem dX6_read_172 : decode cX6_read 172 = .ok (.getfield 47, 3) := by decide +kernel
theorem dX6_read_175 : decode cX6_read 175 = .ok (.iload 8, 2) := by decide +kernel
theorem dX6_read_177 : decode cX6_read 177 = .ok (.iconst 3, 1) := by decide +kernel
theorem dX6_read_178 : decode cX6_read 178 = .ok (.iadd, 1) := by decide +kernel
theorem dX6_read_179 : decode cX6_read 179 = .ok (.iaload, 1) := by decide +kernel
theorem dX6_read_180 : decode cX6_read 180 = .ok (.invokestatic 132, 3) := by decide +kernel
theorem dX6_read_183 : decode cX6_read 183 = .ok (.ifCond .ne 9, 3) := by decide +kernel
theorem dX6_read_186 : decode cX6_read 186 = .ok (.bipush (-20), 2) := by decide +kernel
theorem dX6_read_188 : decode cX6_read 188 = .ok (.iload 6, 2) := by decide +kernel
theorem dX6_read_190 : decode cX6_read 190 = .ok (.isub, 1) := by decide +kernel
theorem dX6_read_191 : decode cX6_read 191 = .ok (.ireturn, 1) := by decide +kernel
theorem dX6_read_192 : decode cX6_read 192 = .ok (.iinc 6 1, 3) := by decide +kernel
theorem dX6_read_195 : decode cX6_read 195 = .ok (.aload_n 0, 1) := by decide +kernel
theorem dX6_read_196 : decode cX6_read 196 = .ok (.getfield 123, 3) := by decide +kernel
theorem dX6_read_199 : decode cX6_read 199 = .ok (.iload 6, 2) := by decide +kernel
theorem dX6_read_201 : decode cX6_read 201 = .ok (.iadd, 1) := by decide +kernel
theorem dX6_read_202 : decode cX6_read 202 = .ok (.bipush 8, 2) := by decide +kernel
theorem dX6_read_204 : decode cX6_read 204 = .ok (.if_icmp .le 6, 3) := by decide +kernel
theorem dX6_read_207 : decode cX6_read 207 = .ok (.bipush (-3), 2) := by decide +kernel
theorem dX6_read_209 : decode cX6_read 209 = .ok (.ireturn, 1) := by decide +kernel
theorem dX6_read_210 : decode cX6_read 210 = .ok (.iinc 7 1, 3) := by decide +kernel
theorem dX6_read_213 : decode cX6_read 213 = .ok (.goto (-165), 3) := by decide +kernel
theorem dX6_read_216 : decode cX6_read 216 = .ok (.iconst 0, 1) := by decide +kernel
theorem dX6_read_217 : decode cX6_read 217 = .ok (.istore 7, 2) := by decide +kernel
theorem dX6_read_219 : decode cX6_read 219 = .ok (.iload 7, 2) := by decide +kernel
theorem dX6_read_221 : decode cX6_read 221 = .ok (.iload 6, 2) := by decide +kernel
theorem dX6_read_223 : decode cX6_read 223 = .ok (.if_icmp .ge 77, 3) := by decide +kernel
theorem dX6_read_226 : decode cX6_read 226 = .ok (.bipush 40, 2) := by decide +kernel
theorem dX6_read_228 : decode cX6_read 228 = .ok (.iload_n 1, 1) := by decide +kernel
theorem dX6_read_229 : decode cX6_read 229 = .ok (.imul, 1) := by decide +kernel
theorem dX6_read_230 : decode cX6_read 230 = .ok (.iload_n 3, 1) := by decide +kernel
theorem dX6_read_231 : decode cX6_read 231 = .ok (.iadd, 1) := by decide +kernel
theorem dX6_read_232 : decode cX6_read 232 = .ok (.iconst 4, 1) := by decide +kernel
theorem dX6_read_233 : decode cX6_read 233 = .ok (.iload 7, 2) := by decide +kernel
theorem dX6_read_235 : decode cX6_read 235 = .ok (.imul, 1) := by decide +kernel
theorem dX6_read_236 : decode cX6_read 236 = .ok (.iadd, 1) := by decide +kernel
theorem dX6_read_237 : decode cX6_read 237 = .ok (.istore 8, 2) := by decide +kernel
theorem dX6_read_239 : decode cX6_read 239 = .ok (.aload_n 0, 1) := by decide +kernel
theorem dX6_read_240 : decode cX6_read 240 = .ok (.getfield 19, 3) := by decide +kernel
theorem dX6_read_243 : decode cX6_read 243 = .ok (.aload_n 0, 1) := by decide +kernel
theorem dX6_read_244 : decode cX6_read 244 = .ok (.getfield 123, 3) := by decide +kernel
theorem dX6_read_247 : decode cX6_read 247 = .ok (.aload_n 0, 1) := by decide +kernel
theorem dX6_read_248 : decode cX6_read 248 = .ok (.getfield 47, 3) := by decide +kernel
theorem dX6_read_251 : decode cX6_read 251 = .ok (.iload 8, 2) := by decide +kernel
theorem dX6_read_253 : decode cX6_read 253 = .ok (.iaload, 1) := by decide +kernel
theorem dX6_read_254 : decode cX6_read 254 = .ok (.aload_n 0, 1) := by decide +kernel
theorem dX6_read_255 : decode cX6_read 255 = .ok (.getfield 47, 3) := by decide +kernel
theorem dX6_read_258 : decode cX6_read 258 = .ok (.iload 8, 2) := by decide +kernel
theorem dX6_read_260 : decode cX6_read 260 = .ok (.iconst 1, 1) := by decide +kernel
theorem dX6_read_261 : decode cX6_read 261 = .ok (.iadd, 1) := by decide +kernel
theorem dX6_read_262 : decode cX6_read 262 = .ok (.iaload, 1) := by decide +kernel
theorem dX6_read_263 : decode cX6_read 263 = .ok (.aload_n 0, 1) := by decide +kernel
theorem dX6_read_264 : decode cX6_read 264 = .ok (.getfield 47, 3) := by decide +kernel
theorem dX6_read_267 : decode cX6_read 267 = .ok (.iload 8, 2) := by decide +kernel
theorem dX6_read_269 : decode cX6_read 269 = .ok (.iconst 2, 1) := by decide +kernel
theorem dX6_read_270 : decode cX6_read 270 = .ok (.iadd, 1) := by decide +kernel
theorem dX6_read_271 : decode cX6_read 271 = .ok (.iaload, 1) := by decide +kernel
theorem dX6_read_272 : decode cX6_read 272 = .ok (.aload_n 0, 1) := by decide +kernel
theorem dX6_read_273 : decode cX6_read 273 = .ok (.getfield 47, 3) := by decide +kernel
theorem dX6_read_276 : decode cX6_read 276 = .ok (.iload 8, 2) := by decide +kernel
theorem dX6_read_278 : decode cX6_read 278 = .ok (.iconst 3, 1) := by decide +kernel
theorem dX6_read_279 : decode cX6_read 279 = .ok (.iadd, 1) := by decide +kernel
theorem dX6_read_280 : decode cX6_read 280 = .ok (.iaload, 1) := by decide +kernel
theorem dX6_read_281 : decode cX6_read 281 = .ok (.invokestatic 104, 3) := by decide +kernel
theorem dX6_read_284 : decode cX6_read 284 = .ok (.aload_n 0, 1) := by decide +kernel
theorem dX6_read_285 : decode cX6_read 285 = .ok (.dup, 1) := by decide +kernel
theorem dX6_read_286 : decode cX6_read 286 = .ok (.getfield 123, 3) := by decide +kernel
theorem dX6_read_289 : decode cX6_read 289 = .ok (.iconst 1, 1) := by decide +kernel
theorem dX6_read_290 : decode cX6_read 290 = .ok (.iadd, 1) := by decide +kernel
theorem dX6_read_291 : decode cX6_read 291 = .ok (.putfield 123, 3) := by decide +kernel
theorem dX6_read_294 : decode cX6_read 294 = .ok (.iinc 7 1, 3) := by decide +kernel
theorem dX6_read_297 : decode cX6_read 297 = .ok (.goto (-78), 3) := by decide +kernel
theorem dX6_read_300 : decode cX6_read 300 = .ok (.aload_n 0, 1) := by decide +kernel
theorem dX6_read_301 : decode cX6_read 301 = .ok (.iload 5, 2) := by decide +kernel
theorem dX6_read_303 : decode cX6_read 303 = .ok (.putfield 242, 3) := by decide +kernel
theorem dX6_read_306 : decode cX6_read 306 = .ok (.iload 6, 2) := by decide +kernel
theorem dX6_read_308 : decode cX6_read 308 = .ok (.ireturn, 1) := by decide +kernel
theorem dX6_torn_0 : decode cX6_torn 0 = .ok (.aload_n 0, 1) := by decide +kernel
theorem dX6_torn_1 : decode cX6_torn 1 = .ok (.getfield 242, 3) := by decide +kernel
theorem dX6_torn_4 : decode cX6_torn 4 = .ok (.ireturn, 1) := by decide +kernel
theorem dX6_count_0 : decode cX6_count 0 = .ok (.iconst 0, 1) := by decide +kernel
theorem dX6_count_1 : decode cX6_count 1 = .ok (.istore_n 2, 1) := by decide +kernel
theorem dX6_count_2 : decode cX6_count 2 = .ok (.iconst 0, 1) := by decide +kernel
theorem dX6_count_3 : decode cX6_count 3 = .ok (.istore_n 3, 1) := by decide +kernel
theorem dX6_count_4 : decode cX6_count 4 = .ok (.iconst 0, 1) := by decide +kernel
theorem dX6_count_5 : decode cX6_count 5 = .ok (.istore 4, 2) := by decide +kernel
theorem dX6_count_7 : decode cX6_count 7 = .ok (.iconst 0, 1) := by decide +kernel
theorem dX6_count_8 : decode cX6_count 8 = .ok (.istore 5, 2) := by decide +kernel
theorem dX6_count_10 : decode cX6_count 10 = .ok (.iload 5, 2) := by decide +kernel
theorem dX6_count_12 : decode cX6_count 12 = .ok (.aload_n 0, 1) := by decide +kernel
theorem dX6_count_13 : decode cX6_count 13 = .ok (.getfield 123, 3) := by decide +kernel
theorem dX6_count_16 : decode cX6_count 16 = .ok (.if_icmp .ge 48, 3) := by decide +kernel
theorem dX6_count_19 : decode cX6_count 19 = .ok (.iload_n 2, 1) := by decide +kernel
theorem dX6_count_20 : decode cX6_count 20 = .ok (.aload_n 0, 1) := by decide +kernel
theorem dX6_count_21 : decode cX6_count 21 = .ok (.iload 5, 2) := by decide +kernel
theorem dX6_count_23 : decode cX6_count 23 = .ok (.iconst 0, 1) := by decide +kernel
theorem dX6_count_24 : decode cX6_count 24 = .ok (.invokevirtual 142, 3) := by decide +kernel
theorem dX6_count_27 : decode cX6_count 27 = .ok (.iadd, 1) := by decide +kernel
theorem dX6_count_28 : decode cX6_count 28 = .ok (.istore_n 2, 1) := by decide +kernel
theorem dX6_count_29 : decode cX6_count 29 = .ok (.iload_n 3, 1) := by decide +kernel
theorem dX6_count_30 : decode cX6_count 30 = .ok (.aload_n 0, 1) := by decide +kernel
theorem dX6_count_31 : decode cX6_count 31 = .ok (.iload 5, 2) := by decide +kernel
theorem dX6_count_33 : decode cX6_count 33 = .ok (.iconst 4, 1) := by decide +kernel
theorem dX6_count_34 : decode cX6_count 34 = .ok (.invokevirtual 142, 3) := by decide +kernel
theorem dX6_count_37 : decode cX6_count 37 = .ok (.iadd, 1) := by decide +kernel
theorem dX6_count_38 : decode cX6_count 38 = .ok (.istore_n 3, 1) := by decide +kernel
theorem dX6_count_39 : decode cX6_count 39 = .ok (.iload 4, 2) := by decide +kernel
theorem dX6_count_41 : decode cX6_count 41 = .ok (.aload_n 0, 1) := by decide +kernel
theorem dX6_count_42 : decode cX6_count 42 = .ok (.iload 5, 2) := by decide +kernel
theorem dX6_count_44 : decode cX6_count 44 = .ok (.invokevirtual 147, 3) := by decide +kernel
theorem dX6_count_47 : decode cX6_count 47 = .ok (.ifCond .eq 7, 3) := by decide +kernel
theorem dX6_count_50 : decode cX6_count 50 = .ok (.iconst 1, 1) := by decide +kernel
theorem dX6_count_51 : decode cX6_count 51 = .ok (.goto 4, 3) := by decide +kernel
theorem dX6_count_54 : decode cX6_count 54 = .ok (.iconst 0, 1) := by decide +kernel
theorem dX6_count_55 : decode cX6_count 55 = .ok (.iadd, 1) := by decide +kernel
theorem dX6_count_56 : decode cX6_count 56 = .ok (.istore 4, 2) := by decide +kernel
theorem dX6_count_58 : decode cX6_count 58 = .ok (.iinc 5 1, 3) := by decide +kernel
theorem dX6_count_61 : decode cX6_count 61 = .ok (.goto (-51), 3) := by decide +kernel
theorem dX6_count_64 : decode cX6_count 64 = .ok (.iload_n 1, 1) := by decide +kernel
theorem dX6_count_65 : decode cX6_count 65 = .ok (.tableswitch 79 0 5 #[39, 44, 46, 48, 51, 56], 39) := by decide +kernel
theorem dX6_count_104 : decode cX6_count 104 = .ok (.aload_n 0, 1) := by decide +kernel
theorem dX6_count_105 : decode cX6_count 105 = .ok (.getfield 123, 3) := by decide +kernel
theorem dX6_count_108 : decode cX6_count 108 = .ok (.ireturn, 1) := by decide +kernel
theorem dX6_count_109 : decode cX6_count 109 = .ok (.iload_n 2, 1) := by decide +kernel
theorem dX6_count_110 : decode cX6_count 110 = .ok (.ireturn, 1) := by decide +kernel
theorem dX6_count_111 : decode cX6_count 111 = .ok (.iload_n 3, 1) := by decide +kernel
theorem dX6_count_112 : decode cX6_count 112 = .ok (.ireturn, 1) := by decide +kernel
theorem dX6_count_113 : decode cX6_count 113 = .ok (.iload 4, 2) := by decide +kernel
theorem dX6_count_115 : decode cX6_count 115 = .ok (.ireturn, 1) := by decide +kernel
theorem dX6_count_116 : decode cX6_count 116 = .ok (.aload_n 0, 1) := by decide +kernel
theorem dX6_count_117 : decode cX6_count 117 = .ok (.getfield 50, 3) := by decide +kernel
theorem dX6_count_120 : decode cX6_count 120 = .ok (.ireturn, 1) := by decide +kernel
theorem dX6_count_121 : decode cX6_count 121 = .ok (.aload_n 0, 1) := by decide +kernel
theorem dX6_count_122 : decode cX6_count 122 = .ok (.getfield 41, 3) := by decide +kernel
theorem dX6_count_125 : decode cX6_count 125 = .ok (.iconst 0, 1) := by decide +kernel
theorem dX6_count_126 : decode cX6_count 126 = .ok (.iaload, 1) := by decide +kernel
theorem dX6_count_127 : decode cX6_count 127 = .ok (.bipush (-4), 2) := by decide +kernel
theorem dX6_count_129 : decode cX6_count 129 = .ok (.if_icmp .ne 8, 3) := by decide +kernel
theorem dX6_count_132 : decode cX6_count 132 = .ok (.bipush (-4), 2) := by decide +kernel
theorem dX6_count_134 : decode cX6_count 134 = .ok (.goto 9, 3) := by decide +kernel
theorem dX6_count_137 : decode cX6_count 137 = .ok (.aload_n 0, 1) := by decide +kernel
theorem dX6_count_138 : decode cX6_count 138 = .ok (.getfield 44, 3) := by decide +kernel
theorem dX6_count_141 : decode cX6_count 141 = .ok (.iconst 0, 1) := by decide +kernel
theorem dX6_count_142 : decode cX6_count 142 = .ok (.iaload, 1) := by decide +kernel
theorem dX6_count_143 : decode cX6_count 143 = .ok (.ireturn, 1) := by decide +kernel
theorem dX6_count_144 : decode cX6_count 144 = .ok (.iconst (-1), 1) := by decide +kernel
theorem dX6_count_145 : decode cX6_count 145 = .ok (.ireturn, 1) := by decide +kernel
