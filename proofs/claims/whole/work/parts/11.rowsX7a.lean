theorem dX7_init_0 : decode cX7_init 0 = .ok (.aload_n 0, 1) := by decide +kernel
theorem dX7_init_1 : decode cX7_init 1 = .ok (.invokespecial 1, 3) := by decide +kernel
theorem dX7_init_4 : decode cX7_init 4 = .ok (.aload_n 0, 1) := by decide +kernel
theorem dX7_init_5 : decode cX7_init 5 = .ok (.sipush 368, 3) := by decide +kernel
theorem dX7_init_8 : decode cX7_init 8 = .ok (.newarray .int, 2) := by decide +kernel
theorem dX7_init_10 : decode cX7_init 10 = .ok (.putfield 7, 3) := by decide +kernel
theorem dX7_init_13 : decode cX7_init 13 = .ok (.aload_n 0, 1) := by decide +kernel
theorem dX7_init_14 : decode cX7_init 14 = .ok (.iconst 4, 1) := by decide +kernel
theorem dX7_init_15 : decode cX7_init 15 = .ok (.putfield 13, 3) := by decide +kernel
theorem dX7_init_18 : decode cX7_init 18 = .ok (.aload_n 0, 1) := by decide +kernel
theorem dX7_init_19 : decode cX7_init 19 = .ok (.bipush 92, 2) := by decide +kernel
theorem dX7_init_21 : decode cX7_init 21 = .ok (.newarray .int, 2) := by decide +kernel
theorem dX7_init_23 : decode cX7_init 23 = .ok (.putfield 17, 3) := by decide +kernel
theorem dX7_init_26 : decode cX7_init 26 = .ok (.aload_n 0, 1) := by decide +kernel
theorem dX7_init_27 : decode cX7_init 27 = .ok (.sipush 400, 3) := by decide +kernel
theorem dX7_init_30 : decode cX7_init 30 = .ok (.newarray .int, 2) := by decide +kernel
theorem dX7_init_32 : decode cX7_init 32 = .ok (.putfield 20, 3) := by decide +kernel
theorem dX7_init_35 : decode cX7_init 35 = .ok (.aload_n 0, 1) := by decide +kernel
theorem dX7_init_36 : decode cX7_init 36 = .ok (.bipush 16, 2) := by decide +kernel
theorem dX7_init_38 : decode cX7_init 38 = .ok (.newarray .int, 2) := by decide +kernel
theorem dX7_init_40 : decode cX7_init 40 = .ok (.dup, 1) := by decide +kernel
theorem dX7_init_41 : decode cX7_init 41 = .ok (.iconst 0, 1) := by decide +kernel
theorem dX7_init_42 : decode cX7_init 42 = .ok (.iconst 0, 1) := by decide +kernel
theorem dX7_init_43 : decode cX7_init 43 = .ok (.iastore, 1) := by decide +kernel
theorem dX7_init_44 : decode cX7_init 44 = .ok (.dup, 1) := by decide +kernel
theorem dX7_init_45 : decode cX7_init 45 = .ok (.iconst 1, 1) := by decide +kernel
theorem dX7_init_46 : decode cX7_init 46 = .ok (.bipush 6, 2) := by decide +kernel
theorem dX7_init_48 : decode cX7_init 48 = .ok (.iastore, 1) := by decide +kernel
theorem dX7_init_49 : decode cX7_init 49 = .ok (.dup, 1) := by decide +kernel
theorem dX7_init_50 : decode cX7_init 50 = .ok (.iconst 2, 1) := by decide +kernel
theorem dX7_init_51 : decode cX7_init 51 = .ok (.bipush 9, 2) := by decide +kernel
theorem dX7_init_53 : decode cX7_init 53 = .ok (.iastore, 1) := by decide +kernel
theorem dX7_init_54 : decode cX7_init 54 = .ok (.dup, 1) := by decide +kernel
theorem dX7_init_55 : decode cX7_init 55 = .ok (.iconst 3, 1) := by decide +kernel
theorem dX7_init_56 : decode cX7_init 56 = .ok (.bipush 12, 2) := by decide +kernel
theorem dX7_init_58 : decode cX7_init 58 = .ok (.iastore, 1) := by decide +kernel
theorem dX7_init_59 : decode cX7_init 59 = .ok (.dup, 1) := by decide +kernel
theorem dX7_init_60 : decode cX7_init 60 = .ok (.iconst 4, 1) := by decide +kernel
theorem dX7_init_61 : decode cX7_init 61 = .ok (.bipush 16, 2) := by decide +kernel
theorem dX7_init_63 : decode cX7_init 63 = .ok (.iastore, 1) := by decide +kernel
theorem dX7_init_64 : decode cX7_init 64 = .ok (.dup, 1) := by decide +kernel
theorem dX7_init_65 : decode cX7_init 65 = .ok (.iconst 5, 1) := by decide +kernel
theorem dX7_init_66 : decode cX7_init 66 = .ok (.bipush 22, 2) := by decide +kernel
theorem dX7_init_68 : decode cX7_init 68 = .ok (.iastore, 1) := by decide +kernel
theorem dX7_init_69 : decode cX7_init 69 = .ok (.dup, 1) := by decide +kernel
theorem dX7_init_70 : decode cX7_init 70 = .ok (.bipush 6, 2) := by decide +kernel
theorem dX7_init_72 : decode cX7_init 72 = .ok (.bipush 26, 2) := by decide +kernel
theorem dX7_init_74 : decode cX7_init 74 = .ok (.iastore, 1) := by decide +kernel
theorem dX7_init_75 : decode cX7_init 75 = .ok (.dup, 1) := by decide +kernel
theorem dX7_init_76 : decode cX7_init 76 = .ok (.bipush 7, 2) := by decide +kernel
theorem dX7_init_78 : decode cX7_init 78 = .ok (.bipush 32, 2) := by decide +kernel
theorem dX7_init_80 : decode cX7_init 80 = .ok (.iastore, 1) := by decide +kernel
theorem dX7_init_81 : decode cX7_init 81 = .ok (.dup, 1) := by decide +kernel
theorem dX7_init_82 : decode cX7_init 82 = .ok (.bipush 8, 2) := by decide +kernel
theorem dX7_init_84 : decode cX7_init 84 = .ok (.bipush 40, 2) := by decide +kernel
theorem dX7_init_86 : decode cX7_init 86 = .ok (.iastore, 1) := by decide +kernel
theorem dX7_init_87 : decode cX7_init 87 = .ok (.dup, 1) := by decide +kernel
theorem dX7_init_88 : decode cX7_init 88 = .ok (.bipush 9, 2) := by decide +kernel
theorem dX7_init_90 : decode cX7_init 90 = .ok (.bipush 43, 2) := by decide +kernel
theorem dX7_init_92 : decode cX7_init 92 = .ok (.iastore, 1) := by decide +kernel
theorem dX7_init_93 : decode cX7_init 93 = .ok (.dup, 1) := by decide +kernel
theorem dX7_init_94 : decode cX7_init 94 = .ok (.bipush 10, 2) := by decide +kernel
theorem dX7_init_96 : decode cX7_init 96 = .ok (.bipush 47, 2) := by decide +kernel
theorem dX7_init_98 : decode cX7_init 98 = .ok (.iastore, 1) := by decide +kernel
theorem dX7_init_99 : decode cX7_init 99 = .ok (.dup, 1) := by decide +kernel
theorem dX7_init_100 : decode cX7_init 100 = .ok (.bipush 11, 2) := by decide +kernel
theorem dX7_init_102 : decode cX7_init 102 = .ok (.bipush 52, 2) := by decide +kernel
theorem dX7_init_104 : decode cX7_init 104 = .ok (.iastore, 1) := by decide +kernel
theorem dX7_init_105 : decode cX7_init 105 = .ok (.dup, 1) := by decide +kernel
theorem dX7_init_106 : decode cX7_init 106 = .ok (.bipush 12, 2) := by decide +kernel
theorem dX7_init_108 : decode cX7_init 108 = .ok (.bipush 56, 2) := by decide +kernel
theorem dX7_init_110 : decode cX7_init 110 = .ok (.iastore, 1) := by decide +kernel
theorem dX7_init_111 : decode cX7_init 111 = .ok (.dup, 1) := by decide +kernel
theorem dX7_init_112 : decode cX7_init 112 = .ok (.bipush 13, 2) := by decide +kernel
theorem dX7_init_114 : decode cX7_init 114 = .ok (.bipush 60, 2) := by decide +kernel
theorem dX7_init_116 : decode cX7_init 116 = .ok (.iastore, 1) := by decide +kernel
theorem dX7_init_117 : decode cX7_init 117 = .ok (.dup, 1) := by decide +kernel
theorem dX7_init_118 : decode cX7_init 118 = .ok (.bipush 14, 2) := by decide +kernel
theorem dX7_init_120 : decode cX7_init 120 = .ok (.bipush 66, 2) := by decide +kernel
theorem dX7_init_122 : decode cX7_init 122 = .ok (.iastore, 1) := by decide +kernel
theorem dX7_init_123 : decode cX7_init 123 = .ok (.dup, 1) := by decide +kernel
theorem dX7_init_124 : decode cX7_init 124 = .ok (.bipush 15, 2) := by decide +kernel
theorem dX7_init_126 : decode cX7_init 126 = .ok (.bipush 72, 2) := by decide +kernel
theorem dX7_init_128 : decode cX7_init 128 = .ok (.iastore, 1) := by decide +kernel
theorem dX7_init_129 : decode cX7_init 129 = .ok (.putfield 23, 3) := by decide +kernel
theorem dX7_init_132 : decode cX7_init 132 = .ok (.aload_n 0, 1) := by decide +kernel
theorem dX7_init_133 : decode cX7_init 133 = .ok (.bipush 72, 2) := by decide +kernel
theorem dX7_init_135 : decode cX7_init 135 = .ok (.newarray .int, 2) := by decide +kernel
theorem dX7_init_137 : decode cX7_init 137 = .ok (.dup, 1) := by decide +kernel
theorem dX7_init_138 : decode cX7_init 138 = .ok (.iconst 0, 1) := by decide +kernel
theorem dX7_init_139 : decode cX7_init 139 = .ok (.bipush 104, 2) := by decide +kernel
theorem dX7_init_141 : decode cX7_init 141 = .ok (.iastore, 1) := by decide +kernel
theorem dX7_init_142 : decode cX7_init 142 = .ok (.dup, 1) := by decide +kernel
theorem dX7_init_143 : decode cX7_init 143 = .ok (.iconst 1, 1) := by decide +kernel
theorem dX7_init_144 : decode cX7_init 144 = .ok (.bipush 111, 2) := by decide +kernel
theorem dX7_init_146 : decode cX7_init 146 = .ok (.iastore, 1) := by decide +kernel
theorem dX7_init_147 : decode cX7_init 147 = .ok (.dup, 1) := by decide +kernel
theorem dX7_init_148 : decode cX7_init 148 = .ok (.iconst 2, 1) := by decide +kernel
theorem dX7_init_149 : decode cX7_init 149 = .ok (.bipush 117, 2) := by decide +kernel
theorem dX7_init_151 : decode cX7_init 151 = .ok (.iastore, 1) := by decide +kernel
theorem dX7_init_152 : decode cX7_init 152 = .ok (.dup, 1) := by decide +kernel
theorem dX7_init_153 : decode cX7_init 153 = .ok (.iconst 3, 1) := by decide +kernel
theorem dX7_init_154 : decode cX7_init 154 = .ok (.bipush 115, 2) := by decide +kernel
theorem dX7_init_156 : decode cX7_init 156 = .ok (.iastore, 1) := by decide +kernel
theorem dX7_init_157 : decode cX7_init 157 = .ok (.dup, 1) := by decide +kernel
theorem dX7_init_158 : decode cX7_init 158 = .ok (.iconst 4, 1) := by decide +kernel
theorem dX7_init_159 : decode cX7_init 159 = .ok (.bipush 101, 2) := by decide +kernel
theorem dX7_init_161 : decode cX7_init 161 = .ok (.iastore, 1) := by decide +kernel
theorem dX7_init_162 : decode cX7_init 162 = .ok (.dup, 1) := by decide +kernel
theorem dX7_init_163 : decode cX7_init 163 = .ok (.iconst 5, 1) := by decide +kernel
theorem dX7_init_164 : decode cX7_init 164 = .ok (.bipush 115, 2) := by decide +kernel
theorem dX7_init_166 : decode cX7_init 166 = .ok (.iastore, 1) := by decide +kernel
theorem dX7_init_167 : decode cX7_init 167 = .ok (.dup, 1) := by decide +kernel
theorem dX7_init_168 : decode cX7_init 168 = .ok (.bipush 6, 2) := by decide +kernel
theorem dX7_init_170 : decode cX7_init 170 = .ok (.bipush 108, 2) := by decide +kernel
theorem dX7_init_172 : decode cX7_init 172 = .ok (.iastore, 1) := by decide +kernel
theorem dX7_init_173 : decode cX7_init 173 = .ok (.dup, 1) := by decide +kernel
theorem dX7_init_174 : decode cX7_init 174 = .ok (.bipush 7, 2) := by decide +kernel
theorem dX7_init_176 : decode cX7_init 176 = .ok (.bipush 97, 2) := by decide +kernel
theorem dX7_init_178 : decode cX7_init 178 = .ok (.iastore, 1) := by decide +kernel
theorem dX7_init_179 : decode cX7_init 179 = .ok (.dup, 1) := by decide +kernel
theorem dX7_init_180 : decode cX7_init 180 = .ok (.bipush 8, 2) := by decide +kernel
theorem dX7_init_182 : decode cX7_init 182 = .ok (.bipush 119, 2) := by decide +kernel
theorem dX7_init_184 : decode cX7_init 184 = .ok (.iastore, 1) := by decide +kernel
theorem dX7_init_185 : decode cX7_init 185 = .ok (.dup, 1) := by decide +kernel
theorem dX7_init_186 : decode cX7_init 186 = .ok (.bipush 9, 2) := by decide +kernel
theorem dX7_init_188 : decode cX7_init 188 = .ok (.bipush 111, 2) := by decide +kernel
theorem dX7_init_190 : decode cX7_init 190 = .ok (.iastore, 1) := by decide +kernel
theorem dX7_init_191 : decode cX7_init 191 = .ok (.dup, 1) := by decide +kernel
theorem dX7_init_192 : decode cX7_init 192 = .ok (.bipush 10, 2) := by decide +kernel
theorem dX7_init_194 : decode cX7_init 194 = .ok (.bipush 110, 2) := by decide +kernel
theorem dX7_init_196 : decode cX7_init 196 = .ok (.iastore, 1) := by decide +kernel
theorem dX7_init_197 : decode cX7_init 197 = .ok (.dup, 1) := by decide +kernel
theorem dX7_init_198 : decode cX7_init 198 = .ok (.bipush 11, 2) := by decide +kernel
theorem dX7_init_200 : decode cX7_init 200 = .ok (.bipush 101, 2) := by decide +kernel
theorem dX7_init_202 : decode cX7_init 202 = .ok (.iastore, 1) := by decide +kernel
theorem dX7_init_203 : decode cX7_init 203 = .ok (.dup, 1) := by decide +kernel
theorem dX7_init_204 : decode cX7_init 204 = .ok (.bipush 12, 2) := by decide +kernel
theorem dX7_init_206 : decode cX7_init 206 = .ok (.bipush 109, 2) := by decide +kernel
theorem dX7_init_208 : decode cX7_init 208 = .ok (.iastore, 1) := by decide +kernel
theorem dX7_init_209 : decode cX7_init 209 = .ok (.dup, 1) := by decide +kernel
theorem dX7_init_210 : decode cX7_init 210 = .ok (.bipush 13, 2) := by decide +kernel
theorem dX7_init_212 : decode cX7_init 212 = .ok (.bipush 111, 2) := by decide +kernel
theorem dX7_init_214 : decode cX7_init 214 = .ok (.iastore, 1) := by decide +kernel
theorem dX7_init_215 : decode cX7_init 215 = .ok (.dup, 1) := by decide +kernel
theorem dX7_init_216 : decode cX7_init 216 = .ok (.bipush 14, 2) := by decide +kernel
theorem dX7_init_218 : decode cX7_init 218 = .ok (.bipush 118, 2) := by decide +kernel
theorem dX7_init_220 : decode cX7_init 220 = .ok (.iastore, 1) := by decide +kernel
theorem dX7_init_221 : decode cX7_init 221 = .ok (.dup, 1) := by decide +kernel
theorem dX7_init_222 : decode cX7_init 222 = .ok (.bipush 15, 2) := by decide +kernel
theorem dX7_init_224 : decode cX7_init 224 = .ok (.bipush 101, 2) := by decide +kernel
theorem dX7_init_226 : decode cX7_init 226 = .ok (.iastore, 1) := by decide +kernel
theorem dX7_init_227 : decode cX7_init 227 = .ok (.dup, 1) := by decide +kernel
theorem dX7_init_228 : decode cX7_init 228 = .ok (.bipush 16, 2) := by decide +kernel
theorem dX7_init_230 : decode cX7_init 230 = .ok (.bipush 101, 2) := by decide +kernel
theorem dX7_init_232 : decode cX7_init 232 = .ok (.iastore, 1) := by decide +kernel
theorem dX7_init_233 : decode cX7_init 233 = .ok (.dup, 1) := by decide +kernel
theorem dX7_init_234 : decode cX7_init 234 = .ok (.bipush 17, 2) := by decide +kernel
theorem dX7_init_236 : decode cX7_init 236 = .ok (.bipush 120, 2) := by decide +kernel
theorem dX7_init_238 : decode cX7_init 238 = .ok (.iastore, 1) := by decide +kernel
theorem dX7_init_239 : decode cX7_init 239 = .ok (.dup, 1) := by decide +kernel
theorem dX7_init_240 : decode cX7_init 240 = .ok (.bipush 18, 2) := by decide +kernel
theorem dX7_init_242 : decode cX7_init 242 = .ok (.bipush 112, 2) := by decide +kernel
theorem dX7_init_244 : decode cX7_init 244 = .ok (.iastore, 1) := by decide +kernel
theorem dX7_init_245 : decode cX7_init 245 = .ok (.dup, 1) := by decide +kernel
theorem dX7_init_246 : decode cX7_init 246 = .ok (.bipush 19, 2) := by decide +kernel
theorem dX7_init_248 : decode cX7_init 248 = .ok (.bipush 101, 2) := by decide +kernel
theorem dX7_init_250 : decode cX7_init 250 = .ok (.iastore, 1) := by decide +kernel
theorem dX7_init_251 : decode cX7_init 251 = .ok (.dup, 1) := by decide +kernel
theorem dX7_init_252 : decode cX7_init 252 = .ok (.bipush 20, 2) := by decide +kernel
theorem dX7_init_254 : decode cX7_init 254 = .ok (.bipush 99, 2) := by decide +kernel
theorem dX7_init_256 : decode cX7_init 256 = .ok (.iastore, 1) := by decide +kernel
theorem dX7_init_257 : decode cX7_init 257 = .ok (.dup, 1) := by decide +kernel
theorem dX7_init_258 : decode cX7_init 258 = .ok (.bipush 21, 2) := by decide +kernel
theorem dX7_init_260 : decode cX7_init 260 = .ok (.bipush 116, 2) := by decide +kernel
theorem dX7_init_262 : decode cX7_init 262 = .ok (.iastore, 1) := by decide +kernel
theorem dX7_init_263 : decode cX7_init 263 = .ok (.dup, 1) := by decide +kernel
theorem dX7_init_264 : decode cX7_init 264 = .ok (.bipush 22, 2) := by decide +kernel
theorem dX7_init_266 : decode cX7_init 266 = .ok (.bipush 100, 2) := by decide +kernel
theorem dX7_init_268 : decode cX7_init 268 = .ok (.iastore, 1) := by decide +kernel
theorem dX7_init_269 : decode cX7_init 269 = .ok (.dup, 1) := by decide +kernel
theorem dX7_init_270 : decode cX7_init 270 = .ok (.bipush 23, 2) := by decide +kernel
theorem dX7_init_272 : decode cX7_init 272 = .ok (.bipush 105, 2) := by decide +kernel
theorem dX7_init_274 : decode cX7_init 274 = .ok (.iastore, 1) := by decide +kernel
theorem dX7_init_275 : decode cX7_init 275 = .ok (.dup, 1) := by decide +kernel
theorem dX7_init_276 : decode cX7_init 276 = .ok (.bipush 24, 2) := by decide +kernel
theorem dX7_init_278 : decode cX7_init 278 = .ok (.bipush 101, 2) := by decide +kernel
theorem dX7_init_280 : decode cX7_init 280 = .ok (.iastore, 1) := by decide +kernel
theorem dX7_init_281 : decode cX7_init 281 = .ok (.dup, 1) := by decide +kernel
theorem dX7_init_282 : decode cX7_init 282 = .ok (.bipush 25, 2) := by decide +kernel
theorem dX7_init_284 : decode cX7_init 284 = .ok (.bipush 100, 2) := by decide +kernel
theorem dX7_init_286 : decode cX7_init 286 = .ok (.iastore, 1) := by decide +kernel
theorem dX7_init_287 : decode cX7_init 287 = .ok (.dup, 1) := by decide +kernel
theorem dX7_init_288 : decode cX7_init 288 = .ok (.bipush 26, 2) := by decide +kernel
theorem dX7_init_290 : decode cX7_init 290 = .ok (.bipush 101, 2) := by decide +kernel
theorem dX7_init_292 : decode cX7_init 292 = .ok (.iastore, 1) := by decide +kernel
theorem dX7_init_293 : decode cX7_init 293 = .ok (.dup, 1) := by decide +kernel
theorem dX7_init_294 : decode cX7_init 294 = .ok (.bipush 27, 2) := by decide +kernel
theorem dX7_init_296 : decode cX7_init 296 = .ok (.bipush 108, 2) := by decide +kernel
theorem dX7_init_298 : decode cX7_init 298 = .ok (.iastore, 1) := by decide +kernel
theorem dX7_init_299 : decode cX7_init 299 = .ok (.dup, 1) := by decide +kernel
theorem dX7_init_300 : decode cX7_init 300 = .ok (.bipush 28, 2) := by decide +kernel
theorem dX7_init_302 : decode cX7_init 302 = .ok (.bipush 100, 2) := by decide +kernel
theorem dX7_init_304 : decode cX7_init 304 = .ok (.iastore, 1) := by decide +kernel
theorem dX7_init_305 : decode cX7_init 305 = .ok (.dup, 1) := by decide +kernel
theorem dX7_init_306 : decode cX7_init 306 = .ok (.bipush 29, 2) := by decide +kernel
theorem dX7_init_308 : decode cX7_init 308 = .ok (.bipush 101, 2) := by decide +kernel
theorem dX7_init_310 : decode cX7_init 310 = .ok (.iastore, 1) := by decide +kernel
theorem dX7_init_311 : decode cX7_init 311 = .ok (.dup, 1) := by decide +kernel
theorem dX7_init_312 : decode cX7_init 312 = .ok (.bipush 30, 2) := by decide +kernel
theorem dX7_init_314 : decode cX7_init 314 = .ok (.bipush 115, 2) := by decide +kernel
theorem dX7_init_316 : decode cX7_init 316 = .ok (.iastore, 1) := by decide +kernel
theorem dX7_init_317 : decode cX7_init 317 = .ok (.dup, 1) := by decide +kernel
theorem dX7_init_318 : decode cX7_init 318 = .ok (.bipush 31, 2) := by decide +kernel
theorem dX7_init_320 : decode cX7_init 320 = .ok (.bipush 116, 2) := by decide +kernel
theorem dX7_init_322 : decode cX7_init 322 = .ok (.iastore, 1) := by decide +kernel
theorem dX7_init_323 : decode cX7_init 323 = .ok (.dup, 1) := by decide +kernel
theorem dX7_init_324 : decode cX7_init 324 = .ok (.bipush 32, 2) := by decide +kernel
theorem dX7_init_326 : decode cX7_init 326 = .ok (.bipush 121, 2) := by decide +kernel
theorem dX7_init_328 : decode cX7_init 328 = .ok (.iastore, 1) := by decide +kernel
theorem dX7_init_329 : decode cX7_init 329 = .ok (.dup, 1) := by decide +kernel
theorem dX7_init_330 : decode cX7_init 330 = .ok (.bipush 33, 2) := by decide +kernel
theorem dX7_init_332 : decode cX7_init 332 = .ok (.bipush 111, 2) := by decide +kernel
theorem dX7_init_334 : decode cX7_init 334 = .ok (.iastore, 1) := by decide +kernel
theorem dX7_init_335 : decode cX7_init 335 = .ok (.dup, 1) := by decide +kernel
theorem dX7_init_336 : decode cX7_init 336 = .ok (.bipush 34, 2) := by decide +kernel
theorem dX7_init_338 : decode cX7_init 338 = .ok (.bipush 117, 2) := by decide +kernel
theorem dX7_init_340 : decode cX7_init 340 = .ok (.iastore, 1) := by decide +kernel
theorem dX7_init_341 : decode cX7_init 341 = .ok (.dup, 1) := by decide +kernel
theorem dX7_init_342 : decode cX7_init 342 = .ok (.bipush 35, 2) := by decide +kernel
theorem dX7_init_344 : decode cX7_init 344 = .ok (.bipush 110, 2) := by decide +kernel
theorem dX7_init_346 : decode cX7_init 346 = .ok (.iastore, 1) := by decide +kernel
theorem dX7_init_347 : decode cX7_init 347 = .ok (.dup, 1) := by decide +kernel
theorem dX7_init_348 : decode cX7_init 348 = .ok (.bipush 36, 2) := by decide +kernel
theorem dX7_init_350 : decode cX7_init 350 = .ok (.bipush 103, 2) := by decide +kernel
theorem dX7_init_352 : decode cX7_init 352 = .ok (.iastore, 1) := by decide +kernel
theorem dX7_init_353 : decode cX7_init 353 = .ok (.dup, 1) := by decide +kernel
theorem dX7_init_354 : decode cX7_init 354 = .ok (.bipush 37, 2) := by decide +kernel
theorem dX7_init_356 : decode cX7_init 356 = .ok (.bipush 101, 2) := by decide +kernel
theorem dX7_init_358 : decode cX7_init 358 = .ok (.iastore, 1) := by decide +kernel
theorem dX7_init_359 : decode cX7_init 359 = .ok (.dup, 1) := by decide +kernel
theorem dX7_init_360 : decode cX7_init 360 = .ok (.bipush 38, 2) := by decide +kernel
theorem dX7_init_362 : decode cX7_init 362 = .ok (.bipush 115, 2) := by decide +kernel
theorem dX7_init_364 : decode cX7_init 364 = .ok (.iastore, 1) := by decide +kernel
theorem dX7_init_365 : decode cX7_init 365 = .ok (.dup, 1) := by decide +kernel
theorem dX7_init_366 : decode cX7_init 366 = .ok (.bipush 39, 2) := by decide +kernel
theorem dX7_init_368 : decode cX7_init 368 = .ok (.bipush 116, 2) := by decide +kernel
theorem dX7_init_370 : decode cX7_init 370 = .ok (.iastore, 1) := by decide +kernel
theorem dX7_init_371 : decode cX7_init 371 = .ok (.dup, 1) := by decide +kernel
theorem dX7_init_372 : decode cX7_init 372 = .ok (.bipush 40, 2) := by decide +kernel
theorem dX7_init_374 : decode cX7_init 374 = .ok (.bipush 115, 2) := by decide +kernel
theorem dX7_init_376 : decode cX7_init 376 = .ok (.iastore, 1) := by decide +kernel
theorem dX7_init_377 : decode cX7_init 377 = .ok (.dup, 1) := by decide +kernel
theorem dX7_init_378 : decode cX7_init 378 = .ok (.bipush 41, 2) := by decide +kernel
theorem dX7_init_380 : decode cX7_init 380 = .ok (.bipush 117, 2) := by decide +kernel
theorem dX7_init_382 : decode cX7_init 382 = .ok (.iastore, 1) := by decide +kernel
theorem dX7_init_383 : decode cX7_init 383 = .ok (.dup, 1) := by decide +kernel
theorem dX7_init_384 : decode cX7_init 384 = .ok (.bipush 42, 2) := by decide +kernel
theorem dX7_init_386 : decode cX7_init 386 = .ok (.bipush 109, 2) := by decide +kernel
theorem dX7_init_388 : decode cX7_init 388 = .ok (.iastore, 1) := by decide +kernel
theorem dX7_init_389 : decode cX7_init 389 = .ok (.dup, 1) := by decide +kernel
theorem dX7_init_390 : decode cX7_init 390 = .ok (.bipush 43, 2) := by decide +kernel
theorem dX7_init_392 : decode cX7_init 392 = .ok (.bipush 109, 2) := by decide +kernel
theorem dX7_init_394 : decode cX7_init 394 = .ok (.iastore, 1) := by decide +kernel
theorem dX7_init_395 : decode cX7_init 395 = .ok (.dup, 1) := by decide +kernel
theorem dX7_init_396 : decode cX7_init 396 = .ok (.bipush 44, 2) := by decide +kernel
theorem dX7_init_398 : decode cX7_init 398 = .ok (.bipush 101, 2) := by decide +kernel
theorem dX7_init_400 : decode cX7_init 400 = .ok (.iastore, 1) := by decide +kernel
theorem dX7_init_401 : decode cX7_init 401 = .ok (.dup, 1) := by decide +kernel
theorem dX7_init_402 : decode cX7_init 402 = .ok (.bipush 45, 2) := by decide +kernel
theorem dX7_init_404 : decode cX7_init 404 = .ok (.bipush 97, 2) := by decide +kernel
theorem dX7_init_406 : decode cX7_init 406 = .ok (.iastore, 1) := by decide +kernel
theorem dX7_init_407 : decode cX7_init 407 = .ok (.dup, 1) := by decide +kernel
theorem dX7_init_408 : decode cX7_init 408 = .ok (.bipush 46, 2) := by decide +kernel
theorem dX7_init_410 : decode cX7_init 410 = .ok (.bipush 110, 2) := by decide +kernel
theorem dX7_init_412 : decode cX7_init 412 = .ok (.iastore, 1) := by decide +kernel
theorem dX7_init_413 : decode cX7_init 413 = .ok (.dup, 1) := by decide +kernel
theorem dX7_init_414 : decode cX7_init 414 = .ok (.bipush 47, 2) := by decide +kernel
theorem dX7_init_416 : decode cX7_init 416 = .ok (.bipush 112, 2) := by decide +kernel
theorem dX7_init_418 : decode cX7_init 418 = .ok (.iastore, 1) := by decide +kernel
theorem dX7_init_419 : decode cX7_init 419 = .ok (.dup, 1) := by decide +kernel
theorem dX7_init_420 : decode cX7_init 420 = .ok (.bipush 48, 2) := by decide +kernel
theorem dX7_init_422 : decode cX7_init 422 = .ok (.bipush 108, 2) := by decide +kernel
theorem dX7_init_424 : decode cX7_init 424 = .ok (.iastore, 1) := by decide +kernel
theorem dX7_init_425 : decode cX7_init 425 = .ok (.dup, 1) := by decide +kernel
theorem dX7_init_426 : decode cX7_init 426 = .ok (.bipush 49, 2) := by decide +kernel
theorem dX7_init_428 : decode cX7_init 428 = .ok (.bipush 97, 2) := by decide +kernel
theorem dX7_init_430 : decode cX7_init 430 = .ok (.iastore, 1) := by decide +kernel
theorem dX7_init_431 : decode cX7_init 431 = .ok (.dup, 1) := by decide +kernel
theorem dX7_init_432 : decode cX7_init 432 = .ok (.bipush 50, 2) := by decide +kernel
theorem dX7_init_434 : decode cX7_init 434 = .ok (.bipush 105, 2) := by decide +kernel
theorem dX7_init_436 : decode cX7_init 436 = .ok (.iastore, 1) := by decide +kernel
theorem dX7_init_437 : decode cX7_init 437 = .ok (.dup, 1) := by decide +kernel
theorem dX7_init_438 : decode cX7_init 438 = .ok (.bipush 51, 2) := by decide +kernel
theorem dX7_init_440 : decode cX7_init 440 = .ok (.bipush 110, 2) := by decide +kernel
theorem dX7_init_442 : decode cX7_init 442 = .ok (.iastore, 1) := by decide +kernel
theorem dX7_init_443 : decode cX7_init 443 = .ok (.dup, 1) := by decide +kernel
theorem dX7_init_444 : decode cX7_init 444 = .ok (.bipush 52, 2) := by decide +kernel
theorem dX7_init_446 : decode cX7_init 446 = .ok (.bipush 97, 2) := by decide +kernel
theorem dX7_init_448 : decode cX7_init 448 = .ok (.iastore, 1) := by decide +kernel
theorem dX7_init_449 : decode cX7_init 449 = .ok (.dup, 1) := by decide +kernel
theorem dX7_init_450 : decode cX7_init 450 = .ok (.bipush 53, 2) := by decide +kernel
theorem dX7_init_452 : decode cX7_init 452 = .ok (.bipush 117, 2) := by decide +kernel
theorem dX7_init_454 : decode cX7_init 454 = .ok (.iastore, 1) := by decide +kernel
theorem dX7_init_455 : decode cX7_init 455 = .ok (.dup, 1) := by decide +kernel
theorem dX7_init_456 : decode cX7_init 456 = .ok (.bipush 54, 2) := by decide +kernel
theorem dX7_init_458 : decode cX7_init 458 = .ok (.bipush 110, 2) := by decide +kernel
theorem dX7_init_460 : decode cX7_init 460 = .ok (.iastore, 1) := by decide +kernel
theorem dX7_init_461 : decode cX7_init 461 = .ok (.dup, 1) := by decide +kernel
theorem dX7_init_462 : decode cX7_init 462 = .ok (.bipush 55, 2) := by decide +kernel
theorem dX7_init_464 : decode cX7_init 464 = .ok (.bipush 116, 2) := by decide +kernel
theorem dX7_init_466 : decode cX7_init 466 = .ok (.iastore, 1) := by decide +kernel
theorem dX7_init_467 : decode cX7_init 467 = .ok (.dup, 1) := by decide +kernel
theorem dX7_init_468 : decode cX7_init 468 = .ok (.bipush 56, 2) := by decide +kernel
theorem dX7_init_470 : decode cX7_init 470 = .ok (.bipush 118, 2) := by decide +kernel
theorem dX7_init_472 : decode cX7_init 472 = .ok (.iastore, 1) := by decide +kernel
theorem dX7_init_473 : decode cX7_init 473 = .ok (.dup, 1) := by decide +kernel
theorem dX7_init_474 : decode cX7_init 474 = .ok (.bipush 57, 2) := by decide +kernel
theorem dX7_init_476 : decode cX7_init 476 = .ok (.bipush 97, 2) := by decide +kernel
theorem dX7_init_478 : decode cX7_init 478 = .ok (.iastore, 1) := by decide +kernel
theorem dX7_init_479 : decode cX7_init 479 = .ok (.dup, 1) := by decide +kernel
theorem dX7_init_480 : decode cX7_init 480 = .ok (.bipush 58, 2) := by decide +kernel
theorem dX7_init_482 : decode cX7_init 482 = .ok (.bipush 105, 2) := by decide +kernel
theorem dX7_init_484 : decode cX7_init 484 = .ok (.iastore, 1) := by decide +kernel
theorem dX7_init_485 : decode cX7_init 485 = .ok (.dup, 1) := by decide +kernel
theorem dX7_init_486 : decode cX7_init 486 = .ok (.bipush 59, 2) := by decide +kernel
theorem dX7_init_488 : decode cX7_init 488 = .ok (.bipush 110, 2) := by decide +kernel
theorem dX7_init_490 : decode cX7_init 490 = .ok (.iastore, 1) := by decide +kernel
theorem dX7_init_491 : decode cX7_init 491 = .ok (.dup, 1) := by decide +kernel
theorem dX7_init_492 : decode cX7_init 492 = .ok (.bipush 60, 2) := by decide +kernel
theorem dX7_init_494 : decode cX7_init 494 = .ok (.bipush 100, 2) := by decide +kernel
theorem dX7_init_496 : decode cX7_init 496 = .ok (.iastore, 1) := by decide +kernel
theorem dX7_init_497 : decode cX7_init 497 = .ok (.dup, 1) := by decide +kernel
theorem dX7_init_498 : decode cX7_init 498 = .ok (.bipush 61, 2) := by decide +kernel
theorem dX7_init_500 : decode cX7_init 500 = .ok (.bipush 111, 2) := by decide +kernel
theorem dX7_init_502 : decode cX7_init 502 = .ok (.iastore, 1) := by decide +kernel
theorem dX7_init_503 : decode cX7_init 503 = .ok (.dup, 1) := by decide +kernel
theorem dX7_init_504 : decode cX7_init 504 = .ok (.bipush 62, 2) := by decide +kernel
theorem dX7_init_506 : decode cX7_init 506 = .ok (.bipush 117, 2) := by decide +kernel
theorem dX7_init_508 : decode cX7_init 508 = .ok (.iastore, 1) := by decide +kernel
theorem dX7_init_509 : decode cX7_init 509 = .ok (.dup, 1) := by decide +kernel
theorem dX7_init_510 : decode cX7_init 510 = .ok (.bipush 63, 2) := by decide +kernel
theorem dX7_init_512 : decode cX7_init 512 = .ok (.bipush 98, 2) := by decide +kernel
theorem dX7_init_514 : decode cX7_init 514 = .ok (.iastore, 1) := by decide +kernel
theorem dX7_init_515 : decode cX7_init 515 = .ok (.dup, 1) := by decide +kernel
theorem dX7_init_516 : decode cX7_init 516 = .ok (.bipush 64, 2) := by decide +kernel
theorem dX7_init_518 : decode cX7_init 518 = .ok (.bipush 108, 2) := by decide +kernel
theorem dX7_init_520 : decode cX7_init 520 = .ok (.iastore, 1) := by decide +kernel
theorem dX7_init_521 : decode cX7_init 521 = .ok (.dup, 1) := by decide +kernel
theorem dX7_init_522 : decode cX7_init 522 = .ok (.bipush 65, 2) := by decide +kernel
theorem dX7_init_524 : decode cX7_init 524 = .ok (.bipush 101, 2) := by decide +kernel
theorem dX7_init_526 : decode cX7_init 526 = .ok (.iastore, 1) := by decide +kernel
theorem dX7_init_527 : decode cX7_init 527 = .ok (.dup, 1) := by decide +kernel
theorem dX7_init_528 : decode cX7_init 528 = .ok (.bipush 66, 2) := by decide +kernel
theorem dX7_init_530 : decode cX7_init 530 = .ok (.bipush 108, 2) := by decide +kernel
theorem dX7_init_532 : decode cX7_init 532 = .ok (.iastore, 1) := by decide +kernel
theorem dX7_init_533 : decode cX7_init 533 = .ok (.dup, 1) := by decide +kernel
theorem dX7_init_534 : decode cX7_init 534 = .ok (.bipush 67, 2) := by decide +kernel
theorem dX7_init_536 : decode cX7_init 536 = .ok (.bipush 111, 2) := by decide +kernel
theorem dX7_init_538 : decode cX7_init 538 = .ok (.iastore, 1) := by decide +kernel
theorem dX7_init_539 : decode cX7_init 539 = .ok (.dup, 1) := by decide +kernel
theorem dX7_init_540 : decode cX7_init 540 = .ok (.bipush 68, 2) := by decide +kernel
theorem dX7_init_542 : decode cX7_init 542 = .ok (.bipush 100, 2) := by decide +kernel
theorem dX7_init_544 : decode cX7_init 544 = .ok (.iastore, 1) := by decide +kernel
theorem dX7_init_545 : decode cX7_init 545 = .ok (.dup, 1) := by decide +kernel
theorem dX7_init_546 : decode cX7_init 546 = .ok (.bipush 69, 2) := by decide +kernel
theorem dX7_init_548 : decode cX7_init 548 = .ok (.bipush 103, 2) := by decide +kernel
theorem dX7_init_550 : decode cX7_init 550 = .ok (.iastore, 1) := by decide +kernel
theorem dX7_init_551 : decode cX7_init 551 = .ok (.dup, 1) := by decide +kernel
theorem dX7_init_552 : decode cX7_init 552 = .ok (.bipush 70, 2) := by decide +kernel
theorem dX7_init_554 : decode cX7_init 554 = .ok (.bipush 101, 2) := by decide +kernel
theorem dX7_init_556 : decode cX7_init 556 = .ok (.iastore, 1) := by decide +kernel
theorem dX7_init_557 : decode cX7_init 557 = .ok (.dup, 1) := by decide +kernel
theorem dX7_init_558 : decode cX7_init 558 = .ok (.bipush 71, 2) := by decide +kernel
theorem dX7_init_560 : decode cX7_init 560 = .ok (.bipush 114, 2) := by decide +kernel
theorem dX7_init_562 : decode cX7_init 562 = .ok (.iastore, 1) := by decide +kernel
theorem dX7_init_563 : decode cX7_init 563 = .ok (.putfield 26, 3) := by decide +kernel
theorem dX7_init_566 : decode cX7_init 566 = .ok (.aload_n 0, 1) := by decide +kernel
theorem dX7_init_567 : decode cX7_init 567 = .ok (.bipush 8, 2) := by decide +kernel
theorem dX7_init_569 : decode cX7_init 569 = .ok (.newarray .int, 2) := by decide +kernel
theorem dX7_init_571 : decode cX7_init 571 = .ok (.putfield 29, 3) := by decide +kernel
theorem dX7_init_574 : decode cX7_init 574 = .ok (.aload_n 0, 1) := by decide +kernel
theorem dX7_init_575 : decode cX7_init 575 = .ok (.bipush 10, 2) := by decide +kernel
theorem dX7_init_577 : decode cX7_init 577 = .ok (.newarray .int, 2) := by decide +kernel
theorem dX7_init_579 : decode cX7_init 579 = .ok (.putfield 32, 3) := by decide +kernel
theorem dX7_init_582 : decode cX7_init 582 = .ok (.aload_n 0, 1) := by decide +kernel
theorem dX7_init_583 : decode cX7_init 583 = .ok (.bipush 10, 2) := by decide +kernel
theorem dX7_init_585 : decode cX7_init 585 = .ok (.newarray .int, 2) := by decide +kernel
theorem dX7_init_587 : decode cX7_init 587 = .ok (.putfield 35, 3) := by decide +kernel
theorem dX7_init_590 : decode cX7_init 590 = .ok (.aload_n 0, 1) := by decide +kernel
theorem dX7_init_591 : decode cX7_init 591 = .ok (.bipush 10, 2) := by decide +kernel
theorem dX7_init_593 : decode cX7_init 593 = .ok (.newarray .int, 2) := by decide +kernel
theorem dX7_init_595 : decode cX7_init 595 = .ok (.putfield 38, 3) := by decide +kernel
theorem dX7_init_598 : decode cX7_init 598 = .ok (.aload_n 0, 1) := by decide +kernel
theorem dX7_init_599 : decode cX7_init 599 = .ok (.bipush 10, 2) := by decide +kernel
theorem dX7_init_601 : decode cX7_init 601 = .ok (.newarray .int, 2) := by decide +kernel
theorem dX7_init_603 : decode cX7_init 603 = .ok (.putfield 41, 3) := by decide +kernel
theorem dX7_init_606 : decode cX7_init 606 = .ok (.aload_n 0, 1) := by decide +kernel
theorem dX7_init_607 : decode cX7_init 607 = .ok (.bipush 8, 2) := by decide +kernel
theorem dX7_init_609 : decode cX7_init 609 = .ok (.newarray .int, 2) := by decide +kernel
theorem dX7_init_611 : decode cX7_init 611 = .ok (.putfield 44, 3) := by decide +kernel
theorem dX7_init_614 : decode cX7_init 614 = .ok (.aload_n 0, 1) := by decide +kernel
theorem dX7_init_615 : decode cX7_init 615 = .ok (.bipush 24, 2) := by decide +kernel
theorem dX7_init_617 : decode cX7_init 617 = .ok (.newarray .int, 2) := by decide +kernel
theorem dX7_init_619 : decode cX7_init 619 = .ok (.putfield 47, 3) := by decide +kernel
theorem dX7_init_622 : decode cX7_init 622 = .ok (.aload_n 0, 1) := by decide +kernel
theorem dX7_init_623 : decode cX7_init 623 = .ok (.iconst 2, 1) := by decide +kernel
theorem dX7_init_624 : decode cX7_init 624 = .ok (.newarray .boolean, 2) := by decide +kernel
theorem dX7_init_626 : decode cX7_init 626 = .ok (.putfield 50, 3) := by decide +kernel
theorem dX7_init_629 : decode cX7_init 629 = .ok (.aload_n 0, 1) := by decide +kernel
theorem dX7_init_630 : decode cX7_init 630 = .ok (.iconst 4, 1) := by decide +kernel
theorem dX7_init_631 : decode cX7_init 631 = .ok (.newarray .int, 2) := by decide +kernel
theorem dX7_init_633 : decode cX7_init 633 = .ok (.dup, 1) := by decide +kernel
theorem dX7_init_634 : decode cX7_init 634 = .ok (.iconst 0, 1) := by decide +kernel
theorem dX7_init_635 : decode cX7_init 635 = .ok (.bipush (-4), 2) := by decide +kernel
theorem dX7_init_637 : decode cX7_init 637 = .ok (.iastore, 1) := by decide +kernel
theorem dX7_init_638 : decode cX7_init 638 = .ok (.dup, 1) := by decide +kernel
theorem dX7_init_639 : decode cX7_init 639 = .ok (.iconst 1, 1) := by decide +kernel
theorem dX7_init_640 : decode cX7_init 640 = .ok (.bipush (-4), 2) := by decide +kernel
theorem dX7_init_642 : decode cX7_init 642 = .ok (.iastore, 1) := by decide +kernel
theorem dX7_init_643 : decode cX7_init 643 = .ok (.dup, 1) := by decide +kernel
theorem dX7_init_644 : decode cX7_init 644 = .ok (.iconst 2, 1) := by decide +kernel
theorem dX7_init_645 : decode cX7_init 645 = .ok (.bipush (-4), 2) := by decide +kernel
theorem dX7_init_647 : decode cX7_init 647 = .ok (.iastore, 1) := by decide +kernel
theorem dX7_init_648 : decode cX7_init 648 = .ok (.dup, 1) := by decide +kernel
theorem dX7_init_649 : decode cX7_init 649 = .ok (.iconst 3, 1) := by decide +kernel
theorem dX7_init_650 : decode cX7_init 650 = .ok (.bipush (-4), 2) := by decide +kernel
theorem dX7_init_652 : decode cX7_init 652 = .ok (.iastore, 1) := by decide +kernel
theorem dX7_init_653 : decode cX7_init 653 = .ok (.putfield 54, 3) := by decide +kernel
theorem dX7_init_656 : decode cX7_init 656 = .ok (.aload_n 0, 1) := by decide +kernel
theorem dX7_init_657 : decode cX7_init 657 = .ok (.iconst 4, 1) := by decide +kernel
theorem dX7_init_658 : decode cX7_init 658 = .ok (.newarray .int, 2) := by decide +kernel
theorem dX7_init_660 : decode cX7_init 660 = .ok (.putfield 57, 3) := by decide +kernel
theorem dX7_init_663 : decode cX7_init 663 = .ok (.aload_n 0, 1) := by decide +kernel
theorem dX7_init_664 : decode cX7_init 664 = .ok (.sipush 160, 3) := by decide +kernel
theorem dX7_init_667 : decode cX7_init 667 = .ok (.newarray .int, 2) := by decide +kernel
theorem dX7_init_669 : decode cX7_init 669 = .ok (.putfield 60, 3) := by decide +kernel
theorem dX7_init_672 : decode cX7_init 672 = .ok (.return_, 1) := by decide +kernel
theorem dX7_in_0 : decode cX7_in 0 = .ok (.lload_n 0, 1) := by decide +kernel
theorem dX7_in_1 : decode cX7_in 1 = .ok (.lload_n 2, 1) := by decide +kernel
theorem dX7_in_2 : decode cX7_in 2 = .ok (.lcmp, 1) := by decide +kernel
theorem dX7_in_3 : decode cX7_in 3 = .ok (.ifCond .lt 14, 3) := by decide +kernel
theorem dX7_in_6 : decode cX7_in 6 = .ok (.lload_n 0, 1) := by decide +kernel
theorem dX7_in_7 : decode cX7_in 7 = .ok (.lload 4, 2) := by decide +kernel
theorem dX7_in_9 : decode cX7_in 9 = .ok (.lcmp, 1) := by decide +kernel
theorem dX7_in_10 : decode cX7_in 10 = .ok (.ifCond .gt 7, 3) := by decide +kernel
theorem dX7_in_13 : decode cX7_in 13 = .ok (.iconst 1, 1) := by decide +kernel
theorem dX7_in_14 : decode cX7_in 14 = .ok (.goto 4, 3) := by decide +kernel
theorem dX7_in_17 : decode cX7_in 17 = .ok (.iconst 0, 1) := by decide +kernel
theorem dX7_in_18 : decode cX7_in 18 = .ok (.ireturn, 1) := by decide +kernel
theorem dX7_feed_0 : decode cX7_feed 0 = .ok (.aload_n 0, 1) := by decide +kernel
theorem dX7_feed_1 : decode cX7_feed 1 = .ok (.getfield 63, 3) := by decide +kernel
theorem dX7_feed_4 : decode cX7_feed 4 = .ok (.bipush 8, 2) := by decide +kernel
theorem dX7_feed_6 : decode cX7_feed 6 = .ok (.iadd, 1) := by decide +kernel
theorem dX7_feed_7 : decode cX7_feed 7 = .ok (.sipush 400, 3) := by decide +kernel
theorem dX7_feed_10 : decode cX7_feed 10 = .ok (.if_icmp .le 6, 3) := by decide +kernel
theorem dX7_feed_13 : decode cX7_feed 13 = .ok (.bipush (-3), 2) := by decide +kernel
theorem dX7_feed_15 : decode cX7_feed 15 = .ok (.ireturn, 1) := by decide +kernel
theorem dX7_feed_16 : decode cX7_feed 16 = .ok (.bipush 56, 2) := by decide +kernel
theorem dX7_feed_18 : decode cX7_feed 18 = .ok (.istore_n 3, 1) := by decide +kernel
theorem dX7_feed_19 : decode cX7_feed 19 = .ok (.iload_n 3, 1) := by decide +kernel
theorem dX7_feed_20 : decode cX7_feed 20 = .ok (.ifCond .lt 36, 3) := by decide +kernel
theorem dX7_feed_23 : decode cX7_feed 23 = .ok (.aload_n 0, 1) := by decide +kernel
theorem dX7_feed_24 : decode cX7_feed 24 = .ok (.getfield 20, 3) := by decide +kernel
theorem dX7_feed_27 : decode cX7_feed 27 = .ok (.aload_n 0, 1) := by decide +kernel
theorem dX7_feed_28 : decode cX7_feed 28 = .ok (.getfield 63, 3) := by decide +kernel
theorem dX7_feed_31 : decode cX7_feed 31 = .ok (.lload_n 1, 1) := by decide +kernel
theorem dX7_feed_32 : decode cX7_feed 32 = .ok (.iload_n 3, 1) := by decide +kernel
theorem dX7_feed_33 : decode cX7_feed 33 = .ok (.lshr, 1) := by decide +kernel
theorem dX7_feed_34 : decode cX7_feed 34 = .ok (.l2i, 1) := by decide +kernel
theorem dX7_feed_35 : decode cX7_feed 35 = .ok (.sipush 255, 3) := by decide +kernel
theorem dX7_feed_38 : decode cX7_feed 38 = .ok (.iand, 1) := by decide +kernel
theorem dX7_feed_39 : decode cX7_feed 39 = .ok (.iastore, 1) := by decide +kernel
theorem dX7_feed_40 : decode cX7_feed 40 = .ok (.aload_n 0, 1) := by decide +kernel
theorem dX7_feed_41 : decode cX7_feed 41 = .ok (.dup, 1) := by decide +kernel
theorem dX7_feed_42 : decode cX7_feed 42 = .ok (.getfield 63, 3) := by decide +kernel
theorem dX7_feed_45 : decode cX7_feed 45 = .ok (.iconst 1, 1) := by decide +kernel
theorem dX7_feed_46 : decode cX7_feed 46 = .ok (.iadd, 1) := by decide +kernel
theorem dX7_feed_47 : decode cX7_feed 47 = .ok (.putfield 63, 3) := by decide +kernel
theorem dX7_feed_50 : decode cX7_feed 50 = .ok (.iinc 3 (-8), 3) := by decide +kernel
theorem dX7_feed_53 : decode cX7_feed 53 = .ok (.goto (-34), 3) := by decide +kernel
theorem dX7_feed_56 : decode cX7_feed 56 = .ok (.aload_n 0, 1) := by decide +kernel
theorem dX7_feed_57 : decode cX7_feed 57 = .ok (.getfield 63, 3) := by decide +kernel
theorem dX7_feed_60 : decode cX7_feed 60 = .ok (.ireturn, 1) := by decide +kernel
set_option maxRecDepth 20000 in
theorem ggX7_end_X7_in : GoodIn wsX7_end wsX7_in := goodIn_r _ [5] (by decide +kernel) (by decide +kernel)
set_option maxRecDepth 20000 in
theorem gX7_end_X7_in : GoodIn wsX7_end (va_wsS RX7 66 yX7_in wsX7_in) := goodIn_app (goodIn_of _ (by decide +kernel)) ggX7_end_X7_in
theorem dX7_end_0 : decode cX7_end 0 = .ok (.iload_n 1, 1) := by decide +kernel
theorem dX7_end_1 : decode cX7_end 1 = .ok (.i2l, 1) := by decide +kernel
theorem dX7_end_2 : decode cX7_end 2 = .ok (.lconst 0, 1) := by decide +kernel
theorem dX7_end_3 : decode cX7_end 3 = .ok (.aload_n 0, 1) := by decide +kernel
theorem dX7_end_4 : decode cX7_end 4 = .ok (.getfield 63, 3) := by decide +kernel
theorem dX7_end_7 : decode cX7_end 7 = .ok (.i2l, 1) := by decide +kernel
theorem dX7_end_8 : decode cX7_end 8 = .ok (.invokestatic 66, 3) := by decide +kernel
theorem dX7_end_11 : decode cX7_end 11 = .ok (.ifCond .ne 5, 3) := by decide +kernel
theorem dX7_end_14 : decode cX7_end 14 = .ok (.iconst (-1), 1) := by decide +kernel
theorem dX7_end_15 : decode cX7_end 15 = .ok (.ireturn, 1) := by decide +kernel
theorem dX7_end_16 : decode cX7_end 16 = .ok (.aload_n 0, 1) := by decide +kernel
theorem dX7_end_17 : decode cX7_end 17 = .ok (.getfield 63, 3) := by decide +kernel
theorem dX7_end_20 : decode cX7_end 20 = .ok (.istore_n 2, 1) := by decide +kernel
theorem dX7_end_21 : decode cX7_end 21 = .ok (.aload_n 0, 1) := by decide +kernel
theorem dX7_end_22 : decode cX7_end 22 = .ok (.iload_n 1, 1) := by decide +kernel
theorem dX7_end_23 : decode cX7_end 23 = .ok (.putfield 63, 3) := by decide +kernel
theorem dX7_end_26 : decode cX7_end 26 = .ok (.iload_n 2, 1) := by decide +kernel
theorem dX7_end_27 : decode cX7_end 27 = .ok (.ireturn, 1) := by decide +kernel
theorem dX7_byteAt_0 : decode cX7_byteAt 0 = .ok (.iload_n 1, 1) := by decide +kernel
theorem dX7_byteAt_1 : decode cX7_byteAt 1 = .ok (.aload_n 0, 1) := by decide +kernel
theorem dX7_byteAt_2 : decode cX7_byteAt 2 = .ok (.getfield 63, 3) := by decide +kernel
theorem dX7_byteAt_5 : decode cX7_byteAt 5 = .ok (.if_icmp .ge 12, 3) := by decide +kernel
theorem dX7_byteAt_8 : decode cX7_byteAt 8 = .ok (.aload_n 0, 1) := by decide +kernel
theorem dX7_byteAt_9 : decode cX7_byteAt 9 = .ok (.getfield 20, 3) := by decide +kernel
theorem dX7_byteAt_12 : decode cX7_byteAt 12 = .ok (.iload_n 1, 1) := by decide +kernel
theorem dX7_byteAt_13 : decode cX7_byteAt 13 = .ok (.iaload, 1) := by decide +kernel
theorem dX7_byteAt_14 : decode cX7_byteAt 14 = .ok (.goto 5, 3) := by decide +kernel
theorem dX7_byteAt_17 : decode cX7_byteAt 17 = .ok (.bipush (-4), 2) := by decide +kernel
theorem dX7_byteAt_19 : decode cX7_byteAt 19 = .ok (.ireturn, 1) := by decide +kernel
theorem dX7_fails_0 : decode cX7_fails 0 = .ok (.aload_n 0, 1) := by decide +kernel
theorem dX7_fails_1 : decode cX7_fails 1 = .ok (.getfield 70, 3) := by decide +kernel
theorem dX7_fails_4 : decode cX7_fails 4 = .ok (.ifCond .ne 16, 3) := by decide +kernel
theorem dX7_fails_7 : decode cX7_fails 7 = .ok (.aload_n 0, 1) := by decide +kernel
theorem dX7_fails_8 : decode cX7_fails 8 = .ok (.iload_n 1, 1) := by decide +kernel
theorem dX7_fails_9 : decode cX7_fails 9 = .ok (.putfield 70, 3) := by decide +kernel
theorem dX7_fails_12 : decode cX7_fails 12 = .ok (.aload_n 0, 1) := by decide +kernel
theorem dX7_fails_13 : decode cX7_fails 13 = .ok (.aload_n 0, 1) := by decide +kernel
theorem dX7_fails_14 : decode cX7_fails 14 = .ok (.getfield 73, 3) := by decide +kernel
theorem dX7_fails_17 : decode cX7_fails 17 = .ok (.putfield 76, 3) := by decide +kernel
theorem dX7_fails_20 : decode cX7_fails 20 = .ok (.return_, 1) := by decide +kernel
set_option maxRecDepth 20000 in
theorem ggX7_nameHere_X7_byteAt : GoodIn wsX7_nameHere wsX7_byteAt := goodIn_r _ [10, 11, 12, 13, 14, 15, 16, 17, 18, 19, 20, 21, 22, 23, 24, 25, 26, 27, 28, 29, 30, 31, 32, 33, 34, 35, 36, 37, 38, 39, 40, 41, 42, 43, 44, 45, 46, 47, 48, 49, 50] (by decide +kernel) (by decide +kernel)
set_option maxRecDepth 20000 in
theorem gX7_nameHere_X7_byteAt : GoodIn wsX7_nameHere (wsV RX7 85 RX7 yX7_byteAt wsX7_byteAt) := goodIn_app (goodIn_of _ (by decide +kernel)) ggX7_nameHere_X7_byteAt
theorem dX7_nameHere_0 : decode cX7_nameHere 0 = .ok (.iconst 0, 1) := by decide +kernel
theorem dX7_nameHere_1 : decode cX7_nameHere 1 = .ok (.istore_n 1, 1) := by decide +kernel
theorem dX7_nameHere_2 : decode cX7_nameHere 2 = .ok (.iload_n 1, 1) := by decide +kernel
theorem dX7_nameHere_3 : decode cX7_nameHere 3 = .ok (.bipush 15, 2) := by decide +kernel
theorem dX7_nameHere_5 : decode cX7_nameHere 5 = .ok (.if_icmp .ge 113, 3) := by decide +kernel
theorem dX7_nameHere_8 : decode cX7_nameHere 8 = .ok (.aload_n 0, 1) := by decide +kernel
theorem dX7_nameHere_9 : decode cX7_nameHere 9 = .ok (.getfield 79, 3) := by decide +kernel
theorem dX7_nameHere_12 : decode cX7_nameHere 12 = .ok (.iconst 1, 1) := by decide +kernel
theorem dX7_nameHere_13 : decode cX7_nameHere 13 = .ok (.if_icmp .ne 105, 3) := by decide +kernel
theorem dX7_nameHere_16 : decode cX7_nameHere 16 = .ok (.aload_n 0, 1) := by decide +kernel
theorem dX7_nameHere_17 : decode cX7_nameHere 17 = .ok (.getfield 82, 3) := by decide +kernel
theorem dX7_nameHere_20 : decode cX7_nameHere 20 = .ok (.aload_n 0, 1) := by decide +kernel
theorem dX7_nameHere_21 : decode cX7_nameHere 21 = .ok (.getfield 73, 3) := by decide +kernel
theorem dX7_nameHere_24 : decode cX7_nameHere 24 = .ok (.isub, 1) := by decide +kernel
theorem dX7_nameHere_25 : decode cX7_nameHere 25 = .ok (.aload_n 0, 1) := by decide +kernel
theorem dX7_nameHere_26 : decode cX7_nameHere 26 = .ok (.getfield 23, 3) := by decide +kernel
theorem dX7_nameHere_29 : decode cX7_nameHere 29 = .ok (.iload_n 1, 1) := by decide +kernel
theorem dX7_nameHere_30 : decode cX7_nameHere 30 = .ok (.iconst 1, 1) := by decide +kernel
theorem dX7_nameHere_31 : decode cX7_nameHere 31 = .ok (.iadd, 1) := by decide +kernel
theorem dX7_nameHere_32 : decode cX7_nameHere 32 = .ok (.iaload, 1) := by decide +kernel
theorem dX7_nameHere_33 : decode cX7_nameHere 33 = .ok (.aload_n 0, 1) := by decide +kernel
theorem dX7_nameHere_34 : decode cX7_nameHere 34 = .ok (.getfield 23, 3) := by decide +kernel
theorem dX7_nameHere_37 : decode cX7_nameHere 37 = .ok (.iload_n 1, 1) := by decide +kernel
theorem dX7_nameHere_38 : decode cX7_nameHere 38 = .ok (.iaload, 1) := by decide +kernel
theorem dX7_nameHere_39 : decode cX7_nameHere 39 = .ok (.isub, 1) := by decide +kernel
theorem dX7_nameHere_40 : decode cX7_nameHere 40 = .ok (.if_icmp .ne 7, 3) := by decide +kernel
theorem dX7_nameHere_43 : decode cX7_nameHere 43 = .ok (.iconst 1, 1) := by decide +kernel
theorem dX7_nameHere_44 : decode cX7_nameHere 44 = .ok (.goto 4, 3) := by decide +kernel
theorem dX7_nameHere_47 : decode cX7_nameHere 47 = .ok (.iconst 0, 1) := by decide +kernel
theorem dX7_nameHere_48 : decode cX7_nameHere 48 = .ok (.istore_n 2, 1) := by decide +kernel
theorem dX7_nameHere_49 : decode cX7_nameHere 49 = .ok (.iconst 0, 1) := by decide +kernel
theorem dX7_nameHere_50 : decode cX7_nameHere 50 = .ok (.istore_n 3, 1) := by decide +kernel
theorem dX7_nameHere_51 : decode cX7_nameHere 51 = .ok (.iload_n 2, 1) := by decide +kernel
theorem dX7_nameHere_52 : decode cX7_nameHere 52 = .ok (.ifCond .eq 54, 3) := by decide +kernel
theorem dX7_nameHere_55 : decode cX7_nameHere 55 = .ok (.iload_n 3, 1) := by decide +kernel
theorem dX7_nameHere_56 : decode cX7_nameHere 56 = .ok (.aload_n 0, 1) := by decide +kernel
theorem dX7_nameHere_57 : decode cX7_nameHere 57 = .ok (.getfield 82, 3) := by decide +kernel
theorem dX7_nameHere_60 : decode cX7_nameHere 60 = .ok (.aload_n 0, 1) := by decide +kernel
theorem dX7_nameHere_61 : decode cX7_nameHere 61 = .ok (.getfield 73, 3) := by decide +kernel
theorem dX7_nameHere_64 : decode cX7_nameHere 64 = .ok (.isub, 1) := by decide +kernel
theorem dX7_nameHere_65 : decode cX7_nameHere 65 = .ok (.if_icmp .ge 41, 3) := by decide +kernel
theorem dX7_nameHere_68 : decode cX7_nameHere 68 = .ok (.aload_n 0, 1) := by decide +kernel
theorem dX7_nameHere_69 : decode cX7_nameHere 69 = .ok (.aload_n 0, 1) := by decide +kernel
theorem dX7_nameHere_70 : decode cX7_nameHere 70 = .ok (.getfield 73, 3) := by decide +kernel
theorem dX7_nameHere_73 : decode cX7_nameHere 73 = .ok (.iload_n 3, 1) := by decide +kernel
theorem dX7_nameHere_74 : decode cX7_nameHere 74 = .ok (.iadd, 1) := by decide +kernel
theorem dX7_nameHere_75 : decode cX7_nameHere 75 = .ok (.invokevirtual 85, 3) := by decide +kernel
theorem dX7_nameHere_78 : decode cX7_nameHere 78 = .ok (.aload_n 0, 1) := by decide +kernel
theorem dX7_nameHere_79 : decode cX7_nameHere 79 = .ok (.getfield 26, 3) := by decide +kernel
theorem dX7_nameHere_82 : decode cX7_nameHere 82 = .ok (.aload_n 0, 1) := by decide +kernel
theorem dX7_nameHere_83 : decode cX7_nameHere 83 = .ok (.getfield 23, 3) := by decide +kernel
theorem dX7_nameHere_86 : decode cX7_nameHere 86 = .ok (.iload_n 1, 1) := by decide +kernel
theorem dX7_nameHere_87 : decode cX7_nameHere 87 = .ok (.iaload, 1) := by decide +kernel
theorem dX7_nameHere_88 : decode cX7_nameHere 88 = .ok (.iload_n 3, 1) := by decide +kernel
theorem dX7_nameHere_89 : decode cX7_nameHere 89 = .ok (.iadd, 1) := by decide +kernel
theorem dX7_nameHere_90 : decode cX7_nameHere 90 = .ok (.iaload, 1) := by decide +kernel
theorem dX7_nameHere_91 : decode cX7_nameHere 91 = .ok (.if_icmp .ne 7, 3) := by decide +kernel
theorem dX7_nameHere_94 : decode cX7_nameHere 94 = .ok (.iconst 1, 1) := by decide +kernel
theorem dX7_nameHere_95 : decode cX7_nameHere 95 = .ok (.goto 4, 3) := by decide +kernel
theorem dX7_nameHere_98 : decode cX7_nameHere 98 = .ok (.iconst 0, 1) := by decide +kernel
theorem dX7_nameHere_99 : decode cX7_nameHere 99 = .ok (.istore_n 2, 1) := by decide +kernel
theorem dX7_nameHere_100 : decode cX7_nameHere 100 = .ok (.iinc 3 1, 3) := by decide +kernel
theorem dX7_nameHere_103 : decode cX7_nameHere 103 = .ok (.goto (-52), 3) := by decide +kernel
theorem dX7_nameHere_106 : decode cX7_nameHere 106 = .ok (.iload_n 2, 1) := by decide +kernel
theorem dX7_nameHere_107 : decode cX7_nameHere 107 = .ok (.ifCond .eq 5, 3) := by decide +kernel
theorem dX7_nameHere_110 : decode cX7_nameHere 110 = .ok (.iload_n 1, 1) := by decide +kernel
theorem dX7_nameHere_111 : decode cX7_nameHere 111 = .ok (.ireturn, 1) := by decide +kernel
theorem dX7_nameHere_112 : decode cX7_nameHere 112 = .ok (.iinc 1 1, 3) := by decide +kernel
theorem dX7_nameHere_115 : decode cX7_nameHere 115 = .ok (.goto (-113), 3) := by decide +kernel
theorem dX7_nameHere_118 : decode cX7_nameHere 118 = .ok (.bipush (-4), 2) := by decide +kernel
theorem dX7_nameHere_120 : decode cX7_nameHere 120 = .ok (.ireturn, 1) := by decide +kernel
set_option maxRecDepth 20000 in
theorem ggX7_step_X7_byteAt : GoodIn wsX7_step wsX7_byteAt := goodIn_r _ [14, 15, 16, 25, 26, 27, 28, 29, 30, 31, 32, 33, 34, 35, 36, 37, 38, 39, 40, 41, 42, 43, 44, 45, 46, 47, 48, 49, 50, 51, 52, 53, 54, 55, 56, 57, 58, 59, 60, 61, 62] (by decide +kernel) (by decide +kernel)
set_option maxRecDepth 20000 in
theorem gX7_step_X7_byteAt : GoodIn wsX7_step (wsV RX7 85 RX7 yX7_byteAt wsX7_byteAt) := goodIn_app (goodIn_of _ (by decide +kernel)) ggX7_step_X7_byteAt
set_option maxRecDepth 20000 in
theorem ggX7_step_X7_in : GoodIn wsX7_step wsX7_in := goodIn_r _ [19] (by decide +kernel) (by decide +kernel)
set_option maxRecDepth 20000 in
theorem gX7_step_X7_in : GoodIn wsX7_step (va_wsS RX7 66 yX7_in wsX7_in) := goodIn_app (goodIn_of _ (by decide +kernel)) ggX7_step_X7_in
set_option maxRecDepth 20000 in
theorem ggX7_step_X7_fails : GoodIn wsX7_step wsX7_fails := goodIn_r _ [23, 1, 3, 24, 25, 26, 27, 28, 29, 30, 31, 32, 33, 34, 35, 36, 37, 38, 39, 40, 41, 42, 43, 44, 45, 46, 47, 48, 49, 50, 51, 52, 53, 54, 55, 56, 57, 58, 59, 60, 61, 62] (by decide +kernel) (by decide +kernel)
set_option maxRecDepth 20000 in
theorem gX7_step_X7_fails : GoodIn wsX7_step (wsV RX7 100 RX7 yX7_fails wsX7_fails) := goodIn_app (goodIn_of _ (by decide +kernel)) ggX7_step_X7_fails
theorem dX7_step_0 : decode cX7_step 0 = .ok (.aload_n 0, 1) := by decide +kernel
theorem dX7_step_1 : decode cX7_step 1 = .ok (.getfield 70, 3) := by decide +kernel
theorem dX7_step_4 : decode cX7_step 4 = .ok (.ifCond .le 4, 3) := by decide +kernel
theorem dX7_step_7 : decode cX7_step 7 = .ok (.return_, 1) := by decide +kernel
theorem dX7_step_8 : decode cX7_step 8 = .ok (.aload_n 0, 1) := by decide +kernel
theorem dX7_step_9 : decode cX7_step 9 = .ok (.aload_n 0, 1) := by decide +kernel
theorem dX7_step_10 : decode cX7_step 10 = .ok (.getfield 82, 3) := by decide +kernel
theorem dX7_step_13 : decode cX7_step 13 = .ok (.invokevirtual 85, 3) := by decide +kernel
theorem dX7_step_16 : decode cX7_step 16 = .ok (.bipush 32, 2) := by decide +kernel
theorem dX7_step_18 : decode cX7_step 18 = .ok (.if_icmp .ne 16, 3) := by decide +kernel
theorem dX7_step_21 : decode cX7_step 21 = .ok (.aload_n 0, 1) := by decide +kernel
theorem dX7_step_22 : decode cX7_step 22 = .ok (.dup, 1) := by decide +kernel
theorem dX7_step_23 : decode cX7_step 23 = .ok (.getfield 82, 3) := by decide +kernel
theorem dX7_step_26 : decode cX7_step 26 = .ok (.iconst 1, 1) := by decide +kernel
theorem dX7_step_27 : decode cX7_step 27 = .ok (.iadd, 1) := by decide +kernel
theorem dX7_step_28 : decode cX7_step 28 = .ok (.putfield 82, 3) := by decide +kernel
theorem dX7_step_31 : decode cX7_step 31 = .ok (.goto (-23), 3) := by decide +kernel
theorem dX7_step_34 : decode cX7_step 34 = .ok (.aload_n 0, 1) := by decide +kernel
theorem dX7_step_35 : decode cX7_step 35 = .ok (.aload_n 0, 1) := by decide +kernel
theorem dX7_step_36 : decode cX7_step 36 = .ok (.getfield 82, 3) := by decide +kernel
theorem dX7_step_39 : decode cX7_step 39 = .ok (.putfield 73, 3) := by decide +kernel
theorem dX7_step_42 : decode cX7_step 42 = .ok (.aload_n 0, 1) := by decide +kernel
theorem dX7_step_43 : decode cX7_step 43 = .ok (.aload_n 0, 1) := by decide +kernel
theorem dX7_step_44 : decode cX7_step 44 = .ok (.getfield 82, 3) := by decide +kernel
theorem dX7_step_47 : decode cX7_step 47 = .ok (.invokevirtual 85, 3) := by decide +kernel
theorem dX7_step_50 : decode cX7_step 50 = .ok (.istore_n 1, 1) := by decide +kernel
theorem dX7_step_51 : decode cX7_step 51 = .ok (.aload_n 0, 1) := by decide +kernel
theorem dX7_step_52 : decode cX7_step 52 = .ok (.iconst 0, 1) := by decide +kernel
theorem dX7_step_53 : decode cX7_step 53 = .ok (.putfield 89, 3) := by decide +kernel
theorem dX7_step_56 : decode cX7_step 56 = .ok (.iload_n 1, 1) := by decide +kernel
theorem dX7_step_57 : decode cX7_step 57 = .ok (.bipush (-4), 2) := by decide +kernel
theorem dX7_step_59 : decode cX7_step 59 = .ok (.if_icmp .ne 11, 3) := by decide +kernel
theorem dX7_step_62 : decode cX7_step 62 = .ok (.aload_n 0, 1) := by decide +kernel
theorem dX7_step_63 : decode cX7_step 63 = .ok (.iconst 0, 1) := by decide +kernel
theorem dX7_step_64 : decode cX7_step 64 = .ok (.putfield 79, 3) := by decide +kernel
theorem dX7_step_67 : decode cX7_step 67 = .ok (.goto 202, 3) := by decide +kernel
theorem dX7_step_70 : decode cX7_step 70 = .ok (.iload_n 1, 1) := by decide +kernel
theorem dX7_step_71 : decode cX7_step 71 = .ok (.i2l, 1) := by decide +kernel
theorem dX7_step_72 : decode cX7_step 72 = .ok (.ldc2_w 92, 3) := by decide +kernel
theorem dX7_step_75 : decode cX7_step 75 = .ok (.ldc2_w 94, 3) := by decide +kernel
theorem dX7_step_78 : decode cX7_step 78 = .ok (.invokestatic 66, 3) := by decide +kernel
theorem dX7_step_81 : decode cX7_step 81 = .ok (.ifCond .eq 45, 3) := by decide +kernel
theorem dX7_step_84 : decode cX7_step 84 = .ok (.aload_n 0, 1) := by decide +kernel
theorem dX7_step_85 : decode cX7_step 85 = .ok (.aload_n 0, 1) := by decide +kernel
theorem dX7_step_86 : decode cX7_step 86 = .ok (.getfield 82, 3) := by decide +kernel
theorem dX7_step_89 : decode cX7_step 89 = .ok (.invokevirtual 85, 3) := by decide +kernel
theorem dX7_step_92 : decode cX7_step 92 = .ok (.i2l, 1) := by decide +kernel
theorem dX7_step_93 : decode cX7_step 93 = .ok (.ldc2_w 92, 3) := by decide +kernel
theorem dX7_step_96 : decode cX7_step 96 = .ok (.ldc2_w 94, 3) := by decide +kernel
theorem dX7_step_99 : decode cX7_step 99 = .ok (.invokestatic 66, 3) := by decide +kernel
theorem dX7_step_102 : decode cX7_step 102 = .ok (.ifCond .eq 16, 3) := by decide +kernel
theorem dX7_step_105 : decode cX7_step 105 = .ok (.aload_n 0, 1) := by decide +kernel
theorem dX7_step_106 : decode cX7_step 106 = .ok (.dup, 1) := by decide +kernel
theorem dX7_step_107 : decode cX7_step 107 = .ok (.getfield 82, 3) := by decide +kernel
theorem dX7_step_110 : decode cX7_step 110 = .ok (.iconst 1, 1) := by decide +kernel
theorem dX7_step_111 : decode cX7_step 111 = .ok (.iadd, 1) := by decide +kernel
theorem dX7_step_112 : decode cX7_step 112 = .ok (.putfield 82, 3) := by decide +kernel
theorem dX7_step_115 : decode cX7_step 115 = .ok (.goto (-31), 3) := by decide +kernel
theorem dX7_step_118 : decode cX7_step 118 = .ok (.aload_n 0, 1) := by decide +kernel
theorem dX7_step_119 : decode cX7_step 119 = .ok (.iconst 1, 1) := by decide +kernel
theorem dX7_step_120 : decode cX7_step 120 = .ok (.putfield 79, 3) := by decide +kernel
theorem dX7_step_123 : decode cX7_step 123 = .ok (.goto 146, 3) := by decide +kernel
theorem dX7_step_126 : decode cX7_step 126 = .ok (.iload_n 1, 1) := by decide +kernel
theorem dX7_step_127 : decode cX7_step 127 = .ok (.i2l, 1) := by decide +kernel
theorem dX7_step_128 : decode cX7_step 128 = .ok (.ldc2_w 96, 3) := by decide +kernel
theorem dX7_step_131 : decode cX7_step 131 = .ok (.ldc2_w 98, 3) := by decide +kernel
theorem dX7_step_134 : decode cX7_step 134 = .ok (.invokestatic 66, 3) := by decide +kernel
theorem dX7_step_137 : decode cX7_step 137 = .ok (.ifCond .eq 106, 3) := by decide +kernel
theorem dX7_step_140 : decode cX7_step 140 = .ok (.aload_n 0, 1) := by decide +kernel
theorem dX7_step_141 : decode cX7_step 141 = .ok (.aload_n 0, 1) := by decide +kernel
theorem dX7_step_142 : decode cX7_step 142 = .ok (.getfield 82, 3) := by decide +kernel
theorem dX7_step_145 : decode cX7_step 145 = .ok (.invokevirtual 85, 3) := by decide +kernel
theorem dX7_step_148 : decode cX7_step 148 = .ok (.i2l, 1) := by decide +kernel
theorem dX7_step_149 : decode cX7_step 149 = .ok (.ldc2_w 96, 3) := by decide +kernel
theorem dX7_step_152 : decode cX7_step 152 = .ok (.ldc2_w 98, 3) := by decide +kernel
theorem dX7_step_155 : decode cX7_step 155 = .ok (.invokestatic 66, 3) := by decide +kernel
theorem dX7_step_158 : decode cX7_step 158 = .ok (.ifCond .eq 59, 3) := by decide +kernel
theorem dX7_step_161 : decode cX7_step 161 = .ok (.aload_n 0, 1) := by decide +kernel
theorem dX7_step_162 : decode cX7_step 162 = .ok (.aload_n 0, 1) := by decide +kernel
theorem dX7_step_163 : decode cX7_step 163 = .ok (.getfield 82, 3) := by decide +kernel
theorem dX7_step_166 : decode cX7_step 166 = .ok (.aload_n 0, 1) := by decide +kernel
theorem dX7_step_167 : decode cX7_step 167 = .ok (.getfield 73, 3) := by decide +kernel
theorem dX7_step_170 : decode cX7_step 170 = .ok (.isub, 1) := by decide +kernel
theorem dX7_step_171 : decode cX7_step 171 = .ok (.iconst 3, 1) := by decide +kernel
theorem dX7_step_172 : decode cX7_step 172 = .ok (.if_icmp .ge 25, 3) := by decide +kernel
theorem dX7_step_175 : decode cX7_step 175 = .ok (.bipush 10, 2) := by decide +kernel
theorem dX7_step_177 : decode cX7_step 177 = .ok (.aload_n 0, 1) := by decide +kernel
theorem dX7_step_178 : decode cX7_step 178 = .ok (.getfield 89, 3) := by decide +kernel
theorem dX7_step_181 : decode cX7_step 181 = .ok (.imul, 1) := by decide +kernel
theorem dX7_step_182 : decode cX7_step 182 = .ok (.aload_n 0, 1) := by decide +kernel
theorem dX7_step_183 : decode cX7_step 183 = .ok (.aload_n 0, 1) := by decide +kernel
theorem dX7_step_184 : decode cX7_step 184 = .ok (.getfield 82, 3) := by decide +kernel
theorem dX7_step_187 : decode cX7_step 187 = .ok (.invokevirtual 85, 3) := by decide +kernel
theorem dX7_step_190 : decode cX7_step 190 = .ok (.iadd, 1) := by decide +kernel
theorem dX7_step_191 : decode cX7_step 191 = .ok (.bipush 48, 2) := by decide +kernel
theorem dX7_step_193 : decode cX7_step 193 = .ok (.isub, 1) := by decide +kernel
theorem dX7_step_194 : decode cX7_step 194 = .ok (.goto 7, 3) := by decide +kernel
theorem dX7_step_197 : decode cX7_step 197 = .ok (.aload_n 0, 1) := by decide +kernel
theorem dX7_step_198 : decode cX7_step 198 = .ok (.getfield 89, 3) := by decide +kernel
theorem dX7_step_201 : decode cX7_step 201 = .ok (.putfield 89, 3) := by decide +kernel
theorem dX7_step_204 : decode cX7_step 204 = .ok (.aload_n 0, 1) := by decide +kernel
theorem dX7_step_205 : decode cX7_step 205 = .ok (.dup, 1) := by decide +kernel
theorem dX7_step_206 : decode cX7_step 206 = .ok (.getfield 82, 3) := by decide +kernel
theorem dX7_step_209 : decode cX7_step 209 = .ok (.iconst 1, 1) := by decide +kernel
theorem dX7_step_210 : decode cX7_step 210 = .ok (.iadd, 1) := by decide +kernel
theorem dX7_step_211 : decode cX7_step 211 = .ok (.putfield 82, 3) := by decide +kernel
theorem dX7_step_214 : decode cX7_step 214 = .ok (.goto (-74), 3) := by decide +kernel
theorem dX7_step_217 : decode cX7_step 217 = .ok (.aload_n 0, 1) := by decide +kernel
theorem dX7_step_218 : decode cX7_step 218 = .ok (.iconst 2, 1) := by decide +kernel
theorem dX7_step_219 : decode cX7_step 219 = .ok (.putfield 79, 3) := by decide +kernel
theorem dX7_step_222 : decode cX7_step 222 = .ok (.aload_n 0, 1) := by decide +kernel
theorem dX7_step_223 : decode cX7_step 223 = .ok (.getfield 82, 3) := by decide +kernel
theorem dX7_step_226 : decode cX7_step 226 = .ok (.aload_n 0, 1) := by decide +kernel
theorem dX7_step_227 : decode cX7_step 227 = .ok (.getfield 73, 3) := by decide +kernel
theorem dX7_step_230 : decode cX7_step 230 = .ok (.isub, 1) := by decide +kernel
theorem dX7_step_231 : decode cX7_step 231 = .ok (.iconst 3, 1) := by decide +kernel
theorem dX7_step_232 : decode cX7_step 232 = .ok (.if_icmp .le 37, 3) := by decide +kernel
theorem dX7_step_235 : decode cX7_step 235 = .ok (.aload_n 0, 1) := by decide +kernel
theorem dX7_step_236 : decode cX7_step 236 = .ok (.iconst 1, 1) := by decide +kernel
theorem dX7_step_237 : decode cX7_step 237 = .ok (.invokevirtual 100, 3) := by decide +kernel
theorem dX7_step_240 : decode cX7_step 240 = .ok (.goto 29, 3) := by decide +kernel
theorem dX7_step_243 : decode cX7_step 243 = .ok (.aload_n 0, 1) := by decide +kernel
theorem dX7_step_244 : decode cX7_step 244 = .ok (.iconst 3, 1) := by decide +kernel
theorem dX7_step_245 : decode cX7_step 245 = .ok (.putfield 79, 3) := by decide +kernel
theorem dX7_step_248 : decode cX7_step 248 = .ok (.aload_n 0, 1) := by decide +kernel
theorem dX7_step_249 : decode cX7_step 249 = .ok (.dup, 1) := by decide +kernel
theorem dX7_step_250 : decode cX7_step 250 = .ok (.getfield 82, 3) := by decide +kernel
theorem dX7_step_253 : decode cX7_step 253 = .ok (.iconst 1, 1) := by decide +kernel
theorem dX7_step_254 : decode cX7_step 254 = .ok (.iadd, 1) := by decide +kernel
theorem dX7_step_255 : decode cX7_step 255 = .ok (.putfield 82, 3) := by decide +kernel
theorem dX7_step_258 : decode cX7_step 258 = .ok (.iload_n 1, 1) := by decide +kernel
theorem dX7_step_259 : decode cX7_step 259 = .ok (.bipush 59, 2) := by decide +kernel
theorem dX7_step_261 : decode cX7_step 261 = .ok (.if_icmp .eq 8, 3) := by decide +kernel
theorem dX7_step_264 : decode cX7_step 264 = .ok (.aload_n 0, 1) := by decide +kernel
theorem dX7_step_265 : decode cX7_step 265 = .ok (.iconst 1, 1) := by decide +kernel
theorem dX7_step_266 : decode cX7_step 266 = .ok (.invokevirtual 100, 3) := by decide +kernel
theorem dX7_step_269 : decode cX7_step 269 = .ok (.return_, 1) := by decide +kernel
set_option maxRecDepth 20000 in
theorem ggX7_numeral_X7_fails : GoodIn wsX7_numeral wsX7_fails := goodIn_r _ [8, 1, 9, 10, 29, 30, 31, 32, 33, 34, 35, 36, 37, 38, 39, 40, 41, 42, 43, 44, 45, 46, 47, 48, 49, 50, 51, 52, 53, 54, 55, 56, 57, 58, 59, 60, 61, 62, 63, 64, 65, 66] (by decide +kernel) (by decide +kernel)
set_option maxRecDepth 20000 in
theorem gX7_numeral_X7_fails : GoodIn wsX7_numeral (wsV RX7 100 RX7 yX7_fails wsX7_fails) := goodIn_app (goodIn_of _ (by decide +kernel)) ggX7_numeral_X7_fails
set_option maxRecDepth 20000 in
theorem ggX7_numeral_X7_in : GoodIn wsX7_numeral wsX7_in := goodIn_r _ [13] (by decide +kernel) (by decide +kernel)
set_option maxRecDepth 20000 in
theorem gX7_numeral_X7_in : GoodIn wsX7_numeral (va_wsS RX7 66 yX7_in wsX7_in) := goodIn_app (goodIn_of _ (by decide +kernel)) ggX7_numeral_X7_in
set_option maxRecDepth 20000 in
theorem ggX7_numeral_X7_step : GoodIn wsX7_numeral wsX7_step := goodIn_r _ [17, 1, 18, 9, 3, 2, 19, 20, 21, 22, 23, 24, 25, 7, 26, 27, 28, 11, 12, 13, 4, 5, 6, 8, 10, 29, 30, 31, 32, 33, 34, 35, 36, 37, 38, 39, 40, 41, 42, 43, 44, 45, 46, 47, 48, 49, 50, 51, 52, 53, 54, 55, 56, 57, 58, 59, 60, 61, 62, 63, 64, 65, 66] (by decide +kernel) (by decide +kernel)
set_option maxRecDepth 20000 in
theorem gX7_numeral_X7_step : GoodIn wsX7_numeral (wsV RX7 104 RX7 yX7_step wsX7_step) := goodIn_app (goodIn_of _ (by decide +kernel)) ggX7_numeral_X7_step
theorem dX7_numeral_0 : decode cX7_numeral 0 = .ok (.aload_n 0, 1) := by decide +kernel
theorem dX7_numeral_1 : decode cX7_numeral 1 = .ok (.getfield 70, 3) := by decide +kernel
theorem dX7_numeral_4 : decode cX7_numeral 4 = .ok (.ifCond .ne 16, 3) := by decide +kernel
theorem dX7_numeral_7 : decode cX7_numeral 7 = .ok (.aload_n 0, 1) := by decide +kernel
theorem dX7_numeral_8 : decode cX7_numeral 8 = .ok (.getfield 79, 3) := by decide +kernel
theorem dX7_numeral_11 : decode cX7_numeral 11 = .ok (.iconst 2, 1) := by decide +kernel
theorem dX7_numeral_12 : decode cX7_numeral 12 = .ok (.if_icmp .eq 8, 3) := by decide +kernel
theorem dX7_numeral_15 : decode cX7_numeral 15 = .ok (.aload_n 0, 1) := by decide +kernel
theorem dX7_numeral_16 : decode cX7_numeral 16 = .ok (.iconst 2, 1) := by decide +kernel
theorem dX7_numeral_17 : decode cX7_numeral 17 = .ok (.invokevirtual 100, 3) := by decide +kernel
theorem dX7_numeral_20 : decode cX7_numeral 20 = .ok (.aload_n 0, 1) := by decide +kernel
theorem dX7_numeral_21 : decode cX7_numeral 21 = .ok (.getfield 70, 3) := by decide +kernel
theorem dX7_numeral_24 : decode cX7_numeral 24 = .ok (.ifCond .ne 23, 3) := by decide +kernel
theorem dX7_numeral_27 : decode cX7_numeral 27 = .ok (.aload_n 0, 1) := by decide +kernel
theorem dX7_numeral_28 : decode cX7_numeral 28 = .ok (.getfield 89, 3) := by decide +kernel
theorem dX7_numeral_31 : decode cX7_numeral 31 = .ok (.i2l, 1) := by decide +kernel
theorem dX7_numeral_32 : decode cX7_numeral 32 = .ok (.iload_n 1, 1) := by decide +kernel
theorem dX7_numeral_33 : decode cX7_numeral 33 = .ok (.i2l, 1) := by decide +kernel
theorem dX7_numeral_34 : decode cX7_numeral 34 = .ok (.iload_n 2, 1) := by decide +kernel
theorem dX7_numeral_35 : decode cX7_numeral 35 = .ok (.i2l, 1) := by decide +kernel
theorem dX7_numeral_36 : decode cX7_numeral 36 = .ok (.invokestatic 66, 3) := by decide +kernel
theorem dX7_numeral_39 : decode cX7_numeral 39 = .ok (.ifCond .ne 8, 3) := by decide +kernel
theorem dX7_numeral_42 : decode cX7_numeral 42 = .ok (.aload_n 0, 1) := by decide +kernel
theorem dX7_numeral_43 : decode cX7_numeral 43 = .ok (.iconst 3, 1) := by decide +kernel
theorem dX7_numeral_44 : decode cX7_numeral 44 = .ok (.invokevirtual 100, 3) := by decide +kernel
theorem dX7_numeral_47 : decode cX7_numeral 47 = .ok (.aload_n 0, 1) := by decide +kernel
theorem dX7_numeral_48 : decode cX7_numeral 48 = .ok (.getfield 70, 3) := by decide +kernel
theorem dX7_numeral_51 : decode cX7_numeral 51 = .ok (.ifCond .ne 10, 3) := by decide +kernel
theorem dX7_numeral_54 : decode cX7_numeral 54 = .ok (.aload_n 0, 1) := by decide +kernel
theorem dX7_numeral_55 : decode cX7_numeral 55 = .ok (.getfield 89, 3) := by decide +kernel
theorem dX7_numeral_58 : decode cX7_numeral 58 = .ok (.goto 4, 3) := by decide +kernel
theorem dX7_numeral_61 : decode cX7_numeral 61 = .ok (.iload_n 1, 1) := by decide +kernel
theorem dX7_numeral_62 : decode cX7_numeral 62 = .ok (.istore_n 3, 1) := by decide +kernel
theorem dX7_numeral_63 : decode cX7_numeral 63 = .ok (.aload_n 0, 1) := by decide +kernel
theorem dX7_numeral_64 : decode cX7_numeral 64 = .ok (.invokevirtual 104, 3) := by decide +kernel
theorem dX7_numeral_67 : decode cX7_numeral 67 = .ok (.iload_n 3, 1) := by decide +kernel
theorem dX7_numeral_68 : decode cX7_numeral 68 = .ok (.ireturn, 1) := by decide +kernel
set_option maxRecDepth 20000 in
theorem ggX7_day_X7_numeral : GoodIn wsX7_day wsX7_numeral := goodIn_r _ [9, 1, 2, 3, 10, 11, 12, 8, 13, 14, 15, 16, 17, 18, 19, 20, 21, 22, 23, 24, 25, 26, 27, 28, 29, 30, 31, 32, 33, 34, 35, 36, 37, 38, 39, 40, 41, 42, 43, 44, 45, 46, 47, 48, 49, 50, 51, 52, 53, 54, 55, 56, 57, 58, 59, 60, 61, 62, 63, 64, 65, 66, 67, 68, 69, 70, 71] (by decide +kernel) (by decide +kernel)
set_option maxRecDepth 20000 in
theorem gX7_day_X7_numeral : GoodIn wsX7_day (wsV RX7 107 RX7 yX7_numeral wsX7_numeral) := goodIn_app (goodIn_of _ (by decide +kernel)) ggX7_day_X7_numeral
set_option maxRecDepth 20000 in
theorem ggX7_day_X7_in : GoodIn wsX7_day wsX7_in := goodIn_r _ [18] (by decide +kernel) (by decide +kernel)
set_option maxRecDepth 20000 in
theorem gX7_day_X7_in : GoodIn wsX7_day (va_wsS RX7 66 yX7_in wsX7_in) := goodIn_app (goodIn_of _ (by decide +kernel)) ggX7_day_X7_in
set_option maxRecDepth 20000 in
theorem ggX7_day_X7_fails : GoodIn wsX7_day wsX7_fails := goodIn_r _ [13, 1, 14, 15, 34, 35, 36, 37, 38, 39, 40, 41, 42, 43, 44, 45, 46, 47, 48, 49, 50, 51, 52, 53, 54, 55, 56, 57, 58, 59, 60, 61, 62, 63, 64, 65, 66, 67, 68, 69, 70, 71] (by decide +kernel) (by decide +kernel)
set_option maxRecDepth 20000 in
theorem gX7_day_X7_fails : GoodIn wsX7_day (wsV RX7 100 RX7 yX7_fails wsX7_fails) := goodIn_app (goodIn_of _ (by decide +kernel)) ggX7_day_X7_fails
theorem dX7_day_0 : decode cX7_day 0 = .ok (.aload_n 0, 1) := by decide +kernel
theorem dX7_day_1 : decode cX7_day 1 = .ok (.iconst 0, 1) := by decide +kernel
theorem dX7_day_2 : decode cX7_day 2 = .ok (.bipush 99, 2) := by decide +kernel
theorem dX7_day_4 : decode cX7_day 4 = .ok (.invokevirtual 107, 3) := by decide +kernel
theorem dX7_day_7 : decode cX7_day 7 = .ok (.istore_n 2, 1) := by decide +kernel
theorem dX7_day_8 : decode cX7_day 8 = .ok (.aload_n 0, 1) := by decide +kernel
theorem dX7_day_9 : decode cX7_day 9 = .ok (.getfield 70, 3) := by decide +kernel
theorem dX7_day_12 : decode cX7_day 12 = .ok (.ifCond .ne 45, 3) := by decide +kernel
theorem dX7_day_15 : decode cX7_day 15 = .ok (.aload_n 0, 1) := by decide +kernel
theorem dX7_day_16 : decode cX7_day 16 = .ok (.getfield 79, 3) := by decide +kernel
theorem dX7_day_19 : decode cX7_day 19 = .ok (.iconst 2, 1) := by decide +kernel
theorem dX7_day_20 : decode cX7_day 20 = .ok (.if_icmp .ne 37, 3) := by decide +kernel
theorem dX7_day_23 : decode cX7_day 23 = .ok (.aload_n 0, 1) := by decide +kernel
theorem dX7_day_24 : decode cX7_day 24 = .ok (.getfield 89, 3) := by decide +kernel
theorem dX7_day_27 : decode cX7_day 27 = .ok (.i2l, 1) := by decide +kernel
theorem dX7_day_28 : decode cX7_day 28 = .ok (.lconst 0, 1) := by decide +kernel
theorem dX7_day_29 : decode cX7_day 29 = .ok (.ldc2_w 111, 3) := by decide +kernel
theorem dX7_day_32 : decode cX7_day 32 = .ok (.invokestatic 66, 3) := by decide +kernel
theorem dX7_day_35 : decode cX7_day 35 = .ok (.ifCond .eq 22, 3) := by decide +kernel
theorem dX7_day_38 : decode cX7_day 38 = .ok (.sipush 360, 3) := by decide +kernel
theorem dX7_day_41 : decode cX7_day 41 = .ok (.iload_n 2, 1) := by decide +kernel
theorem dX7_day_42 : decode cX7_day 42 = .ok (.imul, 1) := by decide +kernel
theorem dX7_day_43 : decode cX7_day 43 = .ok (.aload_n 0, 1) := by decide +kernel
theorem dX7_day_44 : decode cX7_day 44 = .ok (.getfield 89, 3) := by decide +kernel
theorem dX7_day_47 : decode cX7_day 47 = .ok (.iadd, 1) := by decide +kernel
theorem dX7_day_48 : decode cX7_day 48 = .ok (.iload_n 1, 1) := by decide +kernel
theorem dX7_day_49 : decode cX7_day 49 = .ok (.if_icmp .ge 8, 3) := by decide +kernel
theorem dX7_day_52 : decode cX7_day 52 = .ok (.aload_n 0, 1) := by decide +kernel
theorem dX7_day_53 : decode cX7_day 53 = .ok (.iconst 4, 1) := by decide +kernel
theorem dX7_day_54 : decode cX7_day 54 = .ok (.invokevirtual 100, 3) := by decide +kernel
theorem dX7_day_57 : decode cX7_day 57 = .ok (.sipush 360, 3) := by decide +kernel
theorem dX7_day_60 : decode cX7_day 60 = .ok (.iload_n 2, 1) := by decide +kernel
theorem dX7_day_61 : decode cX7_day 61 = .ok (.imul, 1) := by decide +kernel
theorem dX7_day_62 : decode cX7_day 62 = .ok (.aload_n 0, 1) := by decide +kernel
theorem dX7_day_63 : decode cX7_day 63 = .ok (.iconst 0, 1) := by decide +kernel
theorem dX7_day_64 : decode cX7_day 64 = .ok (.sipush 359, 3) := by decide +kernel
theorem dX7_day_67 : decode cX7_day 67 = .ok (.invokevirtual 107, 3) := by decide +kernel
theorem dX7_day_70 : decode cX7_day 70 = .ok (.iadd, 1) := by decide +kernel
theorem dX7_day_71 : decode cX7_day 71 = .ok (.ireturn, 1) := by decide +kernel
set_option maxRecDepth 20000 in
theorem ggX7_house_X7_numeral : GoodIn wsX7_house wsX7_numeral := goodIn_r _ [6, 7, 8, 9, 10, 11, 12, 5, 13, 14, 15, 16, 17, 18, 19, 20, 21, 22, 23, 24, 25, 26, 27, 28, 29, 30, 31, 32, 33, 34, 35, 36, 37, 38, 39, 40, 41, 42, 43, 44, 45, 46, 47, 48, 49, 50, 51, 52, 53, 54, 55, 56, 57, 58, 59, 60, 61, 62, 63, 64, 65, 66, 67, 68, 69, 70, 71] (by decide +kernel) (by decide +kernel)
set_option maxRecDepth 20000 in
theorem gX7_house_X7_numeral : GoodIn wsX7_house (wsV RX7 107 RX7 yX7_numeral wsX7_numeral) := goodIn_app (goodIn_of _ (by decide +kernel)) ggX7_house_X7_numeral
theorem dX7_house_0 : decode cX7_house 0 = .ok (.aload_n 0, 1) := by decide +kernel
theorem dX7_house_1 : decode cX7_house 1 = .ok (.iconst 0, 1) := by decide +kernel
theorem dX7_house_2 : decode cX7_house 2 = .ok (.bipush 7, 2) := by decide +kernel
theorem dX7_house_4 : decode cX7_house 4 = .ok (.invokevirtual 107, 3) := by decide +kernel
theorem dX7_house_7 : decode cX7_house 7 = .ok (.istore_n 1, 1) := by decide +kernel
theorem dX7_house_8 : decode cX7_house 8 = .ok (.aload_n 0, 1) := by decide +kernel
theorem dX7_house_9 : decode cX7_house 9 = .ok (.iload_n 1, 1) := by decide +kernel
theorem dX7_house_10 : decode cX7_house 10 = .ok (.aload_n 0, 1) := by decide +kernel
theorem dX7_house_11 : decode cX7_house 11 = .ok (.getfield 113, 3) := by decide +kernel
theorem dX7_house_14 : decode cX7_house 14 = .ok (.if_icmp .le 7, 3) := by decide +kernel
theorem dX7_house_17 : decode cX7_house 17 = .ok (.iload_n 1, 1) := by decide +kernel
theorem dX7_house_18 : decode cX7_house 18 = .ok (.goto 7, 3) := by decide +kernel
theorem dX7_house_21 : decode cX7_house 21 = .ok (.aload_n 0, 1) := by decide +kernel
theorem dX7_house_22 : decode cX7_house 22 = .ok (.getfield 113, 3) := by decide +kernel
theorem dX7_house_25 : decode cX7_house 25 = .ok (.putfield 113, 3) := by decide +kernel
theorem dX7_house_28 : decode cX7_house 28 = .ok (.iload_n 1, 1) := by decide +kernel
theorem dX7_house_29 : decode cX7_house 29 = .ok (.ireturn, 1) := by decide +kernel
set_option maxRecDepth 20000 in
theorem ggX7_readOne_X7_fails : GoodIn wsX7_readOne wsX7_fails := goodIn_r _ [8, 2, 9, 10, 50, 51, 52, 53, 54, 55, 56, 57, 58, 59, 60, 61, 62, 63, 64, 65, 66, 67, 68, 69, 70, 71, 72, 73, 74, 75, 76, 77, 78, 79, 80, 81, 82, 83, 84, 85, 86, 87] (by decide +kernel) (by decide +kernel)
set_option maxRecDepth 20000 in
theorem gX7_readOne_X7_fails : GoodIn wsX7_readOne (wsV RX7 100 RX7 yX7_fails wsX7_fails) := goodIn_app (goodIn_of _ (by decide +kernel)) ggX7_readOne_X7_fails
set_option maxRecDepth 20000 in
theorem ggX7_readOne_X7_step : GoodIn wsX7_readOne wsX7_step := goodIn_r _ [14, 2, 15, 9, 16, 3, 17, 18, 19, 20, 21, 22, 23, 7, 24, 25, 26, 27, 28, 29, 4, 5, 6, 8, 10, 50, 51, 52, 53, 54, 55, 56, 57, 58, 59, 60, 61, 62, 63, 64, 65, 66, 67, 68, 69, 70, 71, 72, 73, 74, 75, 76, 77, 78, 79, 80, 81, 82, 83, 84, 85, 86, 87] (by decide +kernel) (by decide +kernel)
set_option maxRecDepth 20000 in
theorem gX7_readOne_X7_step : GoodIn wsX7_readOne (wsV RX7 104 RX7 yX7_step wsX7_step) := goodIn_app (goodIn_of _ (by decide +kernel)) ggX7_readOne_X7_step
set_option maxRecDepth 20000 in
theorem ggX7_readOne_X7_nameHere : GoodIn wsX7_readOne wsX7_nameHere := goodIn_r _ [33, 3, 15, 9, 34, 35, 21, 22, 23, 7, 24, 25, 26, 50, 51, 52, 53, 54, 55, 56, 57, 58, 59, 60, 61, 62, 63, 64, 65, 66, 67, 68, 69, 70, 71, 72, 73, 74, 75, 76, 77, 78, 79, 80, 81, 82, 83, 84, 85, 86, 87] (by decide +kernel) (by decide +kernel)
set_option maxRecDepth 20000 in
theorem gX7_readOne_X7_nameHere : GoodIn wsX7_readOne (wsV RX7 116 RX7 yX7_nameHere wsX7_nameHere) := goodIn_app (goodIn_of _ (by decide +kernel)) ggX7_readOne_X7_nameHere
set_option maxRecDepth 20000 in
theorem ggX7_readOne_X7_day : GoodIn wsX7_readOne wsX7_day := goodIn_r _ [39, 2, 3, 16, 40, 41, 42, 43, 7, 44, 4, 5, 6, 8, 9, 10, 27, 28, 29, 11, 12, 13, 14, 15, 17, 18, 19, 20, 21, 22, 23, 24, 25, 26, 50, 51, 52, 53, 54, 55, 56, 57, 58, 59, 60, 61, 62, 63, 64, 65, 66, 67, 68, 69, 70, 71, 72, 73, 74, 75, 76, 77, 78, 79, 80, 81, 82, 83, 84, 85, 86, 87] (by decide +kernel) (by decide +kernel)
set_option maxRecDepth 20000 in
theorem gX7_readOne_X7_day : GoodIn wsX7_readOne (wsV RX7 120 RX7 yX7_day wsX7_day) := goodIn_app (goodIn_of _ (by decide +kernel)) ggX7_readOne_X7_day
set_option maxRecDepth 20000 in
theorem ggX7_readOne_X7_house : GoodIn wsX7_readOne wsX7_house := goodIn_r _ [48, 49, 41, 42, 43, 7, 44, 2, 3, 16, 4, 5, 6, 8, 9, 10, 27, 28, 29, 11, 12, 13, 14, 15, 17, 18, 19, 20, 21, 22, 23, 24, 25, 26, 50, 51, 52, 53, 54, 55, 56, 57, 58, 59, 60, 61, 62, 63, 64, 65, 66, 67, 68, 69, 70, 71, 72, 73, 74, 75, 76, 77, 78, 79, 80, 81, 82, 83, 84, 85, 86, 87] (by decide +kernel) (by decide +kernel)
set_option maxRecDepth 20000 in
theorem gX7_readOne_X7_house : GoodIn wsX7_readOne (wsV RX7 123 RX7 yX7_house wsX7_house) := goodIn_app (goodIn_of _ (by decide +kernel)) ggX7_readOne_X7_house
theorem dX7_readOne_0 : decode cX7_readOne 0 = .ok (.aload_n 0, 1) := by decide +kernel
theorem dX7_readOne_1 : decode cX7_readOne 1 = .ok (.getfield 17, 3) := by decide +kernel
theorem dX7_readOne_4 : decode cX7_readOne 4 = .ok (.bipush 88, 2) := by decide +kernel
theorem dX7_readOne_6 : decode cX7_readOne 6 = .ok (.iaload, 1) := by decide +kernel
theorem dX7_readOne_7 : decode cX7_readOne 7 = .ok (.istore_n 1, 1) := by decide +kernel
theorem dX7_readOne_8 : decode cX7_readOne 8 = .ok (.iload_n 1, 1) := by decide +kernel
theorem dX7_readOne_9 : decode cX7_readOne 9 = .ok (.bipush 10, 2) := by decide +kernel
theorem dX7_readOne_11 : decode cX7_readOne 11 = .ok (.if_icmp .ne 9, 3) := by decide +kernel
theorem dX7_readOne_14 : decode cX7_readOne 14 = .ok (.aload_n 0, 1) := by decide +kernel
theorem dX7_readOne_15 : decode cX7_readOne 15 = .ok (.iconst 5, 1) := by decide +kernel
theorem dX7_readOne_16 : decode cX7_readOne 16 = .ok (.invokevirtual 100, 3) := by decide +kernel
theorem dX7_readOne_19 : decode cX7_readOne 19 = .ok (.return_, 1) := by decide +kernel
theorem dX7_readOne_20 : decode cX7_readOne 20 = .ok (.aload_n 0, 1) := by decide +kernel
theorem dX7_readOne_21 : decode cX7_readOne 21 = .ok (.invokevirtual 104, 3) := by decide +kernel
theorem dX7_readOne_24 : decode cX7_readOne 24 = .ok (.aload_n 0, 1) := by decide +kernel
theorem dX7_readOne_25 : decode cX7_readOne 25 = .ok (.invokevirtual 116, 3) := by decide +kernel
theorem dX7_readOne_28 : decode cX7_readOne 28 = .ok (.bipush 10, 2) := by decide +kernel
theorem dX7_readOne_30 : decode cX7_readOne 30 = .ok (.isub, 1) := by decide +kernel
theorem dX7_readOne_31 : decode cX7_readOne 31 = .ok (.istore_n 2, 1) := by decide +kernel
theorem dX7_readOne_32 : decode cX7_readOne 32 = .ok (.iload_n 2, 1) := by decide +kernel
theorem dX7_readOne_33 : decode cX7_readOne 33 = .ok (.ifCond .ge 9, 3) := by decide +kernel
theorem dX7_readOne_36 : decode cX7_readOne 36 = .ok (.aload_n 0, 1) := by decide +kernel
theorem dX7_readOne_37 : decode cX7_readOne 37 = .ok (.iconst 2, 1) := by decide +kernel
theorem dX7_readOne_38 : decode cX7_readOne 38 = .ok (.invokevirtual 100, 3) := by decide +kernel
theorem dX7_readOne_41 : decode cX7_readOne 41 = .ok (.return_, 1) := by decide +kernel
theorem dX7_readOne_42 : decode cX7_readOne 42 = .ok (.aload_n 0, 1) := by decide +kernel
theorem dX7_readOne_43 : decode cX7_readOne 43 = .ok (.invokevirtual 104, 3) := by decide +kernel
theorem dX7_readOne_46 : decode cX7_readOne 46 = .ok (.aload_n 0, 1) := by decide +kernel
theorem dX7_readOne_47 : decode cX7_readOne 47 = .ok (.getfield 17, 3) := by decide +kernel
theorem dX7_readOne_50 : decode cX7_readOne 50 = .ok (.iconst 4, 1) := by decide +kernel
theorem dX7_readOne_51 : decode cX7_readOne 51 = .ok (.iload_n 1, 1) := by decide +kernel
theorem dX7_readOne_52 : decode cX7_readOne 52 = .ok (.imul, 1) := by decide +kernel
theorem dX7_readOne_53 : decode cX7_readOne 53 = .ok (.iload_n 2, 1) := by decide +kernel
theorem dX7_readOne_54 : decode cX7_readOne 54 = .ok (.iastore, 1) := by decide +kernel
theorem dX7_readOne_55 : decode cX7_readOne 55 = .ok (.aload_n 0, 1) := by decide +kernel
theorem dX7_readOne_56 : decode cX7_readOne 56 = .ok (.getfield 17, 3) := by decide +kernel
theorem dX7_readOne_59 : decode cX7_readOne 59 = .ok (.iconst 4, 1) := by decide +kernel
theorem dX7_readOne_60 : decode cX7_readOne 60 = .ok (.iload_n 1, 1) := by decide +kernel
theorem dX7_readOne_61 : decode cX7_readOne 61 = .ok (.imul, 1) := by decide +kernel
theorem dX7_readOne_62 : decode cX7_readOne 62 = .ok (.iconst 1, 1) := by decide +kernel
theorem dX7_readOne_63 : decode cX7_readOne 63 = .ok (.iadd, 1) := by decide +kernel
theorem dX7_readOne_64 : decode cX7_readOne 64 = .ok (.aload_n 0, 1) := by decide +kernel
theorem dX7_readOne_65 : decode cX7_readOne 65 = .ok (.iconst 0, 1) := by decide +kernel
theorem dX7_readOne_66 : decode cX7_readOne 66 = .ok (.invokevirtual 120, 3) := by decide +kernel
theorem dX7_readOne_69 : decode cX7_readOne 69 = .ok (.iastore, 1) := by decide +kernel
theorem dX7_readOne_70 : decode cX7_readOne 70 = .ok (.aload_n 0, 1) := by decide +kernel
theorem dX7_readOne_71 : decode cX7_readOne 71 = .ok (.getfield 17, 3) := by decide +kernel
theorem dX7_readOne_74 : decode cX7_readOne 74 = .ok (.iconst 4, 1) := by decide +kernel
theorem dX7_readOne_75 : decode cX7_readOne 75 = .ok (.iload_n 1, 1) := by decide +kernel
theorem dX7_readOne_76 : decode cX7_readOne 76 = .ok (.imul, 1) := by decide +kernel
theorem dX7_readOne_77 : decode cX7_readOne 77 = .ok (.iconst 2, 1) := by decide +kernel
theorem dX7_readOne_78 : decode cX7_readOne 78 = .ok (.iadd, 1) := by decide +kernel
theorem dX7_readOne_79 : decode cX7_readOne 79 = .ok (.aload_n 0, 1) := by decide +kernel
theorem dX7_readOne_80 : decode cX7_readOne 80 = .ok (.invokevirtual 123, 3) := by decide +kernel
theorem dX7_readOne_83 : decode cX7_readOne 83 = .ok (.iastore, 1) := by decide +kernel
theorem dX7_readOne_84 : decode cX7_readOne 84 = .ok (.aload_n 0, 1) := by decide +kernel
theorem dX7_readOne_85 : decode cX7_readOne 85 = .ok (.getfield 17, 3) := by decide +kernel
theorem dX7_readOne_88 : decode cX7_readOne 88 = .ok (.iconst 4, 1) := by decide +kernel
theorem dX7_readOne_89 : decode cX7_readOne 89 = .ok (.iload_n 1, 1) := by decide +kernel
theorem dX7_readOne_90 : decode cX7_readOne 90 = .ok (.imul, 1) := by decide +kernel
theorem dX7_readOne_91 : decode cX7_readOne 91 = .ok (.iconst 3, 1) := by decide +kernel
theorem dX7_readOne_92 : decode cX7_readOne 92 = .ok (.iadd, 1) := by decide +kernel
theorem dX7_readOne_93 : decode cX7_readOne 93 = .ok (.bipush (-4), 2) := by decide +kernel
theorem dX7_readOne_95 : decode cX7_readOne 95 = .ok (.iastore, 1) := by decide +kernel
theorem dX7_readOne_96 : decode cX7_readOne 96 = .ok (.aload_n 0, 1) := by decide +kernel
theorem dX7_readOne_97 : decode cX7_readOne 97 = .ok (.getfield 70, 3) := by decide +kernel
theorem dX7_readOne_100 : decode cX7_readOne 100 = .ok (.ifCond .ne 54, 3) := by decide +kernel
theorem dX7_readOne_103 : decode cX7_readOne 103 = .ok (.aload_n 0, 1) := by decide +kernel
theorem dX7_readOne_104 : decode cX7_readOne 104 = .ok (.getfield 79, 3) := by decide +kernel
theorem dX7_readOne_107 : decode cX7_readOne 107 = .ok (.iconst 1, 1) := by decide +kernel
theorem dX7_readOne_108 : decode cX7_readOne 108 = .ok (.if_icmp .ne 46, 3) := by decide +kernel
theorem dX7_readOne_111 : decode cX7_readOne 111 = .ok (.aload_n 0, 1) := by decide +kernel
theorem dX7_readOne_112 : decode cX7_readOne 112 = .ok (.invokevirtual 116, 3) := by decide +kernel
theorem dX7_readOne_115 : decode cX7_readOne 115 = .ok (.iconst 5, 1) := by decide +kernel
theorem dX7_readOne_116 : decode cX7_readOne 116 = .ok (.if_icmp .eq 8, 3) := by decide +kernel
theorem dX7_readOne_119 : decode cX7_readOne 119 = .ok (.aload_n 0, 1) := by decide +kernel
theorem dX7_readOne_120 : decode cX7_readOne 120 = .ok (.iconst 2, 1) := by decide +kernel
theorem dX7_readOne_121 : decode cX7_readOne 121 = .ok (.invokevirtual 100, 3) := by decide +kernel
theorem dX7_readOne_124 : decode cX7_readOne 124 = .ok (.aload_n 0, 1) := by decide +kernel
theorem dX7_readOne_125 : decode cX7_readOne 125 = .ok (.invokevirtual 104, 3) := by decide +kernel
theorem dX7_readOne_128 : decode cX7_readOne 128 = .ok (.aload_n 0, 1) := by decide +kernel
theorem dX7_readOne_129 : decode cX7_readOne 129 = .ok (.getfield 17, 3) := by decide +kernel
theorem dX7_readOne_132 : decode cX7_readOne 132 = .ok (.iconst 4, 1) := by decide +kernel
theorem dX7_readOne_133 : decode cX7_readOne 133 = .ok (.iload_n 1, 1) := by decide +kernel
theorem dX7_readOne_134 : decode cX7_readOne 134 = .ok (.imul, 1) := by decide +kernel
theorem dX7_readOne_135 : decode cX7_readOne 135 = .ok (.iconst 3, 1) := by decide +kernel
theorem dX7_readOne_136 : decode cX7_readOne 136 = .ok (.iadd, 1) := by decide +kernel
theorem dX7_readOne_137 : decode cX7_readOne 137 = .ok (.aload_n 0, 1) := by decide +kernel
theorem dX7_readOne_138 : decode cX7_readOne 138 = .ok (.aload_n 0, 1) := by decide +kernel
theorem dX7_readOne_139 : decode cX7_readOne 139 = .ok (.getfield 17, 3) := by decide +kernel
theorem dX7_readOne_142 : decode cX7_readOne 142 = .ok (.iconst 4, 1) := by decide +kernel
theorem dX7_readOne_143 : decode cX7_readOne 143 = .ok (.iload_n 1, 1) := by decide +kernel
theorem dX7_readOne_144 : decode cX7_readOne 144 = .ok (.imul, 1) := by decide +kernel
theorem dX7_readOne_145 : decode cX7_readOne 145 = .ok (.iconst 1, 1) := by decide +kernel
theorem dX7_readOne_146 : decode cX7_readOne 146 = .ok (.iadd, 1) := by decide +kernel
theorem dX7_readOne_147 : decode cX7_readOne 147 = .ok (.iaload, 1) := by decide +kernel
theorem dX7_readOne_148 : decode cX7_readOne 148 = .ok (.iconst 1, 1) := by decide +kernel
theorem dX7_readOne_149 : decode cX7_readOne 149 = .ok (.iadd, 1) := by decide +kernel
theorem dX7_readOne_150 : decode cX7_readOne 150 = .ok (.invokevirtual 120, 3) := by decide +kernel
theorem dX7_readOne_153 : decode cX7_readOne 153 = .ok (.iastore, 1) := by decide +kernel
theorem dX7_readOne_154 : decode cX7_readOne 154 = .ok (.aload_n 0, 1) := by decide +kernel
theorem dX7_readOne_155 : decode cX7_readOne 155 = .ok (.getfield 17, 3) := by decide +kernel
theorem dX7_readOne_158 : decode cX7_readOne 158 = .ok (.bipush 88, 2) := by decide +kernel
theorem dX7_readOne_160 : decode cX7_readOne 160 = .ok (.dup2, 1) := by decide +kernel
theorem dX7_readOne_161 : decode cX7_readOne 161 = .ok (.iaload, 1) := by decide +kernel
theorem dX7_readOne_162 : decode cX7_readOne 162 = .ok (.iconst 1, 1) := by decide +kernel
theorem dX7_readOne_163 : decode cX7_readOne 163 = .ok (.iadd, 1) := by decide +kernel
theorem dX7_readOne_164 : decode cX7_readOne 164 = .ok (.iastore, 1) := by decide +kernel
theorem dX7_readOne_165 : decode cX7_readOne 165 = .ok (.return_, 1) := by decide +kernel
set_option maxRecDepth 20000 in
theorem ggX7_readMove_X7_fails : GoodIn wsX7_readMove wsX7_fails := goodIn_r _ [7, 8, 9, 10, 45, 46, 47, 48, 49, 50, 51, 52, 53, 54, 55, 56, 57, 58, 59, 60, 61, 62, 63, 64, 65, 66, 67, 68, 69, 70, 71, 72, 73, 74, 75, 76, 77, 78, 79, 80, 81, 82] (by decide +kernel) (by decide +kernel)
set_option maxRecDepth 20000 in
theorem gX7_readMove_X7_fails : GoodIn wsX7_readMove (wsV RX7 100 RX7 yX7_fails wsX7_fails) := goodIn_app (goodIn_of _ (by decide +kernel)) ggX7_readMove_X7_fails
set_option maxRecDepth 20000 in
theorem ggX7_readMove_X7_step : GoodIn wsX7_readMove wsX7_step := goodIn_r _ [14, 8, 15, 9, 16, 17, 18, 19, 20, 21, 22, 23, 24, 6, 25, 26, 27, 28, 29, 30, 3, 4, 5, 7, 10, 45, 46, 47, 48, 49, 50, 51, 52, 53, 54, 55, 56, 57, 58, 59, 60, 61, 62, 63, 64, 65, 66, 67, 68, 69, 70, 71, 72, 73, 74, 75, 76, 77, 78, 79, 80, 81, 82] (by decide +kernel) (by decide +kernel)
set_option maxRecDepth 20000 in
theorem gX7_readMove_X7_step : GoodIn wsX7_readMove (wsV RX7 104 RX7 yX7_step wsX7_step) := goodIn_app (goodIn_of _ (by decide +kernel)) ggX7_readMove_X7_step
set_option maxRecDepth 20000 in
theorem ggX7_readMove_X7_day : GoodIn wsX7_readMove wsX7_day := goodIn_r _ [34, 8, 17, 16, 35, 36, 37, 38, 6, 39, 3, 4, 5, 7, 9, 10, 28, 29, 30, 11, 12, 13, 14, 15, 18, 19, 20, 21, 22, 23, 24, 25, 26, 27, 45, 46, 47, 48, 49, 50, 51, 52, 53, 54, 55, 56, 57, 58, 59, 60, 61, 62, 63, 64, 65, 66, 67, 68, 69, 70, 71, 72, 73, 74, 75, 76, 77, 78, 79, 80, 81, 82] (by decide +kernel) (by decide +kernel)
set_option maxRecDepth 20000 in
theorem gX7_readMove_X7_day : GoodIn wsX7_readMove (wsV RX7 120 RX7 yX7_day wsX7_day) := goodIn_app (goodIn_of _ (by decide +kernel)) ggX7_readMove_X7_day
set_option maxRecDepth 20000 in
theorem ggX7_readMove_X7_numeral : GoodIn wsX7_readMove wsX7_numeral := goodIn_r _ [39, 8, 17, 16, 3, 4, 5, 6, 7, 9, 10, 28, 29, 30, 11, 12, 13, 14, 15, 18, 19, 20, 21, 22, 23, 24, 25, 26, 27, 45, 46, 47, 48, 49, 50, 51, 52, 53, 54, 55, 56, 57, 58, 59, 60, 61, 62, 63, 64, 65, 66, 67, 68, 69, 70, 71, 72, 73, 74, 75, 76, 77, 78, 79, 80, 81, 82] (by decide +kernel) (by decide +kernel)
set_option maxRecDepth 20000 in
theorem gX7_readMove_X7_numeral : GoodIn wsX7_readMove (wsV RX7 107 RX7 yX7_numeral wsX7_numeral) := goodIn_app (goodIn_of _ (by decide +kernel)) ggX7_readMove_X7_numeral
set_option maxRecDepth 20000 in
theorem ggX7_readMove_X7_house : GoodIn wsX7_readMove wsX7_house := goodIn_r _ [43, 44, 36, 37, 38, 6, 39, 8, 17, 16, 3, 4, 5, 7, 9, 10, 28, 29, 30, 11, 12, 13, 14, 15, 18, 19, 20, 21, 22, 23, 24, 25, 26, 27, 45, 46, 47, 48, 49, 50, 51, 52, 53, 54, 55, 56, 57, 58, 59, 60, 61, 62, 63, 64, 65, 66, 67, 68, 69, 70, 71, 72, 73, 74, 75, 76, 77, 78, 79, 80, 81, 82] (by decide +kernel) (by decide +kernel)
set_option maxRecDepth 20000 in
theorem gX7_readMove_X7_house : GoodIn wsX7_readMove (wsV RX7 123 RX7 yX7_house wsX7_house) := goodIn_app (goodIn_of _ (by decide +kernel)) ggX7_readMove_X7_house
theorem dX7_readMove_0 : decode cX7_readMove 0 = .ok (.aload_n 0, 1) := by decide +kernel
theorem dX7_readMove_1 : decode cX7_readMove 1 = .ok (.getfield 17, 3) := by decide +kernel
theorem dX7_readMove_4 : decode cX7_readMove 4 = .ok (.bipush 89, 2) := by decide +kernel
theorem dX7_readMove_6 : decode cX7_readMove 6 = .ok (.iaload, 1) := by decide +kernel
theorem dX7_readMove_7 : decode cX7_readMove 7 = .ok (.istore_n 1, 1) := by decide +kernel
theorem dX7_readMove_8 : decode cX7_readMove 8 = .ok (.iload_n 1, 1) := by decide +kernel
theorem dX7_readMove_9 : decode cX7_readMove 9 = .ok (.bipush 12, 2) := by decide +kernel
theorem dX7_readMove_11 : decode cX7_readMove 11 = .ok (.if_icmp .ne 9, 3) := by decide +kernel
theorem dX7_readMove_14 : decode cX7_readMove 14 = .ok (.aload_n 0, 1) := by decide +kernel
theorem dX7_readMove_15 : decode cX7_readMove 15 = .ok (.iconst 5, 1) := by decide +kernel
theorem dX7_readMove_16 : decode cX7_readMove 16 = .ok (.invokevirtual 100, 3) := by decide +kernel
theorem dX7_readMove_19 : decode cX7_readMove 19 = .ok (.return_, 1) := by decide +kernel
theorem dX7_readMove_20 : decode cX7_readMove 20 = .ok (.aload_n 0, 1) := by decide +kernel
theorem dX7_readMove_21 : decode cX7_readMove 21 = .ok (.invokevirtual 104, 3) := by decide +kernel
theorem dX7_readMove_24 : decode cX7_readMove 24 = .ok (.bipush 40, 2) := by decide +kernel
theorem dX7_readMove_26 : decode cX7_readMove 26 = .ok (.iconst 3, 1) := by decide +kernel
theorem dX7_readMove_27 : decode cX7_readMove 27 = .ok (.iload_n 1, 1) := by decide +kernel
theorem dX7_readMove_28 : decode cX7_readMove 28 = .ok (.imul, 1) := by decide +kernel
theorem dX7_readMove_29 : decode cX7_readMove 29 = .ok (.iadd, 1) := by decide +kernel
theorem dX7_readMove_30 : decode cX7_readMove 30 = .ok (.istore_n 2, 1) := by decide +kernel
theorem dX7_readMove_31 : decode cX7_readMove 31 = .ok (.aload_n 0, 1) := by decide +kernel
theorem dX7_readMove_32 : decode cX7_readMove 32 = .ok (.getfield 17, 3) := by decide +kernel
theorem dX7_readMove_35 : decode cX7_readMove 35 = .ok (.iload_n 2, 1) := by decide +kernel
theorem dX7_readMove_36 : decode cX7_readMove 36 = .ok (.aload_n 0, 1) := by decide +kernel
theorem dX7_readMove_37 : decode cX7_readMove 37 = .ok (.iload_n 1, 1) := by decide +kernel
theorem dX7_readMove_38 : decode cX7_readMove 38 = .ok (.ifCond .ne 7, 3) := by decide +kernel
theorem dX7_readMove_41 : decode cX7_readMove 41 = .ok (.iconst 0, 1) := by decide +kernel
theorem dX7_readMove_42 : decode cX7_readMove 42 = .ok (.goto 11, 3) := by decide +kernel
theorem dX7_readMove_45 : decode cX7_readMove 45 = .ok (.aload_n 0, 1) := by decide +kernel
theorem dX7_readMove_46 : decode cX7_readMove 46 = .ok (.getfield 17, 3) := by decide +kernel
theorem dX7_readMove_49 : decode cX7_readMove 49 = .ok (.iload_n 2, 1) := by decide +kernel
theorem dX7_readMove_50 : decode cX7_readMove 50 = .ok (.iconst 3, 1) := by decide +kernel
theorem dX7_readMove_51 : decode cX7_readMove 51 = .ok (.isub, 1) := by decide +kernel
theorem dX7_readMove_52 : decode cX7_readMove 52 = .ok (.iaload, 1) := by decide +kernel
theorem dX7_readMove_53 : decode cX7_readMove 53 = .ok (.invokevirtual 120, 3) := by decide +kernel
theorem dX7_readMove_56 : decode cX7_readMove 56 = .ok (.iastore, 1) := by decide +kernel
theorem dX7_readMove_57 : decode cX7_readMove 57 = .ok (.aload_n 0, 1) := by decide +kernel
theorem dX7_readMove_58 : decode cX7_readMove 58 = .ok (.getfield 17, 3) := by decide +kernel
theorem dX7_readMove_61 : decode cX7_readMove 61 = .ok (.iload_n 2, 1) := by decide +kernel
theorem dX7_readMove_62 : decode cX7_readMove 62 = .ok (.iconst 1, 1) := by decide +kernel
theorem dX7_readMove_63 : decode cX7_readMove 63 = .ok (.iadd, 1) := by decide +kernel
theorem dX7_readMove_64 : decode cX7_readMove 64 = .ok (.aload_n 0, 1) := by decide +kernel
theorem dX7_readMove_65 : decode cX7_readMove 65 = .ok (.iconst 0, 1) := by decide +kernel
theorem dX7_readMove_66 : decode cX7_readMove 66 = .ok (.bipush 9, 2) := by decide +kernel
theorem dX7_readMove_68 : decode cX7_readMove 68 = .ok (.invokevirtual 107, 3) := by decide +kernel
theorem dX7_readMove_71 : decode cX7_readMove 71 = .ok (.iastore, 1) := by decide +kernel
theorem dX7_readMove_72 : decode cX7_readMove 72 = .ok (.aload_n 0, 1) := by decide +kernel
theorem dX7_readMove_73 : decode cX7_readMove 73 = .ok (.aload_n 0, 1) := by decide +kernel
theorem dX7_readMove_74 : decode cX7_readMove 74 = .ok (.getfield 17, 3) := by decide +kernel
theorem dX7_readMove_77 : decode cX7_readMove 77 = .ok (.iload_n 2, 1) := by decide +kernel
theorem dX7_readMove_78 : decode cX7_readMove 78 = .ok (.iconst 1, 1) := by decide +kernel
theorem dX7_readMove_79 : decode cX7_readMove 79 = .ok (.iadd, 1) := by decide +kernel
theorem dX7_readMove_80 : decode cX7_readMove 80 = .ok (.iaload, 1) := by decide +kernel
theorem dX7_readMove_81 : decode cX7_readMove 81 = .ok (.aload_n 0, 1) := by decide +kernel
theorem dX7_readMove_82 : decode cX7_readMove 82 = .ok (.getfield 126, 3) := by decide +kernel
theorem dX7_readMove_85 : decode cX7_readMove 85 = .ok (.if_icmp .le 14, 3) := by decide +kernel
theorem dX7_readMove_88 : decode cX7_readMove 88 = .ok (.aload_n 0, 1) := by decide +kernel
theorem dX7_readMove_89 : decode cX7_readMove 89 = .ok (.getfield 17, 3) := by decide +kernel
theorem dX7_readMove_92 : decode cX7_readMove 92 = .ok (.iload_n 2, 1) := by decide +kernel
theorem dX7_readMove_93 : decode cX7_readMove 93 = .ok (.iconst 1, 1) := by decide +kernel
theorem dX7_readMove_94 : decode cX7_readMove 94 = .ok (.iadd, 1) := by decide +kernel
theorem dX7_readMove_95 : decode cX7_readMove 95 = .ok (.iaload, 1) := by decide +kernel
theorem dX7_readMove_96 : decode cX7_readMove 96 = .ok (.goto 7, 3) := by decide +kernel
theorem dX7_readMove_99 : decode cX7_readMove 99 = .ok (.aload_n 0, 1) := by decide +kernel
theorem dX7_readMove_100 : decode cX7_readMove 100 = .ok (.getfield 126, 3) := by decide +kernel
theorem dX7_readMove_103 : decode cX7_readMove 103 = .ok (.putfield 126, 3) := by decide +kernel
theorem dX7_readMove_106 : decode cX7_readMove 106 = .ok (.aload_n 0, 1) := by decide +kernel
theorem dX7_readMove_107 : decode cX7_readMove 107 = .ok (.getfield 17, 3) := by decide +kernel
theorem dX7_readMove_110 : decode cX7_readMove 110 = .ok (.iload_n 2, 1) := by decide +kernel
theorem dX7_readMove_111 : decode cX7_readMove 111 = .ok (.iconst 2, 1) := by decide +kernel
theorem dX7_readMove_112 : decode cX7_readMove 112 = .ok (.iadd, 1) := by decide +kernel
theorem dX7_readMove_113 : decode cX7_readMove 113 = .ok (.aload_n 0, 1) := by decide +kernel
theorem dX7_readMove_114 : decode cX7_readMove 114 = .ok (.invokevirtual 123, 3) := by decide +kernel
theorem dX7_readMove_117 : decode cX7_readMove 117 = .ok (.iastore, 1) := by decide +kernel
theorem dX7_readMove_118 : decode cX7_readMove 118 = .ok (.aload_n 0, 1) := by decide +kernel
theorem dX7_readMove_119 : decode cX7_readMove 119 = .ok (.getfield 17, 3) := by decide +kernel
theorem dX7_readMove_122 : decode cX7_readMove 122 = .ok (.bipush 89, 2) := by decide +kernel
theorem dX7_readMove_124 : decode cX7_readMove 124 = .ok (.dup2, 1) := by decide +kernel
theorem dX7_readMove_125 : decode cX7_readMove 125 = .ok (.iaload, 1) := by decide +kernel
theorem dX7_readMove_126 : decode cX7_readMove 126 = .ok (.iconst 1, 1) := by decide +kernel
theorem dX7_readMove_127 : decode cX7_readMove 127 = .ok (.iadd, 1) := by decide +kernel
theorem dX7_readMove_128 : decode cX7_readMove 128 = .ok (.iastore, 1) := by decide +kernel
theorem dX7_readMove_129 : decode cX7_readMove 129 = .ok (.return_, 1) := by decide +kernel
set_option maxRecDepth 20000 in
theorem ggX7_readExpect_X7_fails : GoodIn wsX7_readExpect wsX7_fails := goodIn_r _ [6, 7, 8, 9, 44, 45, 46, 47, 48, 49, 50, 51, 52, 53, 54, 55, 56, 57, 58, 59, 60, 61, 62, 63, 64, 65, 66, 67, 68, 69, 70, 71, 72, 73, 74, 75, 76, 77, 78, 79, 80, 81] (by decide +kernel) (by decide +kernel)
set_option maxRecDepth 20000 in
theorem gX7_readExpect_X7_fails : GoodIn wsX7_readExpect (wsV RX7 100 RX7 yX7_fails wsX7_fails) := goodIn_app (goodIn_of _ (by decide +kernel)) ggX7_readExpect_X7_fails
set_option maxRecDepth 20000 in
theorem ggX7_readExpect_X7_step : GoodIn wsX7_readExpect wsX7_step := goodIn_r _ [13, 7, 14, 8, 15, 16, 17, 18, 19, 20, 21, 22, 23, 5, 24, 25, 26, 27, 28, 29, 2, 3, 4, 6, 9, 44, 45, 46, 47, 48, 49, 50, 51, 52, 53, 54, 55, 56, 57, 58, 59, 60, 61, 62, 63, 64, 65, 66, 67, 68, 69, 70, 71, 72, 73, 74, 75, 76, 77, 78, 79, 80, 81] (by decide +kernel) (by decide +kernel)
set_option maxRecDepth 20000 in
theorem gX7_readExpect_X7_step : GoodIn wsX7_readExpect (wsV RX7 104 RX7 yX7_step wsX7_step) := goodIn_app (goodIn_of _ (by decide +kernel)) ggX7_readExpect_X7_step
set_option maxRecDepth 20000 in
theorem ggX7_readExpect_X7_house : GoodIn wsX7_readExpect wsX7_house := goodIn_r _ [33, 34, 35, 36, 37, 5, 38, 7, 16, 15, 2, 3, 4, 6, 8, 9, 27, 28, 29, 10, 11, 12, 13, 14, 17, 18, 19, 20, 21, 22, 23, 24, 25, 26, 44, 45, 46, 47, 48, 49, 50, 51, 52, 53, 54, 55, 56, 57, 58, 59, 60, 61, 62, 63, 64, 65, 66, 67, 68, 69, 70, 71, 72, 73, 74, 75, 76, 77, 78, 79, 80, 81] (by decide +kernel) (by decide +kernel)
set_option maxRecDepth 20000 in
theorem gX7_readExpect_X7_house : GoodIn wsX7_readExpect (wsV RX7 123 RX7 yX7_house wsX7_house) := goodIn_app (goodIn_of _ (by decide +kernel)) ggX7_readExpect_X7_house
set_option maxRecDepth 20000 in
theorem ggX7_readExpect_X7_day : GoodIn wsX7_readExpect wsX7_day := goodIn_r _ [42, 7, 16, 15, 43, 35, 36, 37, 5, 38, 2, 3, 4, 6, 8, 9, 27, 28, 29, 10, 11, 12, 13, 14, 17, 18, 19, 20, 21, 22, 23, 24, 25, 26, 44, 45, 46, 47, 48, 49, 50, 51, 52, 53, 54, 55, 56, 57, 58, 59, 60, 61, 62, 63, 64, 65, 66, 67, 68, 69, 70, 71, 72, 73, 74, 75, 76, 77, 78, 79, 80, 81] (by decide +kernel) (by decide +kernel)
set_option maxRecDepth 20000 in
theorem gX7_readExpect_X7_day : GoodIn wsX7_readExpect (wsV RX7 120 RX7 yX7_day wsX7_day) := goodIn_app (goodIn_of _ (by decide +kernel)) ggX7_readExpect_X7_day
theorem dX7_readExpect_0 : decode cX7_readExpect 0 = .ok (.aload_n 0, 1) := by decide +kernel
theorem dX7_readExpect_1 : decode cX7_readExpect 1 = .ok (.getfield 17, 3) := by decide +kernel
theorem dX7_readExpect_4 : decode cX7_readExpect 4 = .ok (.bipush 90, 2) := by decide +kernel
theorem dX7_readExpect_6 : decode cX7_readExpect 6 = .ok (.iaload, 1) := by decide +kernel
theorem dX7_readExpect_7 : decode cX7_readExpect 7 = .ok (.istore_n 1, 1) := by decide +kernel
theorem dX7_readExpect_8 : decode cX7_readExpect 8 = .ok (.iload_n 1, 1) := by decide +kernel
theorem dX7_readExpect_9 : decode cX7_readExpect 9 = .ok (.iconst 4, 1) := by decide +kernel
theorem dX7_readExpect_10 : decode cX7_readExpect 10 = .ok (.if_icmp .ne 9, 3) := by decide +kernel
theorem dX7_readExpect_13 : decode cX7_readExpect 13 = .ok (.aload_n 0, 1) := by decide +kernel
theorem dX7_readExpect_14 : decode cX7_readExpect 14 = .ok (.iconst 5, 1) := by decide +kernel
theorem dX7_readExpect_15 : decode cX7_readExpect 15 = .ok (.invokevirtual 100, 3) := by decide +kernel
theorem dX7_readExpect_18 : decode cX7_readExpect 18 = .ok (.return_, 1) := by decide +kernel
theorem dX7_readExpect_19 : decode cX7_readExpect 19 = .ok (.aload_n 0, 1) := by decide +kernel
theorem dX7_readExpect_20 : decode cX7_readExpect 20 = .ok (.invokevirtual 104, 3) := by decide +kernel
theorem dX7_readExpect_23 : decode cX7_readExpect 23 = .ok (.bipush 76, 2) := by decide +kernel
theorem dX7_readExpect_25 : decode cX7_readExpect 25 = .ok (.iconst 3, 1) := by decide +kernel
theorem dX7_readExpect_26 : decode cX7_readExpect 26 = .ok (.iload_n 1, 1) := by decide +kernel
theorem dX7_readExpect_27 : decode cX7_readExpect 27 = .ok (.imul, 1) := by decide +kernel
theorem dX7_readExpect_28 : decode cX7_readExpect 28 = .ok (.iadd, 1) := by decide +kernel
theorem dX7_readExpect_29 : decode cX7_readExpect 29 = .ok (.istore_n 2, 1) := by decide +kernel
theorem dX7_readExpect_30 : decode cX7_readExpect 30 = .ok (.aload_n 0, 1) := by decide +kernel
theorem dX7_readExpect_31 : decode cX7_readExpect 31 = .ok (.getfield 17, 3) := by decide +kernel
theorem dX7_readExpect_34 : decode cX7_readExpect 34 = .ok (.iload_n 2, 1) := by decide +kernel
theorem dX7_readExpect_35 : decode cX7_readExpect 35 = .ok (.aload_n 0, 1) := by decide +kernel
theorem dX7_readExpect_36 : decode cX7_readExpect 36 = .ok (.invokevirtual 123, 3) := by decide +kernel
theorem dX7_readExpect_39 : decode cX7_readExpect 39 = .ok (.iastore, 1) := by decide +kernel
theorem dX7_readExpect_40 : decode cX7_readExpect 40 = .ok (.aload_n 0, 1) := by decide +kernel
theorem dX7_readExpect_41 : decode cX7_readExpect 41 = .ok (.getfield 17, 3) := by decide +kernel
theorem dX7_readExpect_44 : decode cX7_readExpect 44 = .ok (.iload_n 2, 1) := by decide +kernel
theorem dX7_readExpect_45 : decode cX7_readExpect 45 = .ok (.iconst 1, 1) := by decide +kernel
theorem dX7_readExpect_46 : decode cX7_readExpect 46 = .ok (.iadd, 1) := by decide +kernel
theorem dX7_readExpect_47 : decode cX7_readExpect 47 = .ok (.aload_n 0, 1) := by decide +kernel
theorem dX7_readExpect_48 : decode cX7_readExpect 48 = .ok (.iconst 0, 1) := by decide +kernel
theorem dX7_readExpect_49 : decode cX7_readExpect 49 = .ok (.invokevirtual 120, 3) := by decide +kernel
theorem dX7_readExpect_52 : decode cX7_readExpect 52 = .ok (.iastore, 1) := by decide +kernel
theorem dX7_readExpect_53 : decode cX7_readExpect 53 = .ok (.aload_n 0, 1) := by decide +kernel
theorem dX7_readExpect_54 : decode cX7_readExpect 54 = .ok (.getfield 17, 3) := by decide +kernel
theorem dX7_readExpect_57 : decode cX7_readExpect 57 = .ok (.iload_n 2, 1) := by decide +kernel
theorem dX7_readExpect_58 : decode cX7_readExpect 58 = .ok (.iconst 2, 1) := by decide +kernel
theorem dX7_readExpect_59 : decode cX7_readExpect 59 = .ok (.iadd, 1) := by decide +kernel
theorem dX7_readExpect_60 : decode cX7_readExpect 60 = .ok (.aload_n 0, 1) := by decide +kernel
theorem dX7_readExpect_61 : decode cX7_readExpect 61 = .ok (.aload_n 0, 1) := by decide +kernel
theorem dX7_readExpect_62 : decode cX7_readExpect 62 = .ok (.getfield 17, 3) := by decide +kernel
theorem dX7_readExpect_65 : decode cX7_readExpect 65 = .ok (.iload_n 2, 1) := by decide +kernel
theorem dX7_readExpect_66 : decode cX7_readExpect 66 = .ok (.iconst 1, 1) := by decide +kernel
theorem dX7_readExpect_67 : decode cX7_readExpect 67 = .ok (.iadd, 1) := by decide +kernel
theorem dX7_readExpect_68 : decode cX7_readExpect 68 = .ok (.iaload, 1) := by decide +kernel
theorem dX7_readExpect_69 : decode cX7_readExpect 69 = .ok (.invokevirtual 120, 3) := by decide +kernel
theorem dX7_readExpect_72 : decode cX7_readExpect 72 = .ok (.iastore, 1) := by decide +kernel
theorem dX7_readExpect_73 : decode cX7_readExpect 73 = .ok (.aload_n 0, 1) := by decide +kernel
theorem dX7_readExpect_74 : decode cX7_readExpect 74 = .ok (.getfield 17, 3) := by decide +kernel
theorem dX7_readExpect_77 : decode cX7_readExpect 77 = .ok (.bipush 90, 2) := by decide +kernel
theorem dX7_readExpect_79 : decode cX7_readExpect 79 = .ok (.dup2, 1) := by decide +kernel
theorem dX7_readExpect_80 : decode cX7_readExpect 80 = .ok (.iaload, 1) := by decide +kernel
theorem dX7_readExpect_81 : decode cX7_readExpect 81 = .ok (.iconst 1, 1) := by decide +kernel
theorem dX7_readExpect_82 : decode cX7_readExpect 82 = .ok (.iadd, 1) := by decide +kernel
theorem dX7_readExpect_83 : decode cX7_readExpect 83 = .ok (.iastore, 1) := by decide +kernel
theorem dX7_readExpect_84 : decode cX7_readExpect 84 = .ok (.return_, 1) := by decide +kernel
set_option maxRecDepth 20000 in
theorem ggX7_readOnce_X7_fails : GoodIn wsX7_readOnce wsX7_fails := goodIn_r _ [10, 11, 12, 13, 44, 45, 46, 47, 48, 49, 50, 51, 52, 53, 54, 55, 56, 57, 58, 59, 60, 61, 62, 63, 64, 65, 66, 67, 68, 69, 70, 71, 72, 73, 74, 75, 76, 77, 78, 79, 80, 81] (by decide +kernel) (by decide +kernel)
set_option maxRecDepth 20000 in
theorem gX7_readOnce_X7_fails : GoodIn wsX7_readOnce (wsV RX7 100 RX7 yX7_fails wsX7_fails) := goodIn_app (goodIn_of _ (by decide +kernel)) ggX7_readOnce_X7_fails
set_option maxRecDepth 20000 in
theorem ggX7_readOnce_X7_step : GoodIn wsX7_readOnce wsX7_step := goodIn_r _ [17, 11, 18, 12, 19, 20, 21, 22, 23, 24, 25, 26, 27, 9, 28, 29, 30, 31, 32, 33, 6, 7, 8, 10, 13, 44, 45, 46, 47, 48, 49, 50, 51, 52, 53, 54, 55, 56, 57, 58, 59, 60, 61, 62, 63, 64, 65, 66, 67, 68, 69, 70, 71, 72, 73, 74, 75, 76, 77, 78, 79, 80, 81] (by decide +kernel) (by decide +kernel)
set_option maxRecDepth 20000 in
theorem gX7_readOnce_X7_step : GoodIn wsX7_readOnce (wsV RX7 104 RX7 yX7_step wsX7_step) := goodIn_app (goodIn_of _ (by decide +kernel)) ggX7_readOnce_X7_step
set_option maxRecDepth 20000 in
theorem ggX7_readOnce_X7_numeral : GoodIn wsX7_readOnce wsX7_numeral := goodIn_r _ [37, 11, 20, 19, 6, 7, 8, 9, 10, 12, 13, 31, 32, 33, 14, 15, 16, 17, 18, 21, 22, 23, 24, 25, 26, 27, 28, 29, 30, 44, 45, 46, 47, 48, 49, 50, 51, 52, 53, 54, 55, 56, 57, 58, 59, 60, 61, 62, 63, 64, 65, 66, 67, 68, 69, 70, 71, 72, 73, 74, 75, 76, 77, 78, 79, 80, 81] (by decide +kernel) (by decide +kernel)
set_option maxRecDepth 20000 in
theorem gX7_readOnce_X7_numeral : GoodIn wsX7_readOnce (wsV RX7 107 RX7 yX7_numeral wsX7_numeral) := goodIn_app (goodIn_of _ (by decide +kernel)) ggX7_readOnce_X7_numeral
set_option maxRecDepth 20000 in
theorem ggX7_readOnce_X7_nameHere : GoodIn wsX7_readOnce wsX7_nameHere := goodIn_r _ [41, 20, 18, 12, 42, 43, 25, 26, 27, 9, 28, 29, 30, 44, 45, 46, 47, 48, 49, 50, 51, 52, 53, 54, 55, 56, 57, 58, 59, 60, 61, 62, 63, 64, 65, 66, 67, 68, 69, 70, 71, 72, 73, 74, 75, 76, 77, 78, 79, 80, 81] (by decide +kernel) (by decide +kernel)
set_option maxRecDepth 20000 in
theorem gX7_readOnce_X7_nameHere : GoodIn wsX7_readOnce (wsV RX7 116 RX7 yX7_nameHere wsX7_nameHere) := goodIn_app (goodIn_of _ (by decide +kernel)) ggX7_readOnce_X7_nameHere
set_option maxRecDepth 20000 in
theorem ggX7_readOnce_X7_in : GoodIn wsX7_readOnce wsX7_in := goodIn_r _ [33] (by decide +kernel) (by decide +kernel)
set_option maxRecDepth 20000 in
theorem gX7_readOnce_X7_in : GoodIn wsX7_readOnce (va_wsS RX7 66 yX7_in wsX7_in) := goodIn_app (goodIn_of _ (by decide +kernel)) ggX7_readOnce_X7_in
theorem dX7_readOnce_0 : decode cX7_readOnce 0 = .ok (.iload_n 1, 1) := by decide +kernel
theorem dX7_readOnce_1 : decode cX7_readOnce 1 = .ok (.ifCond .ne 36, 3) := by decide +kernel
theorem dX7_readOnce_4 : decode cX7_readOnce 4 = .ok (.aload_n 0, 1) := by decide +kernel
theorem dX7_readOnce_5 : decode cX7_readOnce 5 = .ok (.getfield 129, 3) := by decide +kernel
theorem dX7_readOnce_8 : decode cX7_readOnce 8 = .ok (.ifCond .eq 8, 3) := by decide +kernel
theorem dX7_readOnce_11 : decode cX7_readOnce 11 = .ok (.aload_n 0, 1) := by decide +kernel
theorem dX7_readOnce_12 : decode cX7_readOnce 12 = .ok (.iconst 4, 1) := by decide +kernel
theorem dX7_readOnce_13 : decode cX7_readOnce 13 = .ok (.invokevirtual 100, 3) := by decide +kernel
theorem dX7_readOnce_16 : decode cX7_readOnce 16 = .ok (.aload_n 0, 1) := by decide +kernel
theorem dX7_readOnce_17 : decode cX7_readOnce 17 = .ok (.iconst 1, 1) := by decide +kernel
theorem dX7_readOnce_18 : decode cX7_readOnce 18 = .ok (.putfield 129, 3) := by decide +kernel
theorem dX7_readOnce_21 : decode cX7_readOnce 21 = .ok (.aload_n 0, 1) := by decide +kernel
theorem dX7_readOnce_22 : decode cX7_readOnce 22 = .ok (.invokevirtual 104, 3) := by decide +kernel
theorem dX7_readOnce_25 : decode cX7_readOnce 25 = .ok (.aload_n 0, 1) := by decide +kernel
theorem dX7_readOnce_26 : decode cX7_readOnce 26 = .ok (.aload_n 0, 1) := by decide +kernel
theorem dX7_readOnce_27 : decode cX7_readOnce 27 = .ok (.iconst 1, 1) := by decide +kernel
theorem dX7_readOnce_28 : decode cX7_readOnce 28 = .ok (.bipush 8, 2) := by decide +kernel
theorem dX7_readOnce_30 : decode cX7_readOnce 30 = .ok (.invokevirtual 107, 3) := by decide +kernel
theorem dX7_readOnce_33 : decode cX7_readOnce 33 = .ok (.putfield 133, 3) := by decide +kernel
theorem dX7_readOnce_36 : decode cX7_readOnce 36 = .ok (.return_, 1) := by decide +kernel
theorem dX7_readOnce_37 : decode cX7_readOnce 37 = .ok (.aload_n 0, 1) := by decide +kernel
theorem dX7_readOnce_38 : decode cX7_readOnce 38 = .ok (.getfield 136, 3) := by decide +kernel
theorem dX7_readOnce_41 : decode cX7_readOnce 41 = .ok (.ifCond .eq 8, 3) := by decide +kernel
theorem dX7_readOnce_44 : decode cX7_readOnce 44 = .ok (.aload_n 0, 1) := by decide +kernel
theorem dX7_readOnce_45 : decode cX7_readOnce 45 = .ok (.iconst 4, 1) := by decide +kernel
theorem dX7_readOnce_46 : decode cX7_readOnce 46 = .ok (.invokevirtual 100, 3) := by decide +kernel
theorem dX7_readOnce_49 : decode cX7_readOnce 49 = .ok (.aload_n 0, 1) := by decide +kernel
theorem dX7_readOnce_50 : decode cX7_readOnce 50 = .ok (.iconst 1, 1) := by decide +kernel
theorem dX7_readOnce_51 : decode cX7_readOnce 51 = .ok (.putfield 136, 3) := by decide +kernel
theorem dX7_readOnce_54 : decode cX7_readOnce 54 = .ok (.aload_n 0, 1) := by decide +kernel
theorem dX7_readOnce_55 : decode cX7_readOnce 55 = .ok (.invokevirtual 104, 3) := by decide +kernel
theorem dX7_readOnce_58 : decode cX7_readOnce 58 = .ok (.aload_n 0, 1) := by decide +kernel
theorem dX7_readOnce_59 : decode cX7_readOnce 59 = .ok (.invokevirtual 116, 3) := by decide +kernel
theorem dX7_readOnce_62 : decode cX7_readOnce 62 = .ok (.bipush 6, 2) := by decide +kernel
theorem dX7_readOnce_64 : decode cX7_readOnce 64 = .ok (.isub, 1) := by decide +kernel
theorem dX7_readOnce_65 : decode cX7_readOnce 65 = .ok (.istore_n 2, 1) := by decide +kernel
theorem dX7_readOnce_66 : decode cX7_readOnce 66 = .ok (.iload_n 2, 1) := by decide +kernel
theorem dX7_readOnce_67 : decode cX7_readOnce 67 = .ok (.i2l, 1) := by decide +kernel
theorem dX7_readOnce_68 : decode cX7_readOnce 68 = .ok (.lconst 0, 1) := by decide +kernel
theorem dX7_readOnce_69 : decode cX7_readOnce 69 = .ok (.ldc2_w 139, 3) := by decide +kernel
theorem dX7_readOnce_72 : decode cX7_readOnce 72 = .ok (.invokestatic 66, 3) := by decide +kernel
theorem dX7_readOnce_75 : decode cX7_readOnce 75 = .ok (.ifCond .ne 9, 3) := by decide +kernel
theorem dX7_readOnce_78 : decode cX7_readOnce 78 = .ok (.aload_n 0, 1) := by decide +kernel
theorem dX7_readOnce_79 : decode cX7_readOnce 79 = .ok (.iconst 2, 1) := by decide +kernel
theorem dX7_readOnce_80 : decode cX7_readOnce 80 = .ok (.invokevirtual 100, 3) := by decide +kernel
theorem dX7_readOnce_83 : decode cX7_readOnce 83 = .ok (.return_, 1) := by decide +kernel
theorem dX7_readOnce_84 : decode cX7_readOnce 84 = .ok (.aload_n 0, 1) := by decide +kernel
theorem dX7_readOnce_85 : decode cX7_readOnce 85 = .ok (.getfield 17, 3) := by decide +kernel
theorem dX7_readOnce_88 : decode cX7_readOnce 88 = .ok (.bipush 91, 2) := by decide +kernel
theorem dX7_readOnce_90 : decode cX7_readOnce 90 = .ok (.iload_n 2, 1) := by decide +kernel
theorem dX7_readOnce_91 : decode cX7_readOnce 91 = .ok (.iastore, 1) := by decide +kernel
theorem dX7_readOnce_92 : decode cX7_readOnce 92 = .ok (.aload_n 0, 1) := by decide +kernel
theorem dX7_readOnce_93 : decode cX7_readOnce 93 = .ok (.invokevirtual 104, 3) := by decide +kernel
theorem dX7_readOnce_96 : decode cX7_readOnce 96 = .ok (.return_, 1) := by decide +kernel
set_option maxRecDepth 20000 in
theorem ggX7_readLine_X7_nameHere : GoodIn wsX7_readLine wsX7_nameHere := goodIn_r _ [8, 3, 9, 10, 11, 12, 13, 14, 15, 7, 16, 17, 18, 72, 73, 74, 75, 76, 77, 78, 79, 80, 81, 82, 83, 84, 85, 86, 87, 88, 89, 90, 91, 92, 93, 94, 95, 96, 97, 98, 99, 100, 101, 102, 103, 104, 105, 106, 107, 108, 109] (by decide +kernel) (by decide +kernel)
set_option maxRecDepth 20000 in
theorem gX7_readLine_X7_nameHere : GoodIn wsX7_readLine (wsV RX7 116 RX7 yX7_nameHere wsX7_nameHere) := goodIn_app (goodIn_of _ (by decide +kernel)) ggX7_readLine_X7_nameHere
set_option maxRecDepth 20000 in
theorem ggX7_readLine_X7_in : GoodIn wsX7_readLine wsX7_in := goodIn_r _ [21] (by decide +kernel) (by decide +kernel)
set_option maxRecDepth 20000 in
theorem gX7_readLine_X7_in : GoodIn wsX7_readLine (va_wsS RX7 66 yX7_in wsX7_in) := goodIn_app (goodIn_of _ (by decide +kernel)) ggX7_readLine_X7_in
set_option maxRecDepth 20000 in
theorem ggX7_readLine_X7_fails : GoodIn wsX7_readLine wsX7_fails := goodIn_r _ [25, 2, 10, 26, 72, 73, 74, 75, 76, 77, 78, 79, 80, 81, 82, 83, 84, 85, 86, 87, 88, 89, 90, 91, 92, 93, 94, 95, 96, 97, 98, 99, 100, 101, 102, 103, 104, 105, 106, 107, 108, 109] (by decide +kernel) (by decide +kernel)
set_option maxRecDepth 20000 in
theorem gX7_readLine_X7_fails : GoodIn wsX7_readLine (wsV RX7 100 RX7 yX7_fails wsX7_fails) := goodIn_app (goodIn_of _ (by decide +kernel)) ggX7_readLine_X7_fails
set_option maxRecDepth 20000 in
theorem ggX7_readLine_X7_readOne : GoodIn wsX7_readLine wsX7_readOne := goodIn_r _ [30, 31, 2, 3, 22, 23, 24, 7, 25, 10, 26, 32, 33, 34, 35, 9, 36, 37, 38, 39, 40, 13, 14, 15, 16, 17, 18, 19, 20, 21, 4, 5, 6, 8, 11, 12, 41, 42, 43, 44, 45, 46, 47, 48, 49, 50, 51, 52, 53, 54, 72, 73, 74, 75, 76, 77, 78, 79, 80, 81, 82, 83, 84, 85, 86, 87, 88, 89, 90, 91, 92, 93, 94, 95, 96, 97, 98, 99, 100, 101, 102, 103, 104, 105, 106, 107, 108, 109] (by decide +kernel) (by decide +kernel)
set_option maxRecDepth 20000 in
theorem gX7_readLine_X7_readOne : GoodIn wsX7_readLine (wsV RX7 143 RX7 yX7_readOne wsX7_readOne) := goodIn_app (goodIn_of _ (by decide +kernel)) ggX7_readLine_X7_readOne
set_option maxRecDepth 20000 in
theorem ggX7_readLine_X7_readMove : GoodIn wsX7_readLine wsX7_readMove := goodIn_r _ [58, 31, 59, 22, 23, 24, 7, 25, 2, 10, 26, 32, 33, 34, 35, 9, 36, 3, 37, 38, 39, 40, 13, 14, 15, 16, 17, 18, 19, 20, 21, 41, 42, 43, 44, 45, 46, 47, 48, 49, 50, 51, 52, 53, 54, 72, 73, 74, 75, 76, 77, 78, 79, 80, 81, 82, 83, 84, 85, 86, 87, 88, 89, 90, 91, 92, 93, 94, 95, 96, 97, 98, 99, 100, 101, 102, 103, 104, 105, 106, 107, 108, 109] (by decide +kernel) (by decide +kernel)
set_option maxRecDepth 20000 in
theorem gX7_readLine_X7_readMove : GoodIn wsX7_readLine (wsV RX7 146 RX7 yX7_readMove wsX7_readMove) := goodIn_app (goodIn_of _ (by decide +kernel)) ggX7_readLine_X7_readMove
set_option maxRecDepth 20000 in
theorem ggX7_readLine_X7_readExpect : GoodIn wsX7_readLine wsX7_readExpect := goodIn_r _ [63, 31, 22, 23, 24, 7, 25, 2, 10, 26, 32, 33, 34, 35, 9, 36, 3, 37, 38, 39, 40, 13, 14, 15, 16, 17, 18, 19, 20, 21, 50, 51, 52, 53, 54, 46, 47, 48, 49, 41, 42, 43, 44, 45, 72, 73, 74, 75, 76, 77, 78, 79, 80, 81, 82, 83, 84, 85, 86, 87, 88, 89, 90, 91, 92, 93, 94, 95, 96, 97, 98, 99, 100, 101, 102, 103, 104, 105, 106, 107, 108, 109] (by decide +kernel) (by decide +kernel)
set_option maxRecDepth 20000 in
theorem gX7_readLine_X7_readExpect : GoodIn wsX7_readLine (wsV RX7 149 RX7 yX7_readExpect wsX7_readExpect) := goodIn_app (goodIn_of _ (by decide +kernel)) ggX7_readLine_X7_readExpect
set_option maxRecDepth 20000 in
theorem ggX7_readLine_X7_readOnce : GoodIn wsX7_readLine wsX7_readOnce := goodIn_r _ [67, 68, 69, 70, 71, 31, 22, 23, 24, 7, 25, 2, 10, 26, 32, 33, 34, 35, 9, 36, 3, 37, 38, 39, 40, 13, 14, 15, 16, 17, 18, 19, 20, 21, 46, 47, 48, 49, 4, 5, 6, 8, 11, 12, 72, 73, 74, 75, 76, 77, 78, 79, 80, 81, 82, 83, 84, 85, 86, 87, 88, 89, 90, 91, 92, 93, 94, 95, 96, 97, 98, 99, 100, 101, 102, 103, 104, 105, 106, 107, 108, 109] (by decide +kernel) (by decide +kernel)
set_option maxRecDepth 20000 in
theorem gX7_readLine_X7_readOnce : GoodIn wsX7_readLine (wsV RX7 152 RX7 yX7_readOnce wsX7_readOnce) := goodIn_app (goodIn_of _ (by decide +kernel)) ggX7_readLine_X7_readOnce
set_option maxRecDepth 20000 in
theorem ggX7_readLine_X7_step : GoodIn wsX7_readLine wsX7_step := goodIn_r _ [35, 2, 9, 10, 36, 3, 37, 38, 39, 40, 13, 14, 15, 7, 16, 17, 18, 19, 20, 21, 22, 23, 24, 25, 26, 72, 73, 74, 75, 76, 77, 78, 79, 80, 81, 82, 83, 84, 85, 86, 87, 88, 89, 90, 91, 92, 93, 94, 95, 96, 97, 98, 99, 100, 101, 102, 103, 104, 105, 106, 107, 108, 109] (by decide +kernel) (by decide +kernel)
set_option maxRecDepth 20000 in
theorem gX7_readLine_X7_step : GoodIn wsX7_readLine (wsV RX7 104 RX7 yX7_step wsX7_step) := goodIn_app (goodIn_of _ (by decide +kernel)) ggX7_readLine_X7_step
theorem dX7_readLine_0 : decode cX7_readLine 0 = .ok (.aload_n 0, 1) := by decide +kernel
theorem dX7_readLine_1 : decode cX7_readLine 1 = .ok (.invokevirtual 116, 3) := by decide +kernel
theorem dX7_readLine_4 : decode cX7_readLine 4 = .ok (.istore_n 1, 1) := by decide +kernel
theorem dX7_readLine_5 : decode cX7_readLine 5 = .ok (.iload_n 1, 1) := by decide +kernel
theorem dX7_readLine_6 : decode cX7_readLine 6 = .ok (.i2l, 1) := by decide +kernel
theorem dX7_readLine_7 : decode cX7_readLine 7 = .ok (.lconst 0, 1) := by decide +kernel
theorem dX7_readLine_8 : decode cX7_readLine 8 = .ok (.ldc2_w 141, 3) := by decide +kernel
theorem dX7_readLine_11 : decode cX7_readLine 11 = .ok (.invokestatic 66, 3) := by decide +kernel
theorem dX7_readLine_14 : decode cX7_readLine 14 = .ok (.ifCond .ne 9, 3) := by decide +kernel
theorem dX7_readLine_17 : decode cX7_readLine 17 = .ok (.aload_n 0, 1) := by decide +kernel
theorem dX7_readLine_18 : decode cX7_readLine 18 = .ok (.iconst 2, 1) := by decide +kernel
theorem dX7_readLine_19 : decode cX7_readLine 19 = .ok (.invokevirtual 100, 3) := by decide +kernel
theorem dX7_readLine_22 : decode cX7_readLine 22 = .ok (.return_, 1) := by decide +kernel
theorem dX7_readLine_23 : decode cX7_readLine 23 = .ok (.iload_n 1, 1) := by decide +kernel
theorem dX7_readLine_24 : decode cX7_readLine 24 = .ok (.iconst 2, 1) := by decide +kernel
