theorem dX12_init_0 : decode cX12_init 0 = .ok (.aload_n 0, 1) := by decide +kernel
theorem dX12_init_1 : decode cX12_init 1 = .ok (.invokespecial 1, 3) := by decide +kernel
theorem dX12_init_4 : decode cX12_init 4 = .ok (.aload_n 0, 1) := by decide +kernel
theorem dX12_init_5 : decode cX12_init 5 = .ok (.sipush 200, 3) := by decide +kernel
theorem dX12_init_8 : decode cX12_init 8 = .ok (.newarray .int, 2) := by decide +kernel
theorem dX12_init_10 : decode cX12_init 10 = .ok (.putfield 7, 3) := by decide +kernel
theorem dX12_init_13 : decode cX12_init 13 = .ok (.aload_n 0, 1) := by decide +kernel
theorem dX12_init_14 : decode cX12_init 14 = .ok (.sipush 200, 3) := by decide +kernel
theorem dX12_init_17 : decode cX12_init 17 = .ok (.newarray .int, 2) := by decide +kernel
theorem dX12_init_19 : decode cX12_init 19 = .ok (.putfield 13, 3) := by decide +kernel
theorem dX12_init_22 : decode cX12_init 22 = .ok (.aload_n 0, 1) := by decide +kernel
theorem dX12_init_23 : decode cX12_init 23 = .ok (.sipush 200, 3) := by decide +kernel
theorem dX12_init_26 : decode cX12_init 26 = .ok (.newarray .int, 2) := by decide +kernel
theorem dX12_init_28 : decode cX12_init 28 = .ok (.putfield 16, 3) := by decide +kernel
theorem dX12_init_31 : decode cX12_init 31 = .ok (.aload_n 0, 1) := by decide +kernel
theorem dX12_init_32 : decode cX12_init 32 = .ok (.sipush 200, 3) := by decide +kernel
theorem dX12_init_35 : decode cX12_init 35 = .ok (.newarray .int, 2) := by decide +kernel
theorem dX12_init_37 : decode cX12_init 37 = .ok (.putfield 19, 3) := by decide +kernel
theorem dX12_init_40 : decode cX12_init 40 = .ok (.aload_n 0, 1) := by decide +kernel
theorem dX12_init_41 : decode cX12_init 41 = .ok (.sipush 200, 3) := by decide +kernel
theorem dX12_init_44 : decode cX12_init 44 = .ok (.newarray .int, 2) := by decide +kernel
theorem dX12_init_46 : decode cX12_init 46 = .ok (.putfield 22, 3) := by decide +kernel
theorem dX12_init_49 : decode cX12_init 49 = .ok (.aload_n 0, 1) := by decide +kernel
theorem dX12_init_50 : decode cX12_init 50 = .ok (.sipush 999, 3) := by decide +kernel
theorem dX12_init_53 : decode cX12_init 53 = .ok (.putfield 25, 3) := by decide +kernel
theorem dX12_init_56 : decode cX12_init 56 = .ok (.aload_n 0, 1) := by decide +kernel
theorem dX12_init_57 : decode cX12_init 57 = .ok (.sipush 999, 3) := by decide +kernel
theorem dX12_init_60 : decode cX12_init 60 = .ok (.putfield 29, 3) := by decide +kernel
theorem dX12_init_63 : decode cX12_init 63 = .ok (.aload_n 0, 1) := by decide +kernel
theorem dX12_init_64 : decode cX12_init 64 = .ok (.bipush 60, 2) := by decide +kernel
theorem dX12_init_66 : decode cX12_init 66 = .ok (.newarray .int, 2) := by decide +kernel
theorem dX12_init_68 : decode cX12_init 68 = .ok (.putfield 32, 3) := by decide +kernel
theorem dX12_init_71 : decode cX12_init 71 = .ok (.aload_n 0, 1) := by decide +kernel
theorem dX12_init_72 : decode cX12_init 72 = .ok (.bipush 10, 2) := by decide +kernel
theorem dX12_init_74 : decode cX12_init 74 = .ok (.newarray .boolean, 2) := by decide +kernel
theorem dX12_init_76 : decode cX12_init 76 = .ok (.putfield 35, 3) := by decide +kernel
theorem dX12_init_79 : decode cX12_init 79 = .ok (.aload_n 0, 1) := by decide +kernel
theorem dX12_init_80 : decode cX12_init 80 = .ok (.bipush 10, 2) := by decide +kernel
theorem dX12_init_82 : decode cX12_init 82 = .ok (.newarray .int, 2) := by decide +kernel
theorem dX12_init_84 : decode cX12_init 84 = .ok (.putfield 39, 3) := by decide +kernel
theorem dX12_init_87 : decode cX12_init 87 = .ok (.aload_n 0, 1) := by decide +kernel
theorem dX12_init_88 : decode cX12_init 88 = .ok (.bipush 10, 2) := by decide +kernel
theorem dX12_init_90 : decode cX12_init 90 = .ok (.newarray .int, 2) := by decide +kernel
theorem dX12_init_92 : decode cX12_init 92 = .ok (.putfield 42, 3) := by decide +kernel
theorem dX12_init_95 : decode cX12_init 95 = .ok (.aload_n 0, 1) := by decide +kernel
theorem dX12_init_96 : decode cX12_init 96 = .ok (.sipush 400, 3) := by decide +kernel
theorem dX12_init_99 : decode cX12_init 99 = .ok (.newarray .int, 2) := by decide +kernel
theorem dX12_init_101 : decode cX12_init 101 = .ok (.putfield 45, 3) := by decide +kernel
theorem dX12_init_104 : decode cX12_init 104 = .ok (.aload_n 0, 1) := by decide +kernel
theorem dX12_init_105 : decode cX12_init 105 = .ok (.bipush 44, 2) := by decide +kernel
theorem dX12_init_107 : decode cX12_init 107 = .ok (.newarray .int, 2) := by decide +kernel
theorem dX12_init_109 : decode cX12_init 109 = .ok (.dup, 1) := by decide +kernel
theorem dX12_init_110 : decode cX12_init 110 = .ok (.iconst 0, 1) := by decide +kernel
theorem dX12_init_111 : decode cX12_init 111 = .ok (.bipush 32, 2) := by decide +kernel
theorem dX12_init_113 : decode cX12_init 113 = .ok (.iastore, 1) := by decide +kernel
theorem dX12_init_114 : decode cX12_init 114 = .ok (.dup, 1) := by decide +kernel
theorem dX12_init_115 : decode cX12_init 115 = .ok (.iconst 1, 1) := by decide +kernel
theorem dX12_init_116 : decode cX12_init 116 = .ok (.bipush 104, 2) := by decide +kernel
theorem dX12_init_118 : decode cX12_init 118 = .ok (.iastore, 1) := by decide +kernel
theorem dX12_init_119 : decode cX12_init 119 = .ok (.dup, 1) := by decide +kernel
theorem dX12_init_120 : decode cX12_init 120 = .ok (.iconst 2, 1) := by decide +kernel
theorem dX12_init_121 : decode cX12_init 121 = .ok (.bipush 101, 2) := by decide +kernel
theorem dX12_init_123 : decode cX12_init 123 = .ok (.iastore, 1) := by decide +kernel
theorem dX12_init_124 : decode cX12_init 124 = .ok (.dup, 1) := by decide +kernel
theorem dX12_init_125 : decode cX12_init 125 = .ok (.iconst 3, 1) := by decide +kernel
theorem dX12_init_126 : decode cX12_init 126 = .ok (.bipush 97, 2) := by decide +kernel
theorem dX12_init_128 : decode cX12_init 128 = .ok (.iastore, 1) := by decide +kernel
theorem dX12_init_129 : decode cX12_init 129 = .ok (.dup, 1) := by decide +kernel
theorem dX12_init_130 : decode cX12_init 130 = .ok (.iconst 4, 1) := by decide +kernel
theorem dX12_init_131 : decode cX12_init 131 = .ok (.bipush 100, 2) := by decide +kernel
theorem dX12_init_133 : decode cX12_init 133 = .ok (.iastore, 1) := by decide +kernel
theorem dX12_init_134 : decode cX12_init 134 = .ok (.dup, 1) := by decide +kernel
theorem dX12_init_135 : decode cX12_init 135 = .ok (.iconst 5, 1) := by decide +kernel
theorem dX12_init_136 : decode cX12_init 136 = .ok (.bipush 115, 2) := by decide +kernel
theorem dX12_init_138 : decode cX12_init 138 = .ok (.iastore, 1) := by decide +kernel
theorem dX12_init_139 : decode cX12_init 139 = .ok (.dup, 1) := by decide +kernel
theorem dX12_init_140 : decode cX12_init 140 = .ok (.bipush 6, 2) := by decide +kernel
theorem dX12_init_142 : decode cX12_init 142 = .ok (.bipush 32, 2) := by decide +kernel
theorem dX12_init_144 : decode cX12_init 144 = .ok (.iastore, 1) := by decide +kernel
theorem dX12_init_145 : decode cX12_init 145 = .ok (.dup, 1) := by decide +kernel
theorem dX12_init_146 : decode cX12_init 146 = .ok (.bipush 7, 2) := by decide +kernel
theorem dX12_init_148 : decode cX12_init 148 = .ok (.bipush 119, 2) := by decide +kernel
theorem dX12_init_150 : decode cX12_init 150 = .ok (.iastore, 1) := by decide +kernel
theorem dX12_init_151 : decode cX12_init 151 = .ok (.dup, 1) := by decide +kernel
theorem dX12_init_152 : decode cX12_init 152 = .ok (.bipush 8, 2) := by decide +kernel
theorem dX12_init_154 : decode cX12_init 154 = .ok (.bipush 101, 2) := by decide +kernel
theorem dX12_init_156 : decode cX12_init 156 = .ok (.iastore, 1) := by decide +kernel
theorem dX12_init_157 : decode cX12_init 157 = .ok (.dup, 1) := by decide +kernel
theorem dX12_init_158 : decode cX12_init 158 = .ok (.bipush 9, 2) := by decide +kernel
theorem dX12_init_160 : decode cX12_init 160 = .ok (.bipush 105, 2) := by decide +kernel
theorem dX12_init_162 : decode cX12_init 162 = .ok (.iastore, 1) := by decide +kernel
theorem dX12_init_163 : decode cX12_init 163 = .ok (.dup, 1) := by decide +kernel
theorem dX12_init_164 : decode cX12_init 164 = .ok (.bipush 10, 2) := by decide +kernel
theorem dX12_init_166 : decode cX12_init 166 = .ok (.bipush 103, 2) := by decide +kernel
theorem dX12_init_168 : decode cX12_init 168 = .ok (.iastore, 1) := by decide +kernel
theorem dX12_init_169 : decode cX12_init 169 = .ok (.dup, 1) := by decide +kernel
theorem dX12_init_170 : decode cX12_init 170 = .ok (.bipush 11, 2) := by decide +kernel
theorem dX12_init_172 : decode cX12_init 172 = .ok (.bipush 104, 2) := by decide +kernel
theorem dX12_init_174 : decode cX12_init 174 = .ok (.iastore, 1) := by decide +kernel
theorem dX12_init_175 : decode cX12_init 175 = .ok (.dup, 1) := by decide +kernel
theorem dX12_init_176 : decode cX12_init 176 = .ok (.bipush 12, 2) := by decide +kernel
theorem dX12_init_178 : decode cX12_init 178 = .ok (.bipush 116, 2) := by decide +kernel
theorem dX12_init_180 : decode cX12_init 180 = .ok (.iastore, 1) := by decide +kernel
theorem dX12_init_181 : decode cX12_init 181 = .ok (.dup, 1) := by decide +kernel
theorem dX12_init_182 : decode cX12_init 182 = .ok (.bipush 13, 2) := by decide +kernel
theorem dX12_init_184 : decode cX12_init 184 = .ok (.bipush 32, 2) := by decide +kernel
theorem dX12_init_186 : decode cX12_init 186 = .ok (.iastore, 1) := by decide +kernel
theorem dX12_init_187 : decode cX12_init 187 = .ok (.dup, 1) := by decide +kernel
theorem dX12_init_188 : decode cX12_init 188 = .ok (.bipush 14, 2) := by decide +kernel
theorem dX12_init_190 : decode cX12_init 190 = .ok (.bipush 109, 2) := by decide +kernel
theorem dX12_init_192 : decode cX12_init 192 = .ok (.iastore, 1) := by decide +kernel
theorem dX12_init_193 : decode cX12_init 193 = .ok (.dup, 1) := by decide +kernel
theorem dX12_init_194 : decode cX12_init 194 = .ok (.bipush 15, 2) := by decide +kernel
theorem dX12_init_196 : decode cX12_init 196 = .ok (.bipush 101, 2) := by decide +kernel
theorem dX12_init_198 : decode cX12_init 198 = .ok (.iastore, 1) := by decide +kernel
theorem dX12_init_199 : decode cX12_init 199 = .ok (.dup, 1) := by decide +kernel
theorem dX12_init_200 : decode cX12_init 200 = .ok (.bipush 16, 2) := by decide +kernel
theorem dX12_init_202 : decode cX12_init 202 = .ok (.bipush 109, 2) := by decide +kernel
theorem dX12_init_204 : decode cX12_init 204 = .ok (.iastore, 1) := by decide +kernel
theorem dX12_init_205 : decode cX12_init 205 = .ok (.dup, 1) := by decide +kernel
theorem dX12_init_206 : decode cX12_init 206 = .ok (.bipush 17, 2) := by decide +kernel
theorem dX12_init_208 : decode cX12_init 208 = .ok (.bipush 98, 2) := by decide +kernel
theorem dX12_init_210 : decode cX12_init 210 = .ok (.iastore, 1) := by decide +kernel
theorem dX12_init_211 : decode cX12_init 211 = .ok (.dup, 1) := by decide +kernel
theorem dX12_init_212 : decode cX12_init 212 = .ok (.bipush 18, 2) := by decide +kernel
theorem dX12_init_214 : decode cX12_init 214 = .ok (.bipush 101, 2) := by decide +kernel
theorem dX12_init_216 : decode cX12_init 216 = .ok (.iastore, 1) := by decide +kernel
theorem dX12_init_217 : decode cX12_init 217 = .ok (.dup, 1) := by decide +kernel
theorem dX12_init_218 : decode cX12_init 218 = .ok (.bipush 19, 2) := by decide +kernel
theorem dX12_init_220 : decode cX12_init 220 = .ok (.bipush 114, 2) := by decide +kernel
theorem dX12_init_222 : decode cX12_init 222 = .ok (.iastore, 1) := by decide +kernel
theorem dX12_init_223 : decode cX12_init 223 = .ok (.dup, 1) := by decide +kernel
theorem dX12_init_224 : decode cX12_init 224 = .ok (.bipush 20, 2) := by decide +kernel
theorem dX12_init_226 : decode cX12_init 226 = .ok (.bipush 115, 2) := by decide +kernel
theorem dX12_init_228 : decode cX12_init 228 = .ok (.iastore, 1) := by decide +kernel
theorem dX12_init_229 : decode cX12_init 229 = .ok (.dup, 1) := by decide +kernel
theorem dX12_init_230 : decode cX12_init 230 = .ok (.bipush 21, 2) := by decide +kernel
theorem dX12_init_232 : decode cX12_init 232 = .ok (.bipush 32, 2) := by decide +kernel
theorem dX12_init_234 : decode cX12_init 234 = .ok (.iastore, 1) := by decide +kernel
theorem dX12_init_235 : decode cX12_init 235 = .ok (.dup, 1) := by decide +kernel
theorem dX12_init_236 : decode cX12_init 236 = .ok (.bipush 22, 2) := by decide +kernel
theorem dX12_init_238 : decode cX12_init 238 = .ok (.bipush 97, 2) := by decide +kernel
theorem dX12_init_240 : decode cX12_init 240 = .ok (.iastore, 1) := by decide +kernel
theorem dX12_init_241 : decode cX12_init 241 = .ok (.dup, 1) := by decide +kernel
theorem dX12_init_242 : decode cX12_init 242 = .ok (.bipush 23, 2) := by decide +kernel
theorem dX12_init_244 : decode cX12_init 244 = .ok (.bipush 108, 2) := by decide +kernel
theorem dX12_init_246 : decode cX12_init 246 = .ok (.iastore, 1) := by decide +kernel
theorem dX12_init_247 : decode cX12_init 247 = .ok (.dup, 1) := by decide +kernel
theorem dX12_init_248 : decode cX12_init 248 = .ok (.bipush 24, 2) := by decide +kernel
theorem dX12_init_250 : decode cX12_init 250 = .ok (.bipush 108, 2) := by decide +kernel
theorem dX12_init_252 : decode cX12_init 252 = .ok (.iastore, 1) := by decide +kernel
theorem dX12_init_253 : decode cX12_init 253 = .ok (.dup, 1) := by decide +kernel
theorem dX12_init_254 : decode cX12_init 254 = .ok (.bipush 25, 2) := by decide +kernel
theorem dX12_init_256 : decode cX12_init 256 = .ok (.bipush 32, 2) := by decide +kernel
theorem dX12_init_258 : decode cX12_init 258 = .ok (.iastore, 1) := by decide +kernel
theorem dX12_init_259 : decode cX12_init 259 = .ok (.dup, 1) := by decide +kernel
theorem dX12_init_260 : decode cX12_init 260 = .ok (.bipush 26, 2) := by decide +kernel
theorem dX12_init_262 : decode cX12_init 262 = .ok (.bipush 111, 2) := by decide +kernel
theorem dX12_init_264 : decode cX12_init 264 = .ok (.iastore, 1) := by decide +kernel
theorem dX12_init_265 : decode cX12_init 265 = .ok (.dup, 1) := by decide +kernel
theorem dX12_init_266 : decode cX12_init 266 = .ok (.bipush 27, 2) := by decide +kernel
theorem dX12_init_268 : decode cX12_init 268 = .ok (.bipush 102, 2) := by decide +kernel
theorem dX12_init_270 : decode cX12_init 270 = .ok (.iastore, 1) := by decide +kernel
theorem dX12_init_271 : decode cX12_init 271 = .ok (.dup, 1) := by decide +kernel
theorem dX12_init_272 : decode cX12_init 272 = .ok (.bipush 28, 2) := by decide +kernel
theorem dX12_init_274 : decode cX12_init 274 = .ok (.bipush 32, 2) := by decide +kernel
theorem dX12_init_276 : decode cX12_init 276 = .ok (.iastore, 1) := by decide +kernel
theorem dX12_init_277 : decode cX12_init 277 = .ok (.dup, 1) := by decide +kernel
theorem dX12_init_278 : decode cX12_init 278 = .ok (.bipush 29, 2) := by decide +kernel
theorem dX12_init_280 : decode cX12_init 280 = .ok (.bipush 104, 2) := by decide +kernel
theorem dX12_init_282 : decode cX12_init 282 = .ok (.iastore, 1) := by decide +kernel
theorem dX12_init_283 : decode cX12_init 283 = .ok (.dup, 1) := by decide +kernel
theorem dX12_init_284 : decode cX12_init 284 = .ok (.bipush 30, 2) := by decide +kernel
theorem dX12_init_286 : decode cX12_init 286 = .ok (.bipush 97, 2) := by decide +kernel
theorem dX12_init_288 : decode cX12_init 288 = .ok (.iastore, 1) := by decide +kernel
theorem dX12_init_289 : decode cX12_init 289 = .ok (.dup, 1) := by decide +kernel
theorem dX12_init_290 : decode cX12_init 290 = .ok (.bipush 31, 2) := by decide +kernel
theorem dX12_init_292 : decode cX12_init 292 = .ok (.bipush 115, 2) := by decide +kernel
theorem dX12_init_294 : decode cX12_init 294 = .ok (.iastore, 1) := by decide +kernel
theorem dX12_init_295 : decode cX12_init 295 = .ok (.dup, 1) := by decide +kernel
theorem dX12_init_296 : decode cX12_init 296 = .ok (.bipush 32, 2) := by decide +kernel
theorem dX12_init_298 : decode cX12_init 298 = .ok (.bipush 32, 2) := by decide +kernel
theorem dX12_init_300 : decode cX12_init 300 = .ok (.iastore, 1) := by decide +kernel
theorem dX12_init_301 : decode cX12_init 301 = .ok (.dup, 1) := by decide +kernel
theorem dX12_init_302 : decode cX12_init 302 = .ok (.bipush 33, 2) := by decide +kernel
theorem dX12_init_304 : decode cX12_init 304 = .ok (.bipush 111, 2) := by decide +kernel
theorem dX12_init_306 : decode cX12_init 306 = .ok (.iastore, 1) := by decide +kernel
theorem dX12_init_307 : decode cX12_init 307 = .ok (.dup, 1) := by decide +kernel
theorem dX12_init_308 : decode cX12_init 308 = .ok (.bipush 34, 2) := by decide +kernel
theorem dX12_init_310 : decode cX12_init 310 = .ok (.bipush 114, 2) := by decide +kernel
theorem dX12_init_312 : decode cX12_init 312 = .ok (.iastore, 1) := by decide +kernel
theorem dX12_init_313 : decode cX12_init 313 = .ok (.dup, 1) := by decide +kernel
theorem dX12_init_314 : decode cX12_init 314 = .ok (.bipush 35, 2) := by decide +kernel
theorem dX12_init_316 : decode cX12_init 316 = .ok (.bipush 32, 2) := by decide +kernel
theorem dX12_init_318 : decode cX12_init 318 = .ok (.iastore, 1) := by decide +kernel
theorem dX12_init_319 : decode cX12_init 319 = .ok (.dup, 1) := by decide +kernel
theorem dX12_init_320 : decode cX12_init 320 = .ok (.bipush 36, 2) := by decide +kernel
theorem dX12_init_322 : decode cX12_init 322 = .ok (.bipush 97, 2) := by decide +kernel
theorem dX12_init_324 : decode cX12_init 324 = .ok (.iastore, 1) := by decide +kernel
theorem dX12_init_325 : decode cX12_init 325 = .ok (.dup, 1) := by decide +kernel
theorem dX12_init_326 : decode cX12_init 326 = .ok (.bipush 37, 2) := by decide +kernel
theorem dX12_init_328 : decode cX12_init 328 = .ok (.bipush 110, 2) := by decide +kernel
theorem dX12_init_330 : decode cX12_init 330 = .ok (.iastore, 1) := by decide +kernel
theorem dX12_init_331 : decode cX12_init 331 = .ok (.dup, 1) := by decide +kernel
theorem dX12_init_332 : decode cX12_init 332 = .ok (.bipush 38, 2) := by decide +kernel
theorem dX12_init_334 : decode cX12_init 334 = .ok (.bipush 100, 2) := by decide +kernel
theorem dX12_init_336 : decode cX12_init 336 = .ok (.iastore, 1) := by decide +kernel
theorem dX12_init_337 : decode cX12_init 337 = .ok (.dup, 1) := by decide +kernel
theorem dX12_init_338 : decode cX12_init 338 = .ok (.bipush 39, 2) := by decide +kernel
theorem dX12_init_340 : decode cX12_init 340 = .ok (.bipush 32, 2) := by decide +kernel
theorem dX12_init_342 : decode cX12_init 342 = .ok (.iastore, 1) := by decide +kernel
theorem dX12_init_343 : decode cX12_init 343 = .ok (.dup, 1) := by decide +kernel
theorem dX12_init_344 : decode cX12_init 344 = .ok (.bipush 40, 2) := by decide +kernel
theorem dX12_init_346 : decode cX12_init 346 = .ok (.bipush 110, 2) := by decide +kernel
theorem dX12_init_348 : decode cX12_init 348 = .ok (.iastore, 1) := by decide +kernel
theorem dX12_init_349 : decode cX12_init 349 = .ok (.dup, 1) := by decide +kernel
theorem dX12_init_350 : decode cX12_init 350 = .ok (.bipush 41, 2) := by decide +kernel
theorem dX12_init_352 : decode cX12_init 352 = .ok (.bipush 111, 2) := by decide +kernel
theorem dX12_init_354 : decode cX12_init 354 = .ok (.iastore, 1) := by decide +kernel
theorem dX12_init_355 : decode cX12_init 355 = .ok (.dup, 1) := by decide +kernel
theorem dX12_init_356 : decode cX12_init 356 = .ok (.bipush 42, 2) := by decide +kernel
theorem dX12_init_358 : decode cX12_init 358 = .ok (.bipush 116, 2) := by decide +kernel
theorem dX12_init_360 : decode cX12_init 360 = .ok (.iastore, 1) := by decide +kernel
theorem dX12_init_361 : decode cX12_init 361 = .ok (.dup, 1) := by decide +kernel
theorem dX12_init_362 : decode cX12_init 362 = .ok (.bipush 43, 2) := by decide +kernel
theorem dX12_init_364 : decode cX12_init 364 = .ok (.bipush 32, 2) := by decide +kernel
theorem dX12_init_366 : decode cX12_init 366 = .ok (.iastore, 1) := by decide +kernel
theorem dX12_init_367 : decode cX12_init 367 = .ok (.putfield 48, 3) := by decide +kernel
theorem dX12_init_370 : decode cX12_init 370 = .ok (.aload_n 0, 1) := by decide +kernel
theorem dX12_init_371 : decode cX12_init 371 = .ok (.iconst 5, 1) := by decide +kernel
theorem dX12_init_372 : decode cX12_init 372 = .ok (.newarray .int, 2) := by decide +kernel
theorem dX12_init_374 : decode cX12_init 374 = .ok (.putfield 51, 3) := by decide +kernel
theorem dX12_init_377 : decode cX12_init 377 = .ok (.aload_n 0, 1) := by decide +kernel
theorem dX12_init_378 : decode cX12_init 378 = .ok (.sipush 2500, 3) := by decide +kernel
theorem dX12_init_381 : decode cX12_init 381 = .ok (.newarray .int, 2) := by decide +kernel
theorem dX12_init_383 : decode cX12_init 383 = .ok (.putfield 54, 3) := by decide +kernel
theorem dX12_init_386 : decode cX12_init 386 = .ok (.aload_n 0, 1) := by decide +kernel
theorem dX12_init_387 : decode cX12_init 387 = .ok (.sipush 2500, 3) := by decide +kernel
theorem dX12_init_390 : decode cX12_init 390 = .ok (.newarray .int, 2) := by decide +kernel
theorem dX12_init_392 : decode cX12_init 392 = .ok (.putfield 57, 3) := by decide +kernel
theorem dX12_init_395 : decode cX12_init 395 = .ok (.aload_n 0, 1) := by decide +kernel
theorem dX12_init_396 : decode cX12_init 396 = .ok (.bipush 40, 2) := by decide +kernel
theorem dX12_init_398 : decode cX12_init 398 = .ok (.newarray .int, 2) := by decide +kernel
theorem dX12_init_400 : decode cX12_init 400 = .ok (.putfield 60, 3) := by decide +kernel
theorem dX12_init_403 : decode cX12_init 403 = .ok (.aload_n 0, 1) := by decide +kernel
theorem dX12_init_404 : decode cX12_init 404 = .ok (.iconst (-1), 1) := by decide +kernel
theorem dX12_init_405 : decode cX12_init 405 = .ok (.putfield 63, 3) := by decide +kernel
theorem dX12_init_408 : decode cX12_init 408 = .ok (.aload_n 0, 1) := by decide +kernel
theorem dX12_init_409 : decode cX12_init 409 = .ok (.bipush 60, 2) := by decide +kernel
theorem dX12_init_411 : decode cX12_init 411 = .ok (.newarray .int, 2) := by decide +kernel
theorem dX12_init_413 : decode cX12_init 413 = .ok (.putfield 66, 3) := by decide +kernel
theorem dX12_init_416 : decode cX12_init 416 = .ok (.aload_n 0, 1) := by decide +kernel
theorem dX12_init_417 : decode cX12_init 417 = .ok (.sipush 1024, 3) := by decide +kernel
theorem dX12_init_420 : decode cX12_init 420 = .ok (.newarray .boolean, 2) := by decide +kernel
theorem dX12_init_422 : decode cX12_init 422 = .ok (.putfield 69, 3) := by decide +kernel
theorem dX12_init_425 : decode cX12_init 425 = .ok (.aload_n 0, 1) := by decide +kernel
theorem dX12_init_426 : decode cX12_init 426 = .ok (.ldc 72, 2) := by decide +kernel
theorem dX12_init_428 : decode cX12_init 428 = .ok (.newarray .int, 2) := by decide +kernel
theorem dX12_init_430 : decode cX12_init 430 = .ok (.putfield 73, 3) := by decide +kernel
theorem dX12_init_433 : decode cX12_init 433 = .ok (.aload_n 0, 1) := by decide +kernel
theorem dX12_init_434 : decode cX12_init 434 = .ok (.sipush 1024, 3) := by decide +kernel
theorem dX12_init_437 : decode cX12_init 437 = .ok (.newarray .int, 2) := by decide +kernel
theorem dX12_init_439 : decode cX12_init 439 = .ok (.putfield 76, 3) := by decide +kernel
theorem dX12_init_442 : decode cX12_init 442 = .ok (.aload_n 0, 1) := by decide +kernel
theorem dX12_init_443 : decode cX12_init 443 = .ok (.bipush 36, 2) := by decide +kernel
theorem dX12_init_445 : decode cX12_init 445 = .ok (.newarray .boolean, 2) := by decide +kernel
theorem dX12_init_447 : decode cX12_init 447 = .ok (.putfield 79, 3) := by decide +kernel
theorem dX12_init_450 : decode cX12_init 450 = .ok (.aload_n 0, 1) := by decide +kernel
theorem dX12_init_451 : decode cX12_init 451 = .ok (.bipush 6, 2) := by decide +kernel
theorem dX12_init_453 : decode cX12_init 453 = .ok (.newarray .int, 2) := by decide +kernel
theorem dX12_init_455 : decode cX12_init 455 = .ok (.putfield 82, 3) := by decide +kernel
theorem dX12_init_458 : decode cX12_init 458 = .ok (.aload_n 0, 1) := by decide +kernel
theorem dX12_init_459 : decode cX12_init 459 = .ok (.bipush 42, 2) := by decide +kernel
theorem dX12_init_461 : decode cX12_init 461 = .ok (.newarray .int, 2) := by decide +kernel
theorem dX12_init_463 : decode cX12_init 463 = .ok (.putfield 85, 3) := by decide +kernel
theorem dX12_init_466 : decode cX12_init 466 = .ok (.aload_n 0, 1) := by decide +kernel
theorem dX12_init_467 : decode cX12_init 467 = .ok (.bipush 6, 2) := by decide +kernel
theorem dX12_init_469 : decode cX12_init 469 = .ok (.newarray .int, 2) := by decide +kernel
theorem dX12_init_471 : decode cX12_init 471 = .ok (.putfield 88, 3) := by decide +kernel
theorem dX12_init_474 : decode cX12_init 474 = .ok (.aload_n 0, 1) := by decide +kernel
theorem dX12_init_475 : decode cX12_init 475 = .ok (.bipush 6, 2) := by decide +kernel
theorem dX12_init_477 : decode cX12_init 477 = .ok (.newarray .int, 2) := by decide +kernel
theorem dX12_init_479 : decode cX12_init 479 = .ok (.putfield 91, 3) := by decide +kernel
theorem dX12_init_482 : decode cX12_init 482 = .ok (.aload_n 0, 1) := by decide +kernel
theorem dX12_init_483 : decode cX12_init 483 = .ok (.bipush 48, 2) := by decide +kernel
theorem dX12_init_485 : decode cX12_init 485 = .ok (.newarray .int, 2) := by decide +kernel
theorem dX12_init_487 : decode cX12_init 487 = .ok (.putfield 94, 3) := by decide +kernel
theorem dX12_init_490 : decode cX12_init 490 = .ok (.aload_n 0, 1) := by decide +kernel
theorem dX12_init_491 : decode cX12_init 491 = .ok (.bipush 8, 2) := by decide +kernel
theorem dX12_init_493 : decode cX12_init 493 = .ok (.newarray .int, 2) := by decide +kernel
theorem dX12_init_495 : decode cX12_init 495 = .ok (.putfield 97, 3) := by decide +kernel
theorem dX12_init_498 : decode cX12_init 498 = .ok (.aload_n 0, 1) := by decide +kernel
theorem dX12_init_499 : decode cX12_init 499 = .ok (.bipush 6, 2) := by decide +kernel
theorem dX12_init_501 : decode cX12_init 501 = .ok (.newarray .int, 2) := by decide +kernel
theorem dX12_init_503 : decode cX12_init 503 = .ok (.putfield 100, 3) := by decide +kernel
theorem dX12_init_506 : decode cX12_init 506 = .ok (.aload_n 0, 1) := by decide +kernel
theorem dX12_init_507 : decode cX12_init 507 = .ok (.sipush 1536, 3) := by decide +kernel
theorem dX12_init_510 : decode cX12_init 510 = .ok (.newarray .int, 2) := by decide +kernel
theorem dX12_init_512 : decode cX12_init 512 = .ok (.putfield 103, 3) := by decide +kernel
theorem dX12_init_515 : decode cX12_init 515 = .ok (.aload_n 0, 1) := by decide +kernel
theorem dX12_init_516 : decode cX12_init 516 = .ok (.sipush 256, 3) := by decide +kernel
theorem dX12_init_519 : decode cX12_init 519 = .ok (.newarray .int, 2) := by decide +kernel
theorem dX12_init_521 : decode cX12_init 521 = .ok (.putfield 106, 3) := by decide +kernel
theorem dX12_init_524 : decode cX12_init 524 = .ok (.aload_n 0, 1) := by decide +kernel
theorem dX12_init_525 : decode cX12_init 525 = .ok (.bipush 8, 2) := by decide +kernel
theorem dX12_init_527 : decode cX12_init 527 = .ok (.newarray .int, 2) := by decide +kernel
theorem dX12_init_529 : decode cX12_init 529 = .ok (.putfield 109, 3) := by decide +kernel
theorem dX12_init_532 : decode cX12_init 532 = .ok (.aload_n 0, 1) := by decide +kernel
theorem dX12_init_533 : decode cX12_init 533 = .ok (.bipush 6, 2) := by decide +kernel
theorem dX12_init_535 : decode cX12_init 535 = .ok (.newarray .int, 2) := by decide +kernel
theorem dX12_init_537 : decode cX12_init 537 = .ok (.putfield 112, 3) := by decide +kernel
theorem dX12_init_540 : decode cX12_init 540 = .ok (.return_, 1) := by decide +kernel
theorem dX12_isIn_0 : decode cX12_isIn 0 = .ok (.iload_n 1, 1) := by decide +kernel
theorem dX12_isIn_1 : decode cX12_isIn 1 = .ok (.iload_n 2, 1) := by decide +kernel
theorem dX12_isIn_2 : decode cX12_isIn 2 = .ok (.if_icmp .lt 12, 3) := by decide +kernel
theorem dX12_isIn_5 : decode cX12_isIn 5 = .ok (.iload_n 1, 1) := by decide +kernel
theorem dX12_isIn_6 : decode cX12_isIn 6 = .ok (.iload_n 3, 1) := by decide +kernel
theorem dX12_isIn_7 : decode cX12_isIn 7 = .ok (.if_icmp .gt 7, 3) := by decide +kernel
theorem dX12_isIn_10 : decode cX12_isIn 10 = .ok (.iconst 1, 1) := by decide +kernel
theorem dX12_isIn_11 : decode cX12_isIn 11 = .ok (.goto 4, 3) := by decide +kernel
theorem dX12_isIn_14 : decode cX12_isIn 14 = .ok (.iconst 0, 1) := by decide +kernel
theorem dX12_isIn_15 : decode cX12_isIn 15 = .ok (.ireturn, 1) := by decide +kernel
theorem dX12_isMember_0 : decode cX12_isMember 0 = .ok (.iload_n 1, 1) := by decide +kernel
theorem dX12_isMember_1 : decode cX12_isMember 1 = .ok (.ifCond .lt 15, 3) := by decide +kernel
theorem dX12_isMember_4 : decode cX12_isMember 4 = .ok (.iload_n 1, 1) := by decide +kernel
theorem dX12_isMember_5 : decode cX12_isMember 5 = .ok (.aload_n 0, 1) := by decide +kernel
theorem dX12_isMember_6 : decode cX12_isMember 6 = .ok (.getfield 118, 3) := by decide +kernel
theorem dX12_isMember_9 : decode cX12_isMember 9 = .ok (.if_icmp .ge 7, 3) := by decide +kernel
theorem dX12_isMember_12 : decode cX12_isMember 12 = .ok (.iconst 1, 1) := by decide +kernel
theorem dX12_isMember_13 : decode cX12_isMember 13 = .ok (.goto 4, 3) := by decide +kernel
theorem dX12_isMember_16 : decode cX12_isMember 16 = .ok (.iconst 0, 1) := by decide +kernel
theorem dX12_isMember_17 : decode cX12_isMember 17 = .ok (.ireturn, 1) := by decide +kernel
set_option maxRecDepth 20000 in
theorem ggX12_isDay_X12_isIn : GoodIn wsX12_isDay wsX12_isIn := goodIn_r _ [5] (by decide +kernel) (by decide +kernel)
set_option maxRecDepth 20000 in
theorem gX12_isDay_X12_isIn : GoodIn wsX12_isDay (wsV RX12 121 RX12 yX12_isIn wsX12_isIn) := goodIn_app (goodIn_of _ (by decide +kernel)) ggX12_isDay_X12_isIn
theorem dX12_isDay_0 : decode cX12_isDay 0 = .ok (.aload_n 0, 1) := by decide +kernel
theorem dX12_isDay_1 : decode cX12_isDay 1 = .ok (.iload_n 1, 1) := by decide +kernel
theorem dX12_isDay_2 : decode cX12_isDay 2 = .ok (.iconst 0, 1) := by decide +kernel
theorem dX12_isDay_3 : decode cX12_isDay 3 = .ok (.sipush 999, 3) := by decide +kernel
theorem dX12_isDay_6 : decode cX12_isDay 6 = .ok (.invokevirtual 121, 3) := by decide +kernel
theorem dX12_isDay_9 : decode cX12_isDay 9 = .ok (.ireturn, 1) := by decide +kernel
theorem dX12_member_0 : decode cX12_member 0 = .ok (.aload_n 0, 1) := by decide +kernel
theorem dX12_member_1 : decode cX12_member 1 = .ok (.iconst 0, 1) := by decide +kernel
theorem dX12_member_2 : decode cX12_member 2 = .ok (.putfield 115, 3) := by decide +kernel
theorem dX12_member_5 : decode cX12_member 5 = .ok (.aload_n 0, 1) := by decide +kernel
theorem dX12_member_6 : decode cX12_member 6 = .ok (.getfield 118, 3) := by decide +kernel
theorem dX12_member_9 : decode cX12_member 9 = .ok (.bipush 10, 2) := by decide +kernel
theorem dX12_member_11 : decode cX12_member 11 = .ok (.if_icmp .ne 5, 3) := by decide +kernel
theorem dX12_member_14 : decode cX12_member 14 = .ok (.iconst (-1), 1) := by decide +kernel
theorem dX12_member_15 : decode cX12_member 15 = .ok (.ireturn, 1) := by decide +kernel
theorem dX12_member_16 : decode cX12_member 16 = .ok (.aload_n 0, 1) := by decide +kernel
theorem dX12_member_17 : decode cX12_member 17 = .ok (.aload_n 0, 1) := by decide +kernel
theorem dX12_member_18 : decode cX12_member 18 = .ok (.getfield 118, 3) := by decide +kernel
theorem dX12_member_21 : decode cX12_member 21 = .ok (.iconst 1, 1) := by decide +kernel
theorem dX12_member_22 : decode cX12_member 22 = .ok (.iadd, 1) := by decide +kernel
theorem dX12_member_23 : decode cX12_member 23 = .ok (.putfield 118, 3) := by decide +kernel
theorem dX12_member_26 : decode cX12_member 26 = .ok (.aload_n 0, 1) := by decide +kernel
theorem dX12_member_27 : decode cX12_member 27 = .ok (.getfield 118, 3) := by decide +kernel
theorem dX12_member_30 : decode cX12_member 30 = .ok (.iconst 1, 1) := by decide +kernel
theorem dX12_member_31 : decode cX12_member 31 = .ok (.isub, 1) := by decide +kernel
theorem dX12_member_32 : decode cX12_member 32 = .ok (.ireturn, 1) := by decide +kernel
set_option maxRecDepth 20000 in
theorem ggX12_shift_X12_isMember : GoodIn wsX12_shift wsX12_isMember := goodIn_r _ [12, 13, 22, 23, 24, 25, 26, 27, 28, 29, 30, 31, 32, 33, 34, 35, 36, 37, 38, 39, 40, 41, 42, 43, 44, 45, 46, 47, 48, 49, 50, 51, 52, 53, 54, 55, 56, 57, 58, 59, 60, 61, 62, 63, 64, 65, 66, 67, 68, 69, 70, 71, 72, 73] (by decide +kernel) (by decide +kernel)
set_option maxRecDepth 20000 in
theorem gX12_shift_X12_isMember : GoodIn wsX12_shift (wsV RX12 125 RX12 yX12_isMember wsX12_isMember) := goodIn_app (goodIn_of _ (by decide +kernel)) ggX12_shift_X12_isMember
set_option maxRecDepth 20000 in
theorem ggX12_shift_X12_isDay : GoodIn wsX12_shift wsX12_isDay := goodIn_r _ [17, 18, 19, 20, 11, 21] (by decide +kernel) (by decide +kernel)
set_option maxRecDepth 20000 in
theorem gX12_shift_X12_isDay : GoodIn wsX12_shift (wsV RX12 129 RX12 yX12_isDay wsX12_isDay) := goodIn_app (goodIn_of _ (by decide +kernel)) ggX12_shift_X12_isDay
set_option maxRecDepth 20000 in
theorem ggX12_shift_X12_isIn : GoodIn wsX12_shift wsX12_isIn := goodIn_r _ [21] (by decide +kernel) (by decide +kernel)
set_option maxRecDepth 20000 in
theorem gX12_shift_X12_isIn : GoodIn wsX12_shift (wsV RX12 121 RX12 yX12_isIn wsX12_isIn) := goodIn_app (goodIn_of _ (by decide +kernel)) ggX12_shift_X12_isIn
theorem dX12_shift_0 : decode cX12_shift 0 = .ok (.aload_n 0, 1) := by decide +kernel
theorem dX12_shift_1 : decode cX12_shift 1 = .ok (.iconst 0, 1) := by decide +kernel
theorem dX12_shift_2 : decode cX12_shift 2 = .ok (.putfield 115, 3) := by decide +kernel
theorem dX12_shift_5 : decode cX12_shift 5 = .ok (.aload_n 0, 1) := by decide +kernel
theorem dX12_shift_6 : decode cX12_shift 6 = .ok (.iload_n 1, 1) := by decide +kernel
theorem dX12_shift_7 : decode cX12_shift 7 = .ok (.invokevirtual 125, 3) := by decide +kernel
theorem dX12_shift_10 : decode cX12_shift 10 = .ok (.ifCond .eq 75, 3) := by decide +kernel
theorem dX12_shift_13 : decode cX12_shift 13 = .ok (.aload_n 0, 1) := by decide +kernel
theorem dX12_shift_14 : decode cX12_shift 14 = .ok (.iload_n 2, 1) := by decide +kernel
theorem dX12_shift_15 : decode cX12_shift 15 = .ok (.invokevirtual 129, 3) := by decide +kernel
theorem dX12_shift_18 : decode cX12_shift 18 = .ok (.ifCond .eq 67, 3) := by decide +kernel
theorem dX12_shift_21 : decode cX12_shift 21 = .ok (.aload_n 0, 1) := by decide +kernel
theorem dX12_shift_22 : decode cX12_shift 22 = .ok (.iload_n 3, 1) := by decide +kernel
theorem dX12_shift_23 : decode cX12_shift 23 = .ok (.iconst 0, 1) := by decide +kernel
theorem dX12_shift_24 : decode cX12_shift 24 = .ok (.bipush 99, 2) := by decide +kernel
theorem dX12_shift_26 : decode cX12_shift 26 = .ok (.invokevirtual 121, 3) := by decide +kernel
theorem dX12_shift_29 : decode cX12_shift 29 = .ok (.ifCond .eq 56, 3) := by decide +kernel
theorem dX12_shift_32 : decode cX12_shift 32 = .ok (.aload_n 0, 1) := by decide +kernel
theorem dX12_shift_33 : decode cX12_shift 33 = .ok (.iload 4, 2) := by decide +kernel
theorem dX12_shift_35 : decode cX12_shift 35 = .ok (.iconst (-1), 1) := by decide +kernel
theorem dX12_shift_36 : decode cX12_shift 36 = .ok (.iconst 5, 1) := by decide +kernel
theorem dX12_shift_37 : decode cX12_shift 37 = .ok (.invokevirtual 121, 3) := by decide +kernel
theorem dX12_shift_40 : decode cX12_shift 40 = .ok (.ifCond .eq 45, 3) := by decide +kernel
theorem dX12_shift_43 : decode cX12_shift 43 = .ok (.aload_n 0, 1) := by decide +kernel
theorem dX12_shift_44 : decode cX12_shift 44 = .ok (.iload 5, 2) := by decide +kernel
theorem dX12_shift_46 : decode cX12_shift 46 = .ok (.invokevirtual 129, 3) := by decide +kernel
theorem dX12_shift_49 : decode cX12_shift 49 = .ok (.ifCond .eq 36, 3) := by decide +kernel
theorem dX12_shift_52 : decode cX12_shift 52 = .ok (.aload_n 0, 1) := by decide +kernel
theorem dX12_shift_53 : decode cX12_shift 53 = .ok (.getfield 132, 3) := by decide +kernel
theorem dX12_shift_56 : decode cX12_shift 56 = .ok (.sipush 200, 3) := by decide +kernel
theorem dX12_shift_59 : decode cX12_shift 59 = .ok (.if_icmp .eq 26, 3) := by decide +kernel
theorem dX12_shift_62 : decode cX12_shift 62 = .ok (.aload_n 0, 1) := by decide +kernel
theorem dX12_shift_63 : decode cX12_shift 63 = .ok (.getfield 132, 3) := by decide +kernel
theorem dX12_shift_66 : decode cX12_shift 66 = .ok (.ifCond .le 21, 3) := by decide +kernel
theorem dX12_shift_69 : decode cX12_shift 69 = .ok (.iload 5, 2) := by decide +kernel
theorem dX12_shift_71 : decode cX12_shift 71 = .ok (.aload_n 0, 1) := by decide +kernel
theorem dX12_shift_72 : decode cX12_shift 72 = .ok (.getfield 22, 3) := by decide +kernel
theorem dX12_shift_75 : decode cX12_shift 75 = .ok (.aload_n 0, 1) := by decide +kernel
theorem dX12_shift_76 : decode cX12_shift 76 = .ok (.getfield 132, 3) := by decide +kernel
theorem dX12_shift_79 : decode cX12_shift 79 = .ok (.iconst 1, 1) := by decide +kernel
theorem dX12_shift_80 : decode cX12_shift 80 = .ok (.isub, 1) := by decide +kernel
theorem dX12_shift_81 : decode cX12_shift 81 = .ok (.iaload, 1) := by decide +kernel
theorem dX12_shift_82 : decode cX12_shift 82 = .ok (.if_icmp .ge 5, 3) := by decide +kernel
theorem dX12_shift_85 : decode cX12_shift 85 = .ok (.iconst 0, 1) := by decide +kernel
theorem dX12_shift_86 : decode cX12_shift 86 = .ok (.ireturn, 1) := by decide +kernel
theorem dX12_shift_87 : decode cX12_shift 87 = .ok (.aload_n 0, 1) := by decide +kernel
theorem dX12_shift_88 : decode cX12_shift 88 = .ok (.getfield 7, 3) := by decide +kernel
theorem dX12_shift_91 : decode cX12_shift 91 = .ok (.aload_n 0, 1) := by decide +kernel
theorem dX12_shift_92 : decode cX12_shift 92 = .ok (.getfield 132, 3) := by decide +kernel
theorem dX12_shift_95 : decode cX12_shift 95 = .ok (.iload_n 1, 1) := by decide +kernel
theorem dX12_shift_96 : decode cX12_shift 96 = .ok (.iastore, 1) := by decide +kernel
theorem dX12_shift_97 : decode cX12_shift 97 = .ok (.aload_n 0, 1) := by decide +kernel
theorem dX12_shift_98 : decode cX12_shift 98 = .ok (.getfield 13, 3) := by decide +kernel
theorem dX12_shift_101 : decode cX12_shift 101 = .ok (.aload_n 0, 1) := by decide +kernel
theorem dX12_shift_102 : decode cX12_shift 102 = .ok (.getfield 132, 3) := by decide +kernel
theorem dX12_shift_105 : decode cX12_shift 105 = .ok (.iload_n 2, 1) := by decide +kernel
theorem dX12_shift_106 : decode cX12_shift 106 = .ok (.iastore, 1) := by decide +kernel
theorem dX12_shift_107 : decode cX12_shift 107 = .ok (.aload_n 0, 1) := by decide +kernel
theorem dX12_shift_108 : decode cX12_shift 108 = .ok (.getfield 16, 3) := by decide +kernel
theorem dX12_shift_111 : decode cX12_shift 111 = .ok (.aload_n 0, 1) := by decide +kernel
theorem dX12_shift_112 : decode cX12_shift 112 = .ok (.getfield 132, 3) := by decide +kernel
theorem dX12_shift_115 : decode cX12_shift 115 = .ok (.iload_n 3, 1) := by decide +kernel
theorem dX12_shift_116 : decode cX12_shift 116 = .ok (.iastore, 1) := by decide +kernel
theorem dX12_shift_117 : decode cX12_shift 117 = .ok (.aload_n 0, 1) := by decide +kernel
theorem dX12_shift_118 : decode cX12_shift 118 = .ok (.getfield 19, 3) := by decide +kernel
theorem dX12_shift_121 : decode cX12_shift 121 = .ok (.aload_n 0, 1) := by decide +kernel
theorem dX12_shift_122 : decode cX12_shift 122 = .ok (.getfield 132, 3) := by decide +kernel
theorem dX12_shift_125 : decode cX12_shift 125 = .ok (.iload 4, 2) := by decide +kernel
theorem dX12_shift_127 : decode cX12_shift 127 = .ok (.iastore, 1) := by decide +kernel
theorem dX12_shift_128 : decode cX12_shift 128 = .ok (.aload_n 0, 1) := by decide +kernel
theorem dX12_shift_129 : decode cX12_shift 129 = .ok (.getfield 22, 3) := by decide +kernel
theorem dX12_shift_132 : decode cX12_shift 132 = .ok (.aload_n 0, 1) := by decide +kernel
theorem dX12_shift_133 : decode cX12_shift 133 = .ok (.getfield 132, 3) := by decide +kernel
theorem dX12_shift_136 : decode cX12_shift 136 = .ok (.iload 5, 2) := by decide +kernel
theorem dX12_shift_138 : decode cX12_shift 138 = .ok (.iastore, 1) := by decide +kernel
theorem dX12_shift_139 : decode cX12_shift 139 = .ok (.aload_n 0, 1) := by decide +kernel
theorem dX12_shift_140 : decode cX12_shift 140 = .ok (.aload_n 0, 1) := by decide +kernel
theorem dX12_shift_141 : decode cX12_shift 141 = .ok (.getfield 132, 3) := by decide +kernel
theorem dX12_shift_144 : decode cX12_shift 144 = .ok (.iconst 1, 1) := by decide +kernel
theorem dX12_shift_145 : decode cX12_shift 145 = .ok (.iadd, 1) := by decide +kernel
theorem dX12_shift_146 : decode cX12_shift 146 = .ok (.putfield 132, 3) := by decide +kernel
theorem dX12_shift_149 : decode cX12_shift 149 = .ok (.iconst 1, 1) := by decide +kernel
theorem dX12_shift_150 : decode cX12_shift 150 = .ok (.ireturn, 1) := by decide +kernel
set_option maxRecDepth 20000 in
theorem ggX12_view_X12_isDay : GoodIn wsX12_view wsX12_isDay := goodIn_r _ [8, 9, 10, 11, 7, 12] (by decide +kernel) (by decide +kernel)
set_option maxRecDepth 20000 in
theorem gX12_view_X12_isDay : GoodIn wsX12_view (wsV RX12 129 RX12 yX12_isDay wsX12_isDay) := goodIn_app (goodIn_of _ (by decide +kernel)) ggX12_view_X12_isDay
theorem dX12_view_0 : decode cX12_view 0 = .ok (.aload_n 0, 1) := by decide +kernel
theorem dX12_view_1 : decode cX12_view 1 = .ok (.iconst 0, 1) := by decide +kernel
theorem dX12_view_2 : decode cX12_view 2 = .ok (.putfield 115, 3) := by decide +kernel
theorem dX12_view_5 : decode cX12_view 5 = .ok (.aload_n 0, 1) := by decide +kernel
theorem dX12_view_6 : decode cX12_view 6 = .ok (.iload_n 1, 1) := by decide +kernel
theorem dX12_view_7 : decode cX12_view 7 = .ok (.invokevirtual 129, 3) := by decide +kernel
theorem dX12_view_10 : decode cX12_view 10 = .ok (.ifCond .eq 11, 3) := by decide +kernel
theorem dX12_view_13 : decode cX12_view 13 = .ok (.aload_n 0, 1) := by decide +kernel
theorem dX12_view_14 : decode cX12_view 14 = .ok (.iload_n 2, 1) := by decide +kernel
theorem dX12_view_15 : decode cX12_view 15 = .ok (.invokevirtual 129, 3) := by decide +kernel
theorem dX12_view_18 : decode cX12_view 18 = .ok (.ifCond .ne 5, 3) := by decide +kernel
theorem dX12_view_21 : decode cX12_view 21 = .ok (.iconst 0, 1) := by decide +kernel
theorem dX12_view_22 : decode cX12_view 22 = .ok (.ireturn, 1) := by decide +kernel
theorem dX12_view_23 : decode cX12_view 23 = .ok (.aload_n 0, 1) := by decide +kernel
theorem dX12_view_24 : decode cX12_view 24 = .ok (.iload_n 1, 1) := by decide +kernel
theorem dX12_view_25 : decode cX12_view 25 = .ok (.putfield 25, 3) := by decide +kernel
theorem dX12_view_28 : decode cX12_view 28 = .ok (.aload_n 0, 1) := by decide +kernel
theorem dX12_view_29 : decode cX12_view 29 = .ok (.iload_n 2, 1) := by decide +kernel
theorem dX12_view_30 : decode cX12_view 30 = .ok (.putfield 29, 3) := by decide +kernel
theorem dX12_view_33 : decode cX12_view 33 = .ok (.iconst 1, 1) := by decide +kernel
theorem dX12_view_34 : decode cX12_view 34 = .ok (.ireturn, 1) := by decide +kernel
theorem dX12_finds_0 : decode cX12_finds 0 = .ok (.aload_n 0, 1) := by decide +kernel
theorem dX12_finds_1 : decode cX12_finds 1 = .ok (.iconst 0, 1) := by decide +kernel
theorem dX12_finds_2 : decode cX12_finds 2 = .ok (.putfield 135, 3) := by decide +kernel
theorem dX12_finds_5 : decode cX12_finds 5 = .ok (.aload_n 0, 1) := by decide +kernel
theorem dX12_finds_6 : decode cX12_finds 6 = .ok (.iconst 0, 1) := by decide +kernel
theorem dX12_finds_7 : decode cX12_finds 7 = .ok (.putfield 138, 3) := by decide +kernel
theorem dX12_finds_10 : decode cX12_finds 10 = .ok (.aload_n 0, 1) := by decide +kernel
theorem dX12_finds_11 : decode cX12_finds 11 = .ok (.iconst 0, 1) := by decide +kernel
theorem dX12_finds_12 : decode cX12_finds 12 = .ok (.putfield 141, 3) := by decide +kernel
theorem dX12_finds_15 : decode cX12_finds 15 = .ok (.iconst 0, 1) := by decide +kernel
theorem dX12_finds_16 : decode cX12_finds 16 = .ok (.istore_n 3, 1) := by decide +kernel
theorem dX12_finds_17 : decode cX12_finds 17 = .ok (.iload_n 3, 1) := by decide +kernel
theorem dX12_finds_18 : decode cX12_finds 18 = .ok (.aload_n 0, 1) := by decide +kernel
theorem dX12_finds_19 : decode cX12_finds 19 = .ok (.getfield 118, 3) := by decide +kernel
theorem dX12_finds_22 : decode cX12_finds 22 = .ok (.if_icmp .ge 193, 3) := by decide +kernel
theorem dX12_finds_25 : decode cX12_finds 25 = .ok (.iconst (-1), 1) := by decide +kernel
theorem dX12_finds_26 : decode cX12_finds 26 = .ok (.istore 4, 2) := by decide +kernel
theorem dX12_finds_28 : decode cX12_finds 28 = .ok (.iconst 0, 1) := by decide +kernel
theorem dX12_finds_29 : decode cX12_finds 29 = .ok (.istore 5, 2) := by decide +kernel
theorem dX12_finds_31 : decode cX12_finds 31 = .ok (.iload 5, 2) := by decide +kernel
theorem dX12_finds_33 : decode cX12_finds 33 = .ok (.aload_n 0, 1) := by decide +kernel
theorem dX12_finds_34 : decode cX12_finds 34 = .ok (.getfield 132, 3) := by decide +kernel
theorem dX12_finds_37 : decode cX12_finds 37 = .ok (.if_icmp .ge 72, 3) := by decide +kernel
theorem dX12_finds_40 : decode cX12_finds 40 = .ok (.aload_n 0, 1) := by decide +kernel
theorem dX12_finds_41 : decode cX12_finds 41 = .ok (.getfield 7, 3) := by decide +kernel
theorem dX12_finds_44 : decode cX12_finds 44 = .ok (.iload 5, 2) := by decide +kernel
theorem dX12_finds_46 : decode cX12_finds 46 = .ok (.iaload, 1) := by decide +kernel
theorem dX12_finds_47 : decode cX12_finds 47 = .ok (.iload_n 3, 1) := by decide +kernel
theorem dX12_finds_48 : decode cX12_finds 48 = .ok (.if_icmp .ne 55, 3) := by decide +kernel
theorem dX12_finds_51 : decode cX12_finds 51 = .ok (.aload_n 0, 1) := by decide +kernel
theorem dX12_finds_52 : decode cX12_finds 52 = .ok (.getfield 22, 3) := by decide +kernel
theorem dX12_finds_55 : decode cX12_finds 55 = .ok (.iload 5, 2) := by decide +kernel
theorem dX12_finds_57 : decode cX12_finds 57 = .ok (.iaload, 1) := by decide +kernel
theorem dX12_finds_58 : decode cX12_finds 58 = .ok (.iload_n 2, 1) := by decide +kernel
theorem dX12_finds_59 : decode cX12_finds 59 = .ok (.if_icmp .gt 44, 3) := by decide +kernel
theorem dX12_finds_62 : decode cX12_finds 62 = .ok (.aload_n 0, 1) := by decide +kernel
theorem dX12_finds_63 : decode cX12_finds 63 = .ok (.getfield 13, 3) := by decide +kernel
theorem dX12_finds_66 : decode cX12_finds 66 = .ok (.iload 5, 2) := by decide +kernel
theorem dX12_finds_68 : decode cX12_finds 68 = .ok (.iaload, 1) := by decide +kernel
theorem dX12_finds_69 : decode cX12_finds 69 = .ok (.iload_n 1, 1) := by decide +kernel
theorem dX12_finds_70 : decode cX12_finds 70 = .ok (.if_icmp .le 6, 3) := by decide +kernel
theorem dX12_finds_73 : decode cX12_finds 73 = .ok (.goto 30, 3) := by decide +kernel
theorem dX12_finds_76 : decode cX12_finds 76 = .ok (.iload 4, 2) := by decide +kernel
theorem dX12_finds_78 : decode cX12_finds 78 = .ok (.iconst (-1), 1) := by decide +kernel
theorem dX12_finds_79 : decode cX12_finds 79 = .ok (.if_icmp .eq 20, 3) := by decide +kernel
theorem dX12_finds_82 : decode cX12_finds 82 = .ok (.aload_n 0, 1) := by decide +kernel
theorem dX12_finds_83 : decode cX12_finds 83 = .ok (.getfield 13, 3) := by decide +kernel
theorem dX12_finds_86 : decode cX12_finds 86 = .ok (.iload 5, 2) := by decide +kernel
theorem dX12_finds_88 : decode cX12_finds 88 = .ok (.iaload, 1) := by decide +kernel
theorem dX12_finds_89 : decode cX12_finds 89 = .ok (.aload_n 0, 1) := by decide +kernel
theorem dX12_finds_90 : decode cX12_finds 90 = .ok (.getfield 13, 3) := by decide +kernel
theorem dX12_finds_93 : decode cX12_finds 93 = .ok (.iload 4, 2) := by decide +kernel
theorem dX12_finds_95 : decode cX12_finds 95 = .ok (.iaload, 1) := by decide +kernel
theorem dX12_finds_96 : decode cX12_finds 96 = .ok (.if_icmp .lt 7, 3) := by decide +kernel
theorem dX12_finds_99 : decode cX12_finds 99 = .ok (.iload 5, 2) := by decide +kernel
theorem dX12_finds_101 : decode cX12_finds 101 = .ok (.istore 4, 2) := by decide +kernel
theorem dX12_finds_103 : decode cX12_finds 103 = .ok (.iinc 5 1, 3) := by decide +kernel
theorem dX12_finds_106 : decode cX12_finds 106 = .ok (.goto (-75), 3) := by decide +kernel
theorem dX12_finds_109 : decode cX12_finds 109 = .ok (.aload_n 0, 1) := by decide +kernel
theorem dX12_finds_110 : decode cX12_finds 110 = .ok (.getfield 42, 3) := by decide +kernel
theorem dX12_finds_113 : decode cX12_finds 113 = .ok (.iload_n 3, 1) := by decide +kernel
theorem dX12_finds_114 : decode cX12_finds 114 = .ok (.iload 4, 2) := by decide +kernel
theorem dX12_finds_116 : decode cX12_finds 116 = .ok (.iconst (-1), 1) := by decide +kernel
theorem dX12_finds_117 : decode cX12_finds 117 = .ok (.if_icmp .ne 7, 3) := by decide +kernel
theorem dX12_finds_120 : decode cX12_finds 120 = .ok (.iconst (-1), 1) := by decide +kernel
theorem dX12_finds_121 : decode cX12_finds 121 = .ok (.goto 10, 3) := by decide +kernel
theorem dX12_finds_124 : decode cX12_finds 124 = .ok (.aload_n 0, 1) := by decide +kernel
theorem dX12_finds_125 : decode cX12_finds 125 = .ok (.getfield 19, 3) := by decide +kernel
theorem dX12_finds_128 : decode cX12_finds 128 = .ok (.iload 4, 2) := by decide +kernel
theorem dX12_finds_130 : decode cX12_finds 130 = .ok (.iaload, 1) := by decide +kernel
theorem dX12_finds_131 : decode cX12_finds 131 = .ok (.iastore, 1) := by decide +kernel
theorem dX12_finds_132 : decode cX12_finds 132 = .ok (.aload_n 0, 1) := by decide +kernel
theorem dX12_finds_133 : decode cX12_finds 133 = .ok (.getfield 39, 3) := by decide +kernel
theorem dX12_finds_136 : decode cX12_finds 136 = .ok (.iload_n 3, 1) := by decide +kernel
theorem dX12_finds_137 : decode cX12_finds 137 = .ok (.aload_n 0, 1) := by decide +kernel
theorem dX12_finds_138 : decode cX12_finds 138 = .ok (.getfield 42, 3) := by decide +kernel
theorem dX12_finds_141 : decode cX12_finds 141 = .ok (.iload_n 3, 1) := by decide +kernel
theorem dX12_finds_142 : decode cX12_finds 142 = .ok (.iaload, 1) := by decide +kernel
theorem dX12_finds_143 : decode cX12_finds 143 = .ok (.iconst (-1), 1) := by decide +kernel
theorem dX12_finds_144 : decode cX12_finds 144 = .ok (.if_icmp .ne 7, 3) := by decide +kernel
theorem dX12_finds_147 : decode cX12_finds 147 = .ok (.iconst 0, 1) := by decide +kernel
theorem dX12_finds_148 : decode cX12_finds 148 = .ok (.goto 10, 3) := by decide +kernel
theorem dX12_finds_151 : decode cX12_finds 151 = .ok (.aload_n 0, 1) := by decide +kernel
theorem dX12_finds_152 : decode cX12_finds 152 = .ok (.getfield 16, 3) := by decide +kernel
theorem dX12_finds_155 : decode cX12_finds 155 = .ok (.iload 4, 2) := by decide +kernel
theorem dX12_finds_157 : decode cX12_finds 157 = .ok (.iaload, 1) := by decide +kernel
theorem dX12_finds_158 : decode cX12_finds 158 = .ok (.iastore, 1) := by decide +kernel
theorem dX12_finds_159 : decode cX12_finds 159 = .ok (.aload_n 0, 1) := by decide +kernel
theorem dX12_finds_160 : decode cX12_finds 160 = .ok (.getfield 42, 3) := by decide +kernel
theorem dX12_finds_163 : decode cX12_finds 163 = .ok (.iload_n 3, 1) := by decide +kernel
theorem dX12_finds_164 : decode cX12_finds 164 = .ok (.iaload, 1) := by decide +kernel
theorem dX12_finds_165 : decode cX12_finds 165 = .ok (.iconst (-1), 1) := by decide +kernel
theorem dX12_finds_166 : decode cX12_finds 166 = .ok (.if_icmp .ne 6, 3) := by decide +kernel
theorem dX12_finds_169 : decode cX12_finds 169 = .ok (.goto 40, 3) := by decide +kernel
theorem dX12_finds_172 : decode cX12_finds 172 = .ok (.aload_n 0, 1) := by decide +kernel
theorem dX12_finds_173 : decode cX12_finds 173 = .ok (.aload_n 0, 1) := by decide +kernel
theorem dX12_finds_174 : decode cX12_finds 174 = .ok (.getfield 135, 3) := by decide +kernel
theorem dX12_finds_177 : decode cX12_finds 177 = .ok (.iconst 1, 1) := by decide +kernel
theorem dX12_finds_178 : decode cX12_finds 178 = .ok (.iload_n 3, 1) := by decide +kernel
theorem dX12_finds_179 : decode cX12_finds 179 = .ok (.ishl, 1) := by decide +kernel
theorem dX12_finds_180 : decode cX12_finds 180 = .ok (.ior, 1) := by decide +kernel
theorem dX12_finds_181 : decode cX12_finds 181 = .ok (.putfield 135, 3) := by decide +kernel
theorem dX12_finds_184 : decode cX12_finds 184 = .ok (.aload_n 0, 1) := by decide +kernel
theorem dX12_finds_185 : decode cX12_finds 185 = .ok (.aload_n 0, 1) := by decide +kernel
theorem dX12_finds_186 : decode cX12_finds 186 = .ok (.getfield 138, 3) := by decide +kernel
theorem dX12_finds_189 : decode cX12_finds 189 = .ok (.iconst 1, 1) := by decide +kernel
theorem dX12_finds_190 : decode cX12_finds 190 = .ok (.iadd, 1) := by decide +kernel
theorem dX12_finds_191 : decode cX12_finds 191 = .ok (.putfield 138, 3) := by decide +kernel
theorem dX12_finds_194 : decode cX12_finds 194 = .ok (.aload_n 0, 1) := by decide +kernel
theorem dX12_finds_195 : decode cX12_finds 195 = .ok (.aload_n 0, 1) := by decide +kernel
theorem dX12_finds_196 : decode cX12_finds 196 = .ok (.getfield 141, 3) := by decide +kernel
theorem dX12_finds_199 : decode cX12_finds 199 = .ok (.aload_n 0, 1) := by decide +kernel
theorem dX12_finds_200 : decode cX12_finds 200 = .ok (.getfield 39, 3) := by decide +kernel
theorem dX12_finds_203 : decode cX12_finds 203 = .ok (.iload_n 3, 1) := by decide +kernel
theorem dX12_finds_204 : decode cX12_finds 204 = .ok (.iaload, 1) := by decide +kernel
theorem dX12_finds_205 : decode cX12_finds 205 = .ok (.iadd, 1) := by decide +kernel
theorem dX12_finds_206 : decode cX12_finds 206 = .ok (.putfield 141, 3) := by decide +kernel
theorem dX12_finds_209 : decode cX12_finds 209 = .ok (.iinc 3 1, 3) := by decide +kernel
theorem dX12_finds_212 : decode cX12_finds 212 = .ok (.goto (-195), 3) := by decide +kernel
theorem dX12_finds_215 : decode cX12_finds 215 = .ok (.return_, 1) := by decide +kernel
set_option maxRecDepth 20000 in
theorem ggX12_findsView_X12_finds : GoodIn wsX12_findsView wsX12_finds := goodIn_r _ [7, 8, 9, 10, 11, 12, 13, 14, 15, 16, 17, 18, 19, 20, 21, 22, 23, 24, 25, 26, 27, 28, 29, 30, 31, 32, 33, 34, 35, 36, 37, 38, 39, 40, 41, 42, 43, 44, 45, 46, 47, 48, 49, 50, 51, 52, 53, 54, 55, 56, 57, 58, 59, 60, 61, 62, 63, 64, 65, 66, 67, 68, 69, 70, 71] (by decide +kernel) (by decide +kernel)
set_option maxRecDepth 20000 in
theorem gX12_findsView_X12_finds : GoodIn wsX12_findsView (wsV RX12 144 RX12 yX12_finds wsX12_finds) := goodIn_app (goodIn_of _ (by decide +kernel)) ggX12_findsView_X12_finds
theorem dX12_findsView_0 : decode cX12_findsView 0 = .ok (.aload_n 0, 1) := by decide +kernel
theorem dX12_findsView_1 : decode cX12_findsView 1 = .ok (.aload_n 0, 1) := by decide +kernel
theorem dX12_findsView_2 : decode cX12_findsView 2 = .ok (.getfield 25, 3) := by decide +kernel
theorem dX12_findsView_5 : decode cX12_findsView 5 = .ok (.aload_n 0, 1) := by decide +kernel
theorem dX12_findsView_6 : decode cX12_findsView 6 = .ok (.getfield 29, 3) := by decide +kernel
theorem dX12_findsView_9 : decode cX12_findsView 9 = .ok (.invokevirtual 144, 3) := by decide +kernel
theorem dX12_findsView_12 : decode cX12_findsView 12 = .ok (.return_, 1) := by decide +kernel
theorem dX12_isOf_0 : decode cX12_isOf 0 = .ok (.iload_n 1, 1) := by decide +kernel
theorem dX12_isOf_1 : decode cX12_isOf 1 = .ok (.iload_n 2, 1) := by decide +kernel
theorem dX12_isOf_2 : decode cX12_isOf 2 = .ok (.ishr, 1) := by decide +kernel
theorem dX12_isOf_3 : decode cX12_isOf 3 = .ok (.iconst 1, 1) := by decide +kernel
theorem dX12_isOf_4 : decode cX12_isOf 4 = .ok (.iand, 1) := by decide +kernel
theorem dX12_isOf_5 : decode cX12_isOf 5 = .ok (.iconst 1, 1) := by decide +kernel
theorem dX12_isOf_6 : decode cX12_isOf 6 = .ok (.if_icmp .ne 7, 3) := by decide +kernel
theorem dX12_isOf_9 : decode cX12_isOf 9 = .ok (.iconst 1, 1) := by decide +kernel
theorem dX12_isOf_10 : decode cX12_isOf 10 = .ok (.goto 4, 3) := by decide +kernel
theorem dX12_isOf_13 : decode cX12_isOf 13 = .ok (.iconst 0, 1) := by decide +kernel
theorem dX12_isOf_14 : decode cX12_isOf 14 = .ok (.ireturn, 1) := by decide +kernel
set_option maxRecDepth 20000 in
theorem ggX12_of_X12_isMember : GoodIn wsX12_of wsX12_isMember := goodIn_r _ [11, 12, 39, 40, 41, 42, 43, 44, 45, 46, 47, 48, 49, 50, 51, 52, 53, 54, 55, 56, 57, 58, 59, 60, 61, 62, 63, 64, 65, 66, 67, 68, 69, 70, 71, 72, 73, 74, 75, 76, 77, 78, 79, 80, 81, 82, 83, 84, 85, 86, 87, 88, 89, 90] (by decide +kernel) (by decide +kernel)
set_option maxRecDepth 20000 in
theorem gX12_of_X12_isMember : GoodIn wsX12_of (wsV RX12 125 RX12 yX12_isMember wsX12_isMember) := goodIn_app (goodIn_of _ (by decide +kernel)) ggX12_of_X12_isMember
set_option maxRecDepth 20000 in
theorem ggX12_of_X12_isIn : GoodIn wsX12_of wsX12_isIn := goodIn_r _ [16] (by decide +kernel) (by decide +kernel)
set_option maxRecDepth 20000 in
theorem gX12_of_X12_isIn : GoodIn wsX12_of (wsV RX12 121 RX12 yX12_isIn wsX12_isIn) := goodIn_app (goodIn_of _ (by decide +kernel)) ggX12_of_X12_isIn
set_option maxRecDepth 20000 in
theorem ggX12_of_X12_findsView : GoodIn wsX12_of wsX12_findsView := goodIn_r _ [20, 21, 22, 23, 24, 25, 10, 26, 4, 27, 28, 12, 29, 30, 31, 32, 6, 33, 5, 34, 39, 40, 41, 42, 43, 44, 45, 46, 47, 48, 49, 50, 51, 52, 53, 54, 55, 56, 57, 58, 59, 60, 61, 62, 63, 64, 65, 66, 67, 68, 69, 70, 71, 72, 73, 74, 75, 76, 77, 78, 79, 80, 81, 82, 83, 84, 85, 86, 87, 88, 89, 90] (by decide +kernel) (by decide +kernel)
set_option maxRecDepth 20000 in
theorem gX12_of_X12_findsView : GoodIn wsX12_of (wsV RX12 148 RX12 yX12_findsView wsX12_findsView) := goodIn_app (goodIn_of _ (by decide +kernel)) ggX12_of_X12_findsView
set_option maxRecDepth 20000 in
theorem ggX12_of_X12_isOf : GoodIn wsX12_of wsX12_isOf := goodIn_r _ [38] (by decide +kernel) (by decide +kernel)
set_option maxRecDepth 20000 in
theorem gX12_of_X12_isOf : GoodIn wsX12_of (wsV RX12 151 RX12 yX12_isOf wsX12_isOf) := goodIn_app (goodIn_of _ (by decide +kernel)) ggX12_of_X12_isOf
theorem dX12_of_0 : decode cX12_of 0 = .ok (.aload_n 0, 1) := by decide +kernel
theorem dX12_of_1 : decode cX12_of 1 = .ok (.iconst 0, 1) := by decide +kernel
theorem dX12_of_2 : decode cX12_of 2 = .ok (.putfield 115, 3) := by decide +kernel
theorem dX12_of_5 : decode cX12_of 5 = .ok (.aload_n 0, 1) := by decide +kernel
theorem dX12_of_6 : decode cX12_of 6 = .ok (.iload_n 1, 1) := by decide +kernel
theorem dX12_of_7 : decode cX12_of 7 = .ok (.invokevirtual 125, 3) := by decide +kernel
theorem dX12_of_10 : decode cX12_of 10 = .ok (.ifCond .eq 13, 3) := by decide +kernel
theorem dX12_of_13 : decode cX12_of 13 = .ok (.aload_n 0, 1) := by decide +kernel
theorem dX12_of_14 : decode cX12_of 14 = .ok (.iload_n 2, 1) := by decide +kernel
theorem dX12_of_15 : decode cX12_of 15 = .ok (.iconst 0, 1) := by decide +kernel
theorem dX12_of_16 : decode cX12_of 16 = .ok (.iconst 2, 1) := by decide +kernel
theorem dX12_of_17 : decode cX12_of 17 = .ok (.invokevirtual 121, 3) := by decide +kernel
theorem dX12_of_20 : decode cX12_of 20 = .ok (.ifCond .ne 5, 3) := by decide +kernel
theorem dX12_of_23 : decode cX12_of 23 = .ok (.iconst (-1), 1) := by decide +kernel
theorem dX12_of_24 : decode cX12_of 24 = .ok (.ireturn, 1) := by decide +kernel
theorem dX12_of_25 : decode cX12_of 25 = .ok (.iload_n 2, 1) := by decide +kernel
theorem dX12_of_26 : decode cX12_of 26 = .ok (.iconst 2, 1) := by decide +kernel
theorem dX12_of_27 : decode cX12_of 27 = .ok (.if_icmp .ne 26, 3) := by decide +kernel
theorem dX12_of_30 : decode cX12_of 30 = .ok (.aload_n 0, 1) := by decide +kernel
theorem dX12_of_31 : decode cX12_of 31 = .ok (.getfield 35, 3) := by decide +kernel
theorem dX12_of_34 : decode cX12_of 34 = .ok (.iload_n 1, 1) := by decide +kernel
theorem dX12_of_35 : decode cX12_of 35 = .ok (.baload, 1) := by decide +kernel
theorem dX12_of_36 : decode cX12_of 36 = .ok (.ifCond .eq 15, 3) := by decide +kernel
theorem dX12_of_39 : decode cX12_of 39 = .ok (.aload_n 0, 1) := by decide +kernel
theorem dX12_of_40 : decode cX12_of 40 = .ok (.getfield 32, 3) := by decide +kernel
theorem dX12_of_43 : decode cX12_of 43 = .ok (.bipush 6, 2) := by decide +kernel
theorem dX12_of_45 : decode cX12_of 45 = .ok (.iload_n 1, 1) := by decide +kernel
theorem dX12_of_46 : decode cX12_of 46 = .ok (.imul, 1) := by decide +kernel
theorem dX12_of_47 : decode cX12_of 47 = .ok (.iaload, 1) := by decide +kernel
theorem dX12_of_48 : decode cX12_of 48 = .ok (.goto 4, 3) := by decide +kernel
theorem dX12_of_51 : decode cX12_of 51 = .ok (.iconst (-1), 1) := by decide +kernel
theorem dX12_of_52 : decode cX12_of 52 = .ok (.ireturn, 1) := by decide +kernel
theorem dX12_of_53 : decode cX12_of 53 = .ok (.aload_n 0, 1) := by decide +kernel
theorem dX12_of_54 : decode cX12_of 54 = .ok (.invokevirtual 148, 3) := by decide +kernel
theorem dX12_of_57 : decode cX12_of 57 = .ok (.aload_n 0, 1) := by decide +kernel
theorem dX12_of_58 : decode cX12_of 58 = .ok (.aload_n 0, 1) := by decide +kernel
theorem dX12_of_59 : decode cX12_of 59 = .ok (.getfield 135, 3) := by decide +kernel
theorem dX12_of_62 : decode cX12_of 62 = .ok (.iload_n 1, 1) := by decide +kernel
theorem dX12_of_63 : decode cX12_of 63 = .ok (.invokevirtual 151, 3) := by decide +kernel
theorem dX12_of_66 : decode cX12_of 66 = .ok (.ifCond .ne 5, 3) := by decide +kernel
theorem dX12_of_69 : decode cX12_of 69 = .ok (.iconst (-1), 1) := by decide +kernel
theorem dX12_of_70 : decode cX12_of 70 = .ok (.ireturn, 1) := by decide +kernel
theorem dX12_of_71 : decode cX12_of 71 = .ok (.iload_n 2, 1) := by decide +kernel
theorem dX12_of_72 : decode cX12_of 72 = .ok (.ifCond .ne 12, 3) := by decide +kernel
theorem dX12_of_75 : decode cX12_of 75 = .ok (.aload_n 0, 1) := by decide +kernel
theorem dX12_of_76 : decode cX12_of 76 = .ok (.getfield 39, 3) := by decide +kernel
theorem dX12_of_79 : decode cX12_of 79 = .ok (.iload_n 1, 1) := by decide +kernel
theorem dX12_of_80 : decode cX12_of 80 = .ok (.iaload, 1) := by decide +kernel
theorem dX12_of_81 : decode cX12_of 81 = .ok (.goto 9, 3) := by decide +kernel
theorem dX12_of_84 : decode cX12_of 84 = .ok (.aload_n 0, 1) := by decide +kernel
theorem dX12_of_85 : decode cX12_of 85 = .ok (.getfield 42, 3) := by decide +kernel
theorem dX12_of_88 : decode cX12_of 88 = .ok (.iload_n 1, 1) := by decide +kernel
theorem dX12_of_89 : decode cX12_of 89 = .ok (.iaload, 1) := by decide +kernel
theorem dX12_of_90 : decode cX12_of 90 = .ok (.ireturn, 1) := by decide +kernel
set_option maxRecDepth 20000 in
theorem ggX12_blocsIn_X12_isOf : GoodIn wsX12_blocsIn wsX12_isOf := goodIn_r _ [8] (by decide +kernel) (by decide +kernel)
set_option maxRecDepth 20000 in
theorem gX12_blocsIn_X12_isOf : GoodIn wsX12_blocsIn (wsV RX12 151 RX12 yX12_isOf wsX12_isOf) := goodIn_app (goodIn_of _ (by decide +kernel)) ggX12_blocsIn_X12_isOf
theorem dX12_blocsIn_0 : decode cX12_blocsIn 0 = .ok (.iconst 0, 1) := by decide +kernel
theorem dX12_blocsIn_1 : decode cX12_blocsIn 1 = .ok (.istore_n 1, 1) := by decide +kernel
theorem dX12_blocsIn_2 : decode cX12_blocsIn 2 = .ok (.iconst 0, 1) := by decide +kernel
theorem dX12_blocsIn_3 : decode cX12_blocsIn 3 = .ok (.istore_n 2, 1) := by decide +kernel
theorem dX12_blocsIn_4 : decode cX12_blocsIn 4 = .ok (.iload_n 2, 1) := by decide +kernel
theorem dX12_blocsIn_5 : decode cX12_blocsIn 5 = .ok (.aload_n 0, 1) := by decide +kernel
theorem dX12_blocsIn_6 : decode cX12_blocsIn 6 = .ok (.getfield 118, 3) := by decide +kernel
theorem dX12_blocsIn_9 : decode cX12_blocsIn 9 = .ok (.if_icmp .ge 32, 3) := by decide +kernel
theorem dX12_blocsIn_12 : decode cX12_blocsIn 12 = .ok (.aload_n 0, 1) := by decide +kernel
theorem dX12_blocsIn_13 : decode cX12_blocsIn 13 = .ok (.aload_n 0, 1) := by decide +kernel
theorem dX12_blocsIn_14 : decode cX12_blocsIn 14 = .ok (.getfield 135, 3) := by decide +kernel
theorem dX12_blocsIn_17 : decode cX12_blocsIn 17 = .ok (.iload_n 2, 1) := by decide +kernel
theorem dX12_blocsIn_18 : decode cX12_blocsIn 18 = .ok (.invokevirtual 151, 3) := by decide +kernel
theorem dX12_blocsIn_21 : decode cX12_blocsIn 21 = .ok (.ifCond .eq 14, 3) := by decide +kernel
theorem dX12_blocsIn_24 : decode cX12_blocsIn 24 = .ok (.iload_n 1, 1) := by decide +kernel
theorem dX12_blocsIn_25 : decode cX12_blocsIn 25 = .ok (.iconst 1, 1) := by decide +kernel
theorem dX12_blocsIn_26 : decode cX12_blocsIn 26 = .ok (.aload_n 0, 1) := by decide +kernel
theorem dX12_blocsIn_27 : decode cX12_blocsIn 27 = .ok (.getfield 42, 3) := by decide +kernel
theorem dX12_blocsIn_30 : decode cX12_blocsIn 30 = .ok (.iload_n 2, 1) := by decide +kernel
theorem dX12_blocsIn_31 : decode cX12_blocsIn 31 = .ok (.iaload, 1) := by decide +kernel
theorem dX12_blocsIn_32 : decode cX12_blocsIn 32 = .ok (.ishl, 1) := by decide +kernel
theorem dX12_blocsIn_33 : decode cX12_blocsIn 33 = .ok (.ior, 1) := by decide +kernel
theorem dX12_blocsIn_34 : decode cX12_blocsIn 34 = .ok (.istore_n 1, 1) := by decide +kernel
theorem dX12_blocsIn_35 : decode cX12_blocsIn 35 = .ok (.iinc 2 1, 3) := by decide +kernel
theorem dX12_blocsIn_38 : decode cX12_blocsIn 38 = .ok (.goto (-34), 3) := by decide +kernel
theorem dX12_blocsIn_41 : decode cX12_blocsIn 41 = .ok (.iload_n 1, 1) := by decide +kernel
theorem dX12_blocsIn_42 : decode cX12_blocsIn 42 = .ok (.ireturn, 1) := by decide +kernel
set_option maxRecDepth 20000 in
theorem ggX12_look_X12_findsView : GoodIn wsX12_look wsX12_findsView := goodIn_r _ [11, 5, 6, 12, 13, 14, 10, 15, 3, 16, 17, 2, 4, 18, 19, 20, 21, 22, 23, 24, 33, 34, 35, 36, 37, 38, 39, 40, 41, 42, 43, 44, 45, 46, 47, 48, 49, 50, 51, 52, 53, 54, 55, 56, 57, 58, 59, 60, 61, 62, 63, 64, 65, 66, 67, 68, 69, 70, 71, 72, 73, 74, 75, 76, 77, 78, 79, 80, 81, 82, 83, 84] (by decide +kernel) (by decide +kernel)
set_option maxRecDepth 20000 in
theorem gX12_look_X12_findsView : GoodIn wsX12_look (wsV RX12 148 RX12 yX12_findsView wsX12_findsView) := goodIn_app (goodIn_of _ (by decide +kernel)) ggX12_look_X12_findsView
set_option maxRecDepth 20000 in
theorem ggX12_look_X12_blocsIn : GoodIn wsX12_look wsX12_blocsIn := goodIn_r _ [28, 2, 3, 21, 29, 30, 31, 10, 32, 33, 34, 35, 36, 37, 38, 39, 40, 41, 42, 43, 44, 45, 46, 47, 48, 49, 50, 51, 52, 53, 54, 55, 56, 57, 58, 59, 60, 61, 62, 63, 64, 65, 66, 67, 68, 69, 70, 71, 72, 73, 74, 75, 76, 77, 78, 79, 80, 81, 82, 83, 84] (by decide +kernel) (by decide +kernel)
set_option maxRecDepth 20000 in
theorem gX12_look_X12_blocsIn : GoodIn wsX12_look (wsV RX12 155 RX12 yX12_blocsIn wsX12_blocsIn) := goodIn_app (goodIn_of _ (by decide +kernel)) ggX12_look_X12_blocsIn
theorem dX12_look_0 : decode cX12_look 0 = .ok (.aload_n 0, 1) := by decide +kernel
theorem dX12_look_1 : decode cX12_look 1 = .ok (.iconst 0, 1) := by decide +kernel
theorem dX12_look_2 : decode cX12_look 2 = .ok (.putfield 115, 3) := by decide +kernel
theorem dX12_look_5 : decode cX12_look 5 = .ok (.aload_n 0, 1) := by decide +kernel
theorem dX12_look_6 : decode cX12_look 6 = .ok (.invokevirtual 148, 3) := by decide +kernel
theorem dX12_look_9 : decode cX12_look 9 = .ok (.iload_n 1, 1) := by decide +kernel
theorem dX12_look_10 : decode cX12_look 10 = .ok (.ifCond .ne 8, 3) := by decide +kernel
theorem dX12_look_13 : decode cX12_look 13 = .ok (.aload_n 0, 1) := by decide +kernel
theorem dX12_look_14 : decode cX12_look 14 = .ok (.getfield 118, 3) := by decide +kernel
theorem dX12_look_17 : decode cX12_look 17 = .ok (.ireturn, 1) := by decide +kernel
theorem dX12_look_18 : decode cX12_look 18 = .ok (.iload_n 1, 1) := by decide +kernel
theorem dX12_look_19 : decode cX12_look 19 = .ok (.iconst 1, 1) := by decide +kernel
theorem dX12_look_20 : decode cX12_look 20 = .ok (.if_icmp .ne 8, 3) := by decide +kernel
theorem dX12_look_23 : decode cX12_look 23 = .ok (.aload_n 0, 1) := by decide +kernel
theorem dX12_look_24 : decode cX12_look 24 = .ok (.getfield 135, 3) := by decide +kernel
theorem dX12_look_27 : decode cX12_look 27 = .ok (.ireturn, 1) := by decide +kernel
theorem dX12_look_28 : decode cX12_look 28 = .ok (.iload_n 1, 1) := by decide +kernel
theorem dX12_look_29 : decode cX12_look 29 = .ok (.iconst 2, 1) := by decide +kernel
theorem dX12_look_30 : decode cX12_look 30 = .ok (.if_icmp .ne 8, 3) := by decide +kernel
theorem dX12_look_33 : decode cX12_look 33 = .ok (.aload_n 0, 1) := by decide +kernel
theorem dX12_look_34 : decode cX12_look 34 = .ok (.getfield 132, 3) := by decide +kernel
theorem dX12_look_37 : decode cX12_look 37 = .ok (.ireturn, 1) := by decide +kernel
theorem dX12_look_38 : decode cX12_look 38 = .ok (.iload_n 1, 1) := by decide +kernel
theorem dX12_look_39 : decode cX12_look 39 = .ok (.iconst 3, 1) := by decide +kernel
theorem dX12_look_40 : decode cX12_look 40 = .ok (.if_icmp .ne 8, 3) := by decide +kernel
theorem dX12_look_43 : decode cX12_look 43 = .ok (.aload_n 0, 1) := by decide +kernel
theorem dX12_look_44 : decode cX12_look 44 = .ok (.invokevirtual 155, 3) := by decide +kernel
theorem dX12_look_47 : decode cX12_look 47 = .ok (.ireturn, 1) := by decide +kernel
theorem dX12_look_48 : decode cX12_look 48 = .ok (.iload_n 1, 1) := by decide +kernel
theorem dX12_look_49 : decode cX12_look 49 = .ok (.iconst 4, 1) := by decide +kernel
theorem dX12_look_50 : decode cX12_look 50 = .ok (.if_icmp .ne 8, 3) := by decide +kernel
theorem dX12_look_53 : decode cX12_look 53 = .ok (.aload_n 0, 1) := by decide +kernel
theorem dX12_look_54 : decode cX12_look 54 = .ok (.getfield 25, 3) := by decide +kernel
theorem dX12_look_57 : decode cX12_look 57 = .ok (.ireturn, 1) := by decide +kernel
theorem dX12_look_58 : decode cX12_look 58 = .ok (.iload_n 1, 1) := by decide +kernel
theorem dX12_look_59 : decode cX12_look 59 = .ok (.iconst 5, 1) := by decide +kernel
theorem dX12_look_60 : decode cX12_look 60 = .ok (.if_icmp .ne 10, 3) := by decide +kernel
theorem dX12_look_63 : decode cX12_look 63 = .ok (.aload_n 0, 1) := by decide +kernel
theorem dX12_look_64 : decode cX12_look 64 = .ok (.getfield 29, 3) := by decide +kernel
theorem dX12_look_67 : decode cX12_look 67 = .ok (.goto 4, 3) := by decide +kernel
theorem dX12_look_70 : decode cX12_look 70 = .ok (.iconst (-1), 1) := by decide +kernel
theorem dX12_look_71 : decode cX12_look 71 = .ok (.ireturn, 1) := by decide +kernel
theorem dX12_puts_0 : decode cX12_puts 0 = .ok (.bipush 24, 2) := by decide +kernel
theorem dX12_puts_2 : decode cX12_puts 2 = .ok (.istore_n 2, 1) := by decide +kernel
theorem dX12_puts_3 : decode cX12_puts 3 = .ok (.iload_n 2, 1) := by decide +kernel
theorem dX12_puts_4 : decode cX12_puts 4 = .ok (.ifCond .lt 35, 3) := by decide +kernel
theorem dX12_puts_7 : decode cX12_puts 7 = .ok (.aload_n 0, 1) := by decide +kernel
theorem dX12_puts_8 : decode cX12_puts 8 = .ok (.getfield 45, 3) := by decide +kernel
theorem dX12_puts_11 : decode cX12_puts 11 = .ok (.aload_n 0, 1) := by decide +kernel
theorem dX12_puts_12 : decode cX12_puts 12 = .ok (.getfield 159, 3) := by decide +kernel
theorem dX12_puts_15 : decode cX12_puts 15 = .ok (.iload_n 1, 1) := by decide +kernel
theorem dX12_puts_16 : decode cX12_puts 16 = .ok (.iload_n 2, 1) := by decide +kernel
theorem dX12_puts_17 : decode cX12_puts 17 = .ok (.ishr, 1) := by decide +kernel
theorem dX12_puts_18 : decode cX12_puts 18 = .ok (.sipush 255, 3) := by decide +kernel
theorem dX12_puts_21 : decode cX12_puts 21 = .ok (.iand, 1) := by decide +kernel
theorem dX12_puts_22 : decode cX12_puts 22 = .ok (.iastore, 1) := by decide +kernel
theorem dX12_puts_23 : decode cX12_puts 23 = .ok (.aload_n 0, 1) := by decide +kernel
theorem dX12_puts_24 : decode cX12_puts 24 = .ok (.aload_n 0, 1) := by decide +kernel
theorem dX12_puts_25 : decode cX12_puts 25 = .ok (.getfield 159, 3) := by decide +kernel
theorem dX12_puts_28 : decode cX12_puts 28 = .ok (.iconst 1, 1) := by decide +kernel
theorem dX12_puts_29 : decode cX12_puts 29 = .ok (.iadd, 1) := by decide +kernel
theorem dX12_puts_30 : decode cX12_puts 30 = .ok (.putfield 159, 3) := by decide +kernel
theorem dX12_puts_33 : decode cX12_puts 33 = .ok (.iinc 2 (-8), 3) := by decide +kernel
theorem dX12_puts_36 : decode cX12_puts 36 = .ok (.goto (-33), 3) := by decide +kernel
theorem dX12_puts_39 : decode cX12_puts 39 = .ok (.return_, 1) := by decide +kernel
set_option maxRecDepth 20000 in
theorem ggX12_feed_X12_puts : GoodIn wsX12_feed wsX12_puts := goodIn_r _ [7, 8, 2, 9, 10, 11, 12, 13, 14, 15, 16, 17, 18, 19, 20, 21, 22, 23, 24, 25, 26, 27, 28, 29, 30, 31, 32, 33, 34, 35, 36, 37, 38, 39, 40, 41, 42, 43, 44, 45, 46, 47, 48, 49, 50, 51, 52, 53, 54, 55, 56, 57, 58, 59, 60] (by decide +kernel) (by decide +kernel)
set_option maxRecDepth 20000 in
theorem gX12_feed_X12_puts : GoodIn wsX12_feed (wsV RX12 162 RX12 yX12_puts wsX12_puts) := goodIn_app (goodIn_of _ (by decide +kernel)) ggX12_feed_X12_puts
theorem dX12_feed_0 : decode cX12_feed 0 = .ok (.aload_n 0, 1) := by decide +kernel
theorem dX12_feed_1 : decode cX12_feed 1 = .ok (.iconst 0, 1) := by decide +kernel
theorem dX12_feed_2 : decode cX12_feed 2 = .ok (.putfield 115, 3) := by decide +kernel
theorem dX12_feed_5 : decode cX12_feed 5 = .ok (.aload_n 0, 1) := by decide +kernel
theorem dX12_feed_6 : decode cX12_feed 6 = .ok (.getfield 159, 3) := by decide +kernel
theorem dX12_feed_9 : decode cX12_feed 9 = .ok (.sipush 380, 3) := by decide +kernel
theorem dX12_feed_12 : decode cX12_feed 12 = .ok (.if_icmp .le 5, 3) := by decide +kernel
theorem dX12_feed_15 : decode cX12_feed 15 = .ok (.iconst (-1), 1) := by decide +kernel
theorem dX12_feed_16 : decode cX12_feed 16 = .ok (.ireturn, 1) := by decide +kernel
theorem dX12_feed_17 : decode cX12_feed 17 = .ok (.aload_n 0, 1) := by decide +kernel
theorem dX12_feed_18 : decode cX12_feed 18 = .ok (.iload_n 1, 1) := by decide +kernel
theorem dX12_feed_19 : decode cX12_feed 19 = .ok (.invokevirtual 162, 3) := by decide +kernel
theorem dX12_feed_22 : decode cX12_feed 22 = .ok (.aload_n 0, 1) := by decide +kernel
theorem dX12_feed_23 : decode cX12_feed 23 = .ok (.iload_n 2, 1) := by decide +kernel
theorem dX12_feed_24 : decode cX12_feed 24 = .ok (.invokevirtual 162, 3) := by decide +kernel
theorem dX12_feed_27 : decode cX12_feed 27 = .ok (.aload_n 0, 1) := by decide +kernel
theorem dX12_feed_28 : decode cX12_feed 28 = .ok (.iload_n 3, 1) := by decide +kernel
theorem dX12_feed_29 : decode cX12_feed 29 = .ok (.invokevirtual 162, 3) := by decide +kernel
theorem dX12_feed_32 : decode cX12_feed 32 = .ok (.aload_n 0, 1) := by decide +kernel
theorem dX12_feed_33 : decode cX12_feed 33 = .ok (.iload 4, 2) := by decide +kernel
theorem dX12_feed_35 : decode cX12_feed 35 = .ok (.invokevirtual 162, 3) := by decide +kernel
theorem dX12_feed_38 : decode cX12_feed 38 = .ok (.aload_n 0, 1) := by decide +kernel
theorem dX12_feed_39 : decode cX12_feed 39 = .ok (.iload 5, 2) := by decide +kernel
theorem dX12_feed_41 : decode cX12_feed 41 = .ok (.invokevirtual 162, 3) := by decide +kernel
theorem dX12_feed_44 : decode cX12_feed 44 = .ok (.aload_n 0, 1) := by decide +kernel
theorem dX12_feed_45 : decode cX12_feed 45 = .ok (.getfield 159, 3) := by decide +kernel
theorem dX12_feed_48 : decode cX12_feed 48 = .ok (.ireturn, 1) := by decide +kernel
set_option maxRecDepth 20000 in
theorem ggX12_end_X12_isIn : GoodIn wsX12_end wsX12_isIn := goodIn_r _ [7] (by decide +kernel) (by decide +kernel)
set_option maxRecDepth 20000 in
theorem gX12_end_X12_isIn : GoodIn wsX12_end (wsV RX12 121 RX12 yX12_isIn wsX12_isIn) := goodIn_app (goodIn_of _ (by decide +kernel)) ggX12_end_X12_isIn
theorem dX12_end_0 : decode cX12_end 0 = .ok (.aload_n 0, 1) := by decide +kernel
theorem dX12_end_1 : decode cX12_end 1 = .ok (.iconst 0, 1) := by decide +kernel
theorem dX12_end_2 : decode cX12_end 2 = .ok (.putfield 115, 3) := by decide +kernel
theorem dX12_end_5 : decode cX12_end 5 = .ok (.aload_n 0, 1) := by decide +kernel
theorem dX12_end_6 : decode cX12_end 6 = .ok (.iload_n 1, 1) := by decide +kernel
theorem dX12_end_7 : decode cX12_end 7 = .ok (.iconst 0, 1) := by decide +kernel
theorem dX12_end_8 : decode cX12_end 8 = .ok (.aload_n 0, 1) := by decide +kernel
theorem dX12_end_9 : decode cX12_end 9 = .ok (.getfield 159, 3) := by decide +kernel
theorem dX12_end_12 : decode cX12_end 12 = .ok (.invokevirtual 121, 3) := by decide +kernel
theorem dX12_end_15 : decode cX12_end 15 = .ok (.ifCond .ne 5, 3) := by decide +kernel
theorem dX12_end_18 : decode cX12_end 18 = .ok (.iconst 0, 1) := by decide +kernel
theorem dX12_end_19 : decode cX12_end 19 = .ok (.ireturn, 1) := by decide +kernel
theorem dX12_end_20 : decode cX12_end 20 = .ok (.aload_n 0, 1) := by decide +kernel
theorem dX12_end_21 : decode cX12_end 21 = .ok (.iload_n 1, 1) := by decide +kernel
theorem dX12_end_22 : decode cX12_end 22 = .ok (.putfield 159, 3) := by decide +kernel
theorem dX12_end_25 : decode cX12_end 25 = .ok (.iconst 1, 1) := by decide +kernel
theorem dX12_end_26 : decode cX12_end 26 = .ok (.ireturn, 1) := by decide +kernel
theorem dX12_raw_0 : decode cX12_raw 0 = .ok (.iload_n 1, 1) := by decide +kernel
theorem dX12_raw_1 : decode cX12_raw 1 = .ok (.aload_n 0, 1) := by decide +kernel
theorem dX12_raw_2 : decode cX12_raw 2 = .ok (.getfield 159, 3) := by decide +kernel
theorem dX12_raw_5 : decode cX12_raw 5 = .ok (.if_icmp .ge 12, 3) := by decide +kernel
theorem dX12_raw_8 : decode cX12_raw 8 = .ok (.aload_n 0, 1) := by decide +kernel
theorem dX12_raw_9 : decode cX12_raw 9 = .ok (.getfield 45, 3) := by decide +kernel
theorem dX12_raw_12 : decode cX12_raw 12 = .ok (.iload_n 1, 1) := by decide +kernel
theorem dX12_raw_13 : decode cX12_raw 13 = .ok (.iaload, 1) := by decide +kernel
theorem dX12_raw_14 : decode cX12_raw 14 = .ok (.goto 4, 3) := by decide +kernel
theorem dX12_raw_17 : decode cX12_raw 17 = .ok (.iconst (-1), 1) := by decide +kernel
theorem dX12_raw_18 : decode cX12_raw 18 = .ok (.ireturn, 1) := by decide +kernel
set_option maxRecDepth 20000 in
theorem ggX12_isLetter_X12_isIn : GoodIn wsX12_isLetter wsX12_isIn := goodIn_r _ [5] (by decide +kernel) (by decide +kernel)
set_option maxRecDepth 20000 in
theorem gX12_isLetter_X12_isIn : GoodIn wsX12_isLetter (wsV RX12 121 RX12 yX12_isIn wsX12_isIn) := goodIn_app (goodIn_of _ (by decide +kernel)) ggX12_isLetter_X12_isIn
theorem dX12_isLetter_0 : decode cX12_isLetter 0 = .ok (.aload_n 0, 1) := by decide +kernel
theorem dX12_isLetter_1 : decode cX12_isLetter 1 = .ok (.iload_n 1, 1) := by decide +kernel
theorem dX12_isLetter_2 : decode cX12_isLetter 2 = .ok (.bipush 97, 2) := by decide +kernel
theorem dX12_isLetter_4 : decode cX12_isLetter 4 = .ok (.bipush 122, 2) := by decide +kernel
theorem dX12_isLetter_6 : decode cX12_isLetter 6 = .ok (.invokevirtual 121, 3) := by decide +kernel
theorem dX12_isLetter_9 : decode cX12_isLetter 9 = .ok (.ifCond .ne 15, 3) := by decide +kernel
theorem dX12_isLetter_12 : decode cX12_isLetter 12 = .ok (.aload_n 0, 1) := by decide +kernel
theorem dX12_isLetter_13 : decode cX12_isLetter 13 = .ok (.iload_n 1, 1) := by decide +kernel
theorem dX12_isLetter_14 : decode cX12_isLetter 14 = .ok (.bipush 65, 2) := by decide +kernel
theorem dX12_isLetter_16 : decode cX12_isLetter 16 = .ok (.bipush 90, 2) := by decide +kernel
theorem dX12_isLetter_18 : decode cX12_isLetter 18 = .ok (.invokevirtual 121, 3) := by decide +kernel
theorem dX12_isLetter_21 : decode cX12_isLetter 21 = .ok (.ifCond .eq 7, 3) := by decide +kernel
theorem dX12_isLetter_24 : decode cX12_isLetter 24 = .ok (.iconst 1, 1) := by decide +kernel
theorem dX12_isLetter_25 : decode cX12_isLetter 25 = .ok (.goto 4, 3) := by decide +kernel
theorem dX12_isLetter_28 : decode cX12_isLetter 28 = .ok (.iconst 0, 1) := by decide +kernel
theorem dX12_isLetter_29 : decode cX12_isLetter 29 = .ok (.ireturn, 1) := by decide +kernel
set_option maxRecDepth 20000 in
theorem ggX12_isDigit_X12_isIn : GoodIn wsX12_isDigit wsX12_isIn := goodIn_r _ [5] (by decide +kernel) (by decide +kernel)
set_option maxRecDepth 20000 in
theorem gX12_isDigit_X12_isIn : GoodIn wsX12_isDigit (wsV RX12 121 RX12 yX12_isIn wsX12_isIn) := goodIn_app (goodIn_of _ (by decide +kernel)) ggX12_isDigit_X12_isIn
theorem dX12_isDigit_0 : decode cX12_isDigit 0 = .ok (.aload_n 0, 1) := by decide +kernel
theorem dX12_isDigit_1 : decode cX12_isDigit 1 = .ok (.iload_n 1, 1) := by decide +kernel
theorem dX12_isDigit_2 : decode cX12_isDigit 2 = .ok (.bipush 48, 2) := by decide +kernel
theorem dX12_isDigit_4 : decode cX12_isDigit 4 = .ok (.bipush 57, 2) := by decide +kernel
theorem dX12_isDigit_6 : decode cX12_isDigit 6 = .ok (.invokevirtual 121, 3) := by decide +kernel
theorem dX12_isDigit_9 : decode cX12_isDigit 9 = .ok (.ireturn, 1) := by decide +kernel
theorem dX12_isMarkSign_0 : decode cX12_isMarkSign 0 = .ok (.iload_n 1, 1) := by decide +kernel
theorem dX12_isMarkSign_1 : decode cX12_isMarkSign 1 = .ok (.bipush 59, 2) := by decide +kernel
theorem dX12_isMarkSign_3 : decode cX12_isMarkSign 3 = .ok (.if_icmp .eq 51, 3) := by decide +kernel
theorem dX12_isMarkSign_6 : decode cX12_isMarkSign 6 = .ok (.iload_n 1, 1) := by decide +kernel
theorem dX12_isMarkSign_7 : decode cX12_isMarkSign 7 = .ok (.bipush 43, 2) := by decide +kernel
theorem dX12_isMarkSign_9 : decode cX12_isMarkSign 9 = .ok (.if_icmp .eq 45, 3) := by decide +kernel
theorem dX12_isMarkSign_12 : decode cX12_isMarkSign 12 = .ok (.iload_n 1, 1) := by decide +kernel
theorem dX12_isMarkSign_13 : decode cX12_isMarkSign 13 = .ok (.bipush 45, 2) := by decide +kernel
theorem dX12_isMarkSign_15 : decode cX12_isMarkSign 15 = .ok (.if_icmp .eq 39, 3) := by decide +kernel
theorem dX12_isMarkSign_18 : decode cX12_isMarkSign 18 = .ok (.iload_n 1, 1) := by decide +kernel
theorem dX12_isMarkSign_19 : decode cX12_isMarkSign 19 = .ok (.bipush 42, 2) := by decide +kernel
theorem dX12_isMarkSign_21 : decode cX12_isMarkSign 21 = .ok (.if_icmp .eq 33, 3) := by decide +kernel
theorem dX12_isMarkSign_24 : decode cX12_isMarkSign 24 = .ok (.iload_n 1, 1) := by decide +kernel
theorem dX12_isMarkSign_25 : decode cX12_isMarkSign 25 = .ok (.bipush 40, 2) := by decide +kernel
theorem dX12_isMarkSign_27 : decode cX12_isMarkSign 27 = .ok (.if_icmp .eq 27, 3) := by decide +kernel
theorem dX12_isMarkSign_30 : decode cX12_isMarkSign 30 = .ok (.iload_n 1, 1) := by decide +kernel
theorem dX12_isMarkSign_31 : decode cX12_isMarkSign 31 = .ok (.bipush 41, 2) := by decide +kernel
theorem dX12_isMarkSign_33 : decode cX12_isMarkSign 33 = .ok (.if_icmp .eq 21, 3) := by decide +kernel
theorem dX12_isMarkSign_36 : decode cX12_isMarkSign 36 = .ok (.iload_n 1, 1) := by decide +kernel
theorem dX12_isMarkSign_37 : decode cX12_isMarkSign 37 = .ok (.bipush 60, 2) := by decide +kernel
theorem dX12_isMarkSign_39 : decode cX12_isMarkSign 39 = .ok (.if_icmp .eq 15, 3) := by decide +kernel
theorem dX12_isMarkSign_42 : decode cX12_isMarkSign 42 = .ok (.iload_n 1, 1) := by decide +kernel
theorem dX12_isMarkSign_43 : decode cX12_isMarkSign 43 = .ok (.bipush 61, 2) := by decide +kernel
theorem dX12_isMarkSign_45 : decode cX12_isMarkSign 45 = .ok (.if_icmp .eq 9, 3) := by decide +kernel
theorem dX12_isMarkSign_48 : decode cX12_isMarkSign 48 = .ok (.iload_n 1, 1) := by decide +kernel
theorem dX12_isMarkSign_49 : decode cX12_isMarkSign 49 = .ok (.bipush 62, 2) := by decide +kernel
theorem dX12_isMarkSign_51 : decode cX12_isMarkSign 51 = .ok (.if_icmp .ne 7, 3) := by decide +kernel
theorem dX12_isMarkSign_54 : decode cX12_isMarkSign 54 = .ok (.iconst 1, 1) := by decide +kernel
theorem dX12_isMarkSign_55 : decode cX12_isMarkSign 55 = .ok (.goto 4, 3) := by decide +kernel
theorem dX12_isMarkSign_58 : decode cX12_isMarkSign 58 = .ok (.iconst 0, 1) := by decide +kernel
theorem dX12_isMarkSign_59 : decode cX12_isMarkSign 59 = .ok (.ireturn, 1) := by decide +kernel
theorem dX12_wordAt_0 : decode cX12_wordAt 0 = .ok (.iconst (-1), 1) := by decide +kernel
theorem dX12_wordAt_1 : decode cX12_wordAt 1 = .ok (.istore_n 3, 1) := by decide +kernel
theorem dX12_wordAt_2 : decode cX12_wordAt 2 = .ok (.iconst 0, 1) := by decide +kernel
theorem dX12_wordAt_3 : decode cX12_wordAt 3 = .ok (.istore 4, 2) := by decide +kernel
theorem dX12_wordAt_5 : decode cX12_wordAt 5 = .ok (.iload 4, 2) := by decide +kernel
theorem dX12_wordAt_7 : decode cX12_wordAt 7 = .ok (.bipush 43, 2) := by decide +kernel
theorem dX12_wordAt_9 : decode cX12_wordAt 9 = .ok (.if_icmp .ge 108, 3) := by decide +kernel
theorem dX12_wordAt_12 : decode cX12_wordAt 12 = .ok (.iconst 0, 1) := by decide +kernel
theorem dX12_wordAt_13 : decode cX12_wordAt 13 = .ok (.istore 5, 2) := by decide +kernel
theorem dX12_wordAt_15 : decode cX12_wordAt 15 = .ok (.iload_n 3, 1) := by decide +kernel
theorem dX12_wordAt_16 : decode cX12_wordAt 16 = .ok (.iconst 1, 1) := by decide +kernel
theorem dX12_wordAt_17 : decode cX12_wordAt 17 = .ok (.iadd, 1) := by decide +kernel
theorem dX12_wordAt_18 : decode cX12_wordAt 18 = .ok (.istore_n 3, 1) := by decide +kernel
theorem dX12_wordAt_19 : decode cX12_wordAt 19 = .ok (.iload_n 1, 1) := by decide +kernel
theorem dX12_wordAt_20 : decode cX12_wordAt 20 = .ok (.iload 5, 2) := by decide +kernel
theorem dX12_wordAt_22 : decode cX12_wordAt 22 = .ok (.iadd, 1) := by decide +kernel
theorem dX12_wordAt_23 : decode cX12_wordAt 23 = .ok (.iload_n 2, 1) := by decide +kernel
theorem dX12_wordAt_24 : decode cX12_wordAt 24 = .ok (.if_icmp .ge 36, 3) := by decide +kernel
theorem dX12_wordAt_27 : decode cX12_wordAt 27 = .ok (.aload_n 0, 1) := by decide +kernel
theorem dX12_wordAt_28 : decode cX12_wordAt 28 = .ok (.getfield 48, 3) := by decide +kernel
theorem dX12_wordAt_31 : decode cX12_wordAt 31 = .ok (.iload 4, 2) := by decide +kernel
theorem dX12_wordAt_33 : decode cX12_wordAt 33 = .ok (.iconst 1, 1) := by decide +kernel
theorem dX12_wordAt_34 : decode cX12_wordAt 34 = .ok (.iadd, 1) := by decide +kernel
theorem dX12_wordAt_35 : decode cX12_wordAt 35 = .ok (.iload 5, 2) := by decide +kernel
theorem dX12_wordAt_37 : decode cX12_wordAt 37 = .ok (.iadd, 1) := by decide +kernel
theorem dX12_wordAt_38 : decode cX12_wordAt 38 = .ok (.iaload, 1) := by decide +kernel
theorem dX12_wordAt_39 : decode cX12_wordAt 39 = .ok (.aload_n 0, 1) := by decide +kernel
theorem dX12_wordAt_40 : decode cX12_wordAt 40 = .ok (.getfield 45, 3) := by decide +kernel
theorem dX12_wordAt_43 : decode cX12_wordAt 43 = .ok (.iload_n 1, 1) := by decide +kernel
theorem dX12_wordAt_44 : decode cX12_wordAt 44 = .ok (.iload 5, 2) := by decide +kernel
theorem dX12_wordAt_46 : decode cX12_wordAt 46 = .ok (.iadd, 1) := by decide +kernel
theorem dX12_wordAt_47 : decode cX12_wordAt 47 = .ok (.iaload, 1) := by decide +kernel
theorem dX12_wordAt_48 : decode cX12_wordAt 48 = .ok (.if_icmp .ne 12, 3) := by decide +kernel
theorem dX12_wordAt_51 : decode cX12_wordAt 51 = .ok (.iload 5, 2) := by decide +kernel
theorem dX12_wordAt_53 : decode cX12_wordAt 53 = .ok (.iconst 1, 1) := by decide +kernel
theorem dX12_wordAt_54 : decode cX12_wordAt 54 = .ok (.iadd, 1) := by decide +kernel
theorem dX12_wordAt_55 : decode cX12_wordAt 55 = .ok (.istore 5, 2) := by decide +kernel
theorem dX12_wordAt_57 : decode cX12_wordAt 57 = .ok (.goto (-38), 3) := by decide +kernel
theorem dX12_wordAt_60 : decode cX12_wordAt 60 = .ok (.iload_n 1, 1) := by decide +kernel
theorem dX12_wordAt_61 : decode cX12_wordAt 61 = .ok (.iload 5, 2) := by decide +kernel
theorem dX12_wordAt_63 : decode cX12_wordAt 63 = .ok (.iadd, 1) := by decide +kernel
theorem dX12_wordAt_64 : decode cX12_wordAt 64 = .ok (.iload_n 2, 1) := by decide +kernel
theorem dX12_wordAt_65 : decode cX12_wordAt 65 = .ok (.if_icmp .ne 22, 3) := by decide +kernel
theorem dX12_wordAt_68 : decode cX12_wordAt 68 = .ok (.aload_n 0, 1) := by decide +kernel
theorem dX12_wordAt_69 : decode cX12_wordAt 69 = .ok (.getfield 48, 3) := by decide +kernel
theorem dX12_wordAt_72 : decode cX12_wordAt 72 = .ok (.iload 4, 2) := by decide +kernel
theorem dX12_wordAt_74 : decode cX12_wordAt 74 = .ok (.iconst 1, 1) := by decide +kernel
theorem dX12_wordAt_75 : decode cX12_wordAt 75 = .ok (.iadd, 1) := by decide +kernel
theorem dX12_wordAt_76 : decode cX12_wordAt 76 = .ok (.iload 5, 2) := by decide +kernel
theorem dX12_wordAt_78 : decode cX12_wordAt 78 = .ok (.iadd, 1) := by decide +kernel
theorem dX12_wordAt_79 : decode cX12_wordAt 79 = .ok (.iaload, 1) := by decide +kernel
theorem dX12_wordAt_80 : decode cX12_wordAt 80 = .ok (.bipush 32, 2) := by decide +kernel
theorem dX12_wordAt_82 : decode cX12_wordAt 82 = .ok (.if_icmp .ne 5, 3) := by decide +kernel
theorem dX12_wordAt_85 : decode cX12_wordAt 85 = .ok (.iload_n 3, 1) := by decide +kernel
theorem dX12_wordAt_86 : decode cX12_wordAt 86 = .ok (.ireturn, 1) := by decide +kernel
theorem dX12_wordAt_87 : decode cX12_wordAt 87 = .ok (.iload 4, 2) := by decide +kernel
theorem dX12_wordAt_89 : decode cX12_wordAt 89 = .ok (.iconst 1, 1) := by decide +kernel
theorem dX12_wordAt_90 : decode cX12_wordAt 90 = .ok (.iadd, 1) := by decide +kernel
theorem dX12_wordAt_91 : decode cX12_wordAt 91 = .ok (.istore 4, 2) := by decide +kernel
theorem dX12_wordAt_93 : decode cX12_wordAt 93 = .ok (.aload_n 0, 1) := by decide +kernel
theorem dX12_wordAt_94 : decode cX12_wordAt 94 = .ok (.getfield 48, 3) := by decide +kernel
theorem dX12_wordAt_97 : decode cX12_wordAt 97 = .ok (.iload 4, 2) := by decide +kernel
theorem dX12_wordAt_99 : decode cX12_wordAt 99 = .ok (.iaload, 1) := by decide +kernel
theorem dX12_wordAt_100 : decode cX12_wordAt 100 = .ok (.bipush 32, 2) := by decide +kernel
theorem dX12_wordAt_102 : decode cX12_wordAt 102 = .ok (.if_icmp .eq 12, 3) := by decide +kernel
theorem dX12_wordAt_105 : decode cX12_wordAt 105 = .ok (.iload 4, 2) := by decide +kernel
theorem dX12_wordAt_107 : decode cX12_wordAt 107 = .ok (.iconst 1, 1) := by decide +kernel
theorem dX12_wordAt_108 : decode cX12_wordAt 108 = .ok (.iadd, 1) := by decide +kernel
theorem dX12_wordAt_109 : decode cX12_wordAt 109 = .ok (.istore 4, 2) := by decide +kernel
theorem dX12_wordAt_111 : decode cX12_wordAt 111 = .ok (.goto (-18), 3) := by decide +kernel
theorem dX12_wordAt_114 : decode cX12_wordAt 114 = .ok (.goto (-109), 3) := by decide +kernel
theorem dX12_wordAt_117 : decode cX12_wordAt 117 = .ok (.iconst (-1), 1) := by decide +kernel
theorem dX12_wordAt_118 : decode cX12_wordAt 118 = .ok (.ireturn, 1) := by decide +kernel
set_option maxRecDepth 20000 in
theorem ggX12_next_X12_raw : GoodIn wsX12_next wsX12_raw := goodIn_r _ [9, 10, 11, 33, 34, 35, 36, 37, 38, 39, 40, 41, 42, 43, 44, 45, 46, 47, 48, 49, 50, 51, 52, 53, 54, 55, 56, 57, 58, 59, 60, 61, 62, 63, 64, 65, 66, 67, 68, 69, 70, 71, 72, 73, 74, 75, 76, 77, 78, 79, 80, 81, 82, 83, 84] (by decide +kernel) (by decide +kernel)
set_option maxRecDepth 20000 in
theorem gX12_next_X12_raw : GoodIn wsX12_next (wsV RX12 169 RX12 yX12_raw wsX12_raw) := goodIn_app (goodIn_of _ (by decide +kernel)) ggX12_next_X12_raw
set_option maxRecDepth 20000 in
theorem ggX12_next_X12_isLetter : GoodIn wsX12_next wsX12_isLetter := goodIn_r _ [15, 16, 17, 18, 8, 19] (by decide +kernel) (by decide +kernel)
set_option maxRecDepth 20000 in
theorem gX12_next_X12_isLetter : GoodIn wsX12_next (wsV RX12 182 RX12 yX12_isLetter wsX12_isLetter) := goodIn_app (goodIn_of _ (by decide +kernel)) ggX12_next_X12_isLetter
set_option maxRecDepth 20000 in
theorem ggX12_next_X12_wordAt : GoodIn wsX12_next wsX12_wordAt := goodIn_r _ [23, 24, 11, 33, 34, 35, 36, 37, 38, 39, 40, 41, 42, 43, 44, 45, 46, 47, 48, 49, 50, 51, 52, 53, 54, 55, 56, 57, 58, 59, 60, 61, 62, 63, 64, 65, 66, 67, 68, 69, 70, 71, 72, 73, 74, 75, 76, 77, 78, 79, 80, 81, 82, 83, 84] (by decide +kernel) (by decide +kernel)
set_option maxRecDepth 20000 in
theorem gX12_next_X12_wordAt : GoodIn wsX12_next (wsV RX12 185 RX12 yX12_wordAt wsX12_wordAt) := goodIn_app (goodIn_of _ (by decide +kernel)) ggX12_next_X12_wordAt
set_option maxRecDepth 20000 in
theorem ggX12_next_X12_isDigit : GoodIn wsX12_next wsX12_isDigit := goodIn_r _ [28, 16, 17, 18, 8, 19] (by decide +kernel) (by decide +kernel)
set_option maxRecDepth 20000 in
theorem gX12_next_X12_isDigit : GoodIn wsX12_next (wsV RX12 189 RX12 yX12_isDigit wsX12_isDigit) := goodIn_app (goodIn_of _ (by decide +kernel)) ggX12_next_X12_isDigit
set_option maxRecDepth 20000 in
theorem ggX12_next_X12_isMarkSign : GoodIn wsX12_next wsX12_isMarkSign := goodIn_r _ [32] (by decide +kernel) (by decide +kernel)
set_option maxRecDepth 20000 in
theorem gX12_next_X12_isMarkSign : GoodIn wsX12_next (wsV RX12 192 RX12 yX12_isMarkSign wsX12_isMarkSign) := goodIn_app (goodIn_of _ (by decide +kernel)) ggX12_next_X12_isMarkSign
theorem dX12_next_0 : decode cX12_next 0 = .ok (.aload_n 0, 1) := by decide +kernel
theorem dX12_next_1 : decode cX12_next 1 = .ok (.aload_n 0, 1) := by decide +kernel
theorem dX12_next_2 : decode cX12_next 2 = .ok (.getfield 166, 3) := by decide +kernel
theorem dX12_next_5 : decode cX12_next 5 = .ok (.invokevirtual 169, 3) := by decide +kernel
theorem dX12_next_8 : decode cX12_next 8 = .ok (.bipush 32, 2) := by decide +kernel
theorem dX12_next_10 : decode cX12_next 10 = .ok (.if_icmp .eq 16, 3) := by decide +kernel
theorem dX12_next_13 : decode cX12_next 13 = .ok (.aload_n 0, 1) := by decide +kernel
theorem dX12_next_14 : decode cX12_next 14 = .ok (.aload_n 0, 1) := by decide +kernel
theorem dX12_next_15 : decode cX12_next 15 = .ok (.getfield 166, 3) := by decide +kernel
theorem dX12_next_18 : decode cX12_next 18 = .ok (.invokevirtual 169, 3) := by decide +kernel
theorem dX12_next_21 : decode cX12_next 21 = .ok (.bipush 10, 2) := by decide +kernel
theorem dX12_next_23 : decode cX12_next 23 = .ok (.if_icmp .ne 16, 3) := by decide +kernel
theorem dX12_next_26 : decode cX12_next 26 = .ok (.aload_n 0, 1) := by decide +kernel
theorem dX12_next_27 : decode cX12_next 27 = .ok (.aload_n 0, 1) := by decide +kernel
theorem dX12_next_28 : decode cX12_next 28 = .ok (.getfield 166, 3) := by decide +kernel
theorem dX12_next_31 : decode cX12_next 31 = .ok (.iconst 1, 1) := by decide +kernel
theorem dX12_next_32 : decode cX12_next 32 = .ok (.iadd, 1) := by decide +kernel
theorem dX12_next_33 : decode cX12_next 33 = .ok (.putfield 166, 3) := by decide +kernel
theorem dX12_next_36 : decode cX12_next 36 = .ok (.goto (-36), 3) := by decide +kernel
theorem dX12_next_39 : decode cX12_next 39 = .ok (.aload_n 0, 1) := by decide +kernel
theorem dX12_next_40 : decode cX12_next 40 = .ok (.aload_n 0, 1) := by decide +kernel
theorem dX12_next_41 : decode cX12_next 41 = .ok (.getfield 166, 3) := by decide +kernel
theorem dX12_next_44 : decode cX12_next 44 = .ok (.putfield 173, 3) := by decide +kernel
theorem dX12_next_47 : decode cX12_next 47 = .ok (.aload_n 0, 1) := by decide +kernel
theorem dX12_next_48 : decode cX12_next 48 = .ok (.iconst 1, 1) := by decide +kernel
theorem dX12_next_49 : decode cX12_next 49 = .ok (.putfield 176, 3) := by decide +kernel
theorem dX12_next_52 : decode cX12_next 52 = .ok (.aload_n 0, 1) := by decide +kernel
theorem dX12_next_53 : decode cX12_next 53 = .ok (.aload_n 0, 1) := by decide +kernel
theorem dX12_next_54 : decode cX12_next 54 = .ok (.getfield 166, 3) := by decide +kernel
theorem dX12_next_57 : decode cX12_next 57 = .ok (.invokevirtual 169, 3) := by decide +kernel
theorem dX12_next_60 : decode cX12_next 60 = .ok (.istore_n 1, 1) := by decide +kernel
theorem dX12_next_61 : decode cX12_next 61 = .ok (.iload_n 1, 1) := by decide +kernel
theorem dX12_next_62 : decode cX12_next 62 = .ok (.iconst (-1), 1) := by decide +kernel
theorem dX12_next_63 : decode cX12_next 63 = .ok (.if_icmp .ne 9, 3) := by decide +kernel
theorem dX12_next_66 : decode cX12_next 66 = .ok (.aload_n 0, 1) := by decide +kernel
theorem dX12_next_67 : decode cX12_next 67 = .ok (.iconst 0, 1) := by decide +kernel
theorem dX12_next_68 : decode cX12_next 68 = .ok (.putfield 176, 3) := by decide +kernel
theorem dX12_next_71 : decode cX12_next 71 = .ok (.return_, 1) := by decide +kernel
theorem dX12_next_72 : decode cX12_next 72 = .ok (.aload_n 0, 1) := by decide +kernel
theorem dX12_next_73 : decode cX12_next 73 = .ok (.aload_n 0, 1) := by decide +kernel
theorem dX12_next_74 : decode cX12_next 74 = .ok (.getfield 166, 3) := by decide +kernel
theorem dX12_next_77 : decode cX12_next 77 = .ok (.iconst 1, 1) := by decide +kernel
theorem dX12_next_78 : decode cX12_next 78 = .ok (.iadd, 1) := by decide +kernel
theorem dX12_next_79 : decode cX12_next 79 = .ok (.putfield 166, 3) := by decide +kernel
theorem dX12_next_82 : decode cX12_next 82 = .ok (.aload_n 0, 1) := by decide +kernel
theorem dX12_next_83 : decode cX12_next 83 = .ok (.iload_n 1, 1) := by decide +kernel
theorem dX12_next_84 : decode cX12_next 84 = .ok (.putfield 179, 3) := by decide +kernel
theorem dX12_next_87 : decode cX12_next 87 = .ok (.aload_n 0, 1) := by decide +kernel
theorem dX12_next_88 : decode cX12_next 88 = .ok (.iload_n 1, 1) := by decide +kernel
theorem dX12_next_89 : decode cX12_next 89 = .ok (.invokevirtual 182, 3) := by decide +kernel
theorem dX12_next_92 : decode cX12_next 92 = .ok (.ifCond .eq 63, 3) := by decide +kernel
theorem dX12_next_95 : decode cX12_next 95 = .ok (.aload_n 0, 1) := by decide +kernel
theorem dX12_next_96 : decode cX12_next 96 = .ok (.aload_n 0, 1) := by decide +kernel
theorem dX12_next_97 : decode cX12_next 97 = .ok (.aload_n 0, 1) := by decide +kernel
theorem dX12_next_98 : decode cX12_next 98 = .ok (.getfield 166, 3) := by decide +kernel
theorem dX12_next_101 : decode cX12_next 101 = .ok (.invokevirtual 169, 3) := by decide +kernel
theorem dX12_next_104 : decode cX12_next 104 = .ok (.invokevirtual 182, 3) := by decide +kernel
theorem dX12_next_107 : decode cX12_next 107 = .ok (.ifCond .eq 16, 3) := by decide +kernel
theorem dX12_next_110 : decode cX12_next 110 = .ok (.aload_n 0, 1) := by decide +kernel
theorem dX12_next_111 : decode cX12_next 111 = .ok (.aload_n 0, 1) := by decide +kernel
theorem dX12_next_112 : decode cX12_next 112 = .ok (.getfield 166, 3) := by decide +kernel
theorem dX12_next_115 : decode cX12_next 115 = .ok (.iconst 1, 1) := by decide +kernel
theorem dX12_next_116 : decode cX12_next 116 = .ok (.iadd, 1) := by decide +kernel
theorem dX12_next_117 : decode cX12_next 117 = .ok (.putfield 166, 3) := by decide +kernel
theorem dX12_next_120 : decode cX12_next 120 = .ok (.goto (-25), 3) := by decide +kernel
theorem dX12_next_123 : decode cX12_next 123 = .ok (.aload_n 0, 1) := by decide +kernel
theorem dX12_next_124 : decode cX12_next 124 = .ok (.aload_n 0, 1) := by decide +kernel
theorem dX12_next_125 : decode cX12_next 125 = .ok (.aload_n 0, 1) := by decide +kernel
theorem dX12_next_126 : decode cX12_next 126 = .ok (.getfield 173, 3) := by decide +kernel
theorem dX12_next_129 : decode cX12_next 129 = .ok (.aload_n 0, 1) := by decide +kernel
theorem dX12_next_130 : decode cX12_next 130 = .ok (.getfield 166, 3) := by decide +kernel
theorem dX12_next_133 : decode cX12_next 133 = .ok (.invokevirtual 185, 3) := by decide +kernel
theorem dX12_next_136 : decode cX12_next 136 = .ok (.putfield 179, 3) := by decide +kernel
theorem dX12_next_139 : decode cX12_next 139 = .ok (.aload_n 0, 1) := by decide +kernel
theorem dX12_next_140 : decode cX12_next 140 = .ok (.getfield 179, 3) := by decide +kernel
theorem dX12_next_143 : decode cX12_next 143 = .ok (.iconst (-1), 1) := by decide +kernel
theorem dX12_next_144 : decode cX12_next 144 = .ok (.if_icmp .eq 129, 3) := by decide +kernel
theorem dX12_next_147 : decode cX12_next 147 = .ok (.aload_n 0, 1) := by decide +kernel
theorem dX12_next_148 : decode cX12_next 148 = .ok (.iconst 2, 1) := by decide +kernel
theorem dX12_next_149 : decode cX12_next 149 = .ok (.putfield 176, 3) := by decide +kernel
theorem dX12_next_152 : decode cX12_next 152 = .ok (.goto 121, 3) := by decide +kernel
theorem dX12_next_155 : decode cX12_next 155 = .ok (.aload_n 0, 1) := by decide +kernel
theorem dX12_next_156 : decode cX12_next 156 = .ok (.iload_n 1, 1) := by decide +kernel
theorem dX12_next_157 : decode cX12_next 157 = .ok (.invokevirtual 189, 3) := by decide +kernel
theorem dX12_next_160 : decode cX12_next 160 = .ok (.ifCond .eq 100, 3) := by decide +kernel
theorem dX12_next_163 : decode cX12_next 163 = .ok (.aload_n 0, 1) := by decide +kernel
theorem dX12_next_164 : decode cX12_next 164 = .ok (.iload_n 1, 1) := by decide +kernel
theorem dX12_next_165 : decode cX12_next 165 = .ok (.bipush 48, 2) := by decide +kernel
theorem dX12_next_167 : decode cX12_next 167 = .ok (.isub, 1) := by decide +kernel
theorem dX12_next_168 : decode cX12_next 168 = .ok (.putfield 179, 3) := by decide +kernel
theorem dX12_next_171 : decode cX12_next 171 = .ok (.aload_n 0, 1) := by decide +kernel
theorem dX12_next_172 : decode cX12_next 172 = .ok (.aload_n 0, 1) := by decide +kernel
theorem dX12_next_173 : decode cX12_next 173 = .ok (.aload_n 0, 1) := by decide +kernel
theorem dX12_next_174 : decode cX12_next 174 = .ok (.getfield 166, 3) := by decide +kernel
theorem dX12_next_177 : decode cX12_next 177 = .ok (.invokevirtual 169, 3) := by decide +kernel
theorem dX12_next_180 : decode cX12_next 180 = .ok (.invokevirtual 189, 3) := by decide +kernel
theorem dX12_next_183 : decode cX12_next 183 = .ok (.ifCond .eq 56, 3) := by decide +kernel
theorem dX12_next_186 : decode cX12_next 186 = .ok (.aload_n 0, 1) := by decide +kernel
theorem dX12_next_187 : decode cX12_next 187 = .ok (.aload_n 0, 1) := by decide +kernel
theorem dX12_next_188 : decode cX12_next 188 = .ok (.getfield 179, 3) := by decide +kernel
theorem dX12_next_191 : decode cX12_next 191 = .ok (.sipush 10000, 3) := by decide +kernel
theorem dX12_next_194 : decode cX12_next 194 = .ok (.if_icmp .ge 25, 3) := by decide +kernel
theorem dX12_next_197 : decode cX12_next 197 = .ok (.bipush 10, 2) := by decide +kernel
theorem dX12_next_199 : decode cX12_next 199 = .ok (.aload_n 0, 1) := by decide +kernel
theorem dX12_next_200 : decode cX12_next 200 = .ok (.getfield 179, 3) := by decide +kernel
theorem dX12_next_203 : decode cX12_next 203 = .ok (.imul, 1) := by decide +kernel
theorem dX12_next_204 : decode cX12_next 204 = .ok (.aload_n 0, 1) := by decide +kernel
theorem dX12_next_205 : decode cX12_next 205 = .ok (.aload_n 0, 1) := by decide +kernel
theorem dX12_next_206 : decode cX12_next 206 = .ok (.getfield 166, 3) := by decide +kernel
theorem dX12_next_209 : decode cX12_next 209 = .ok (.invokevirtual 169, 3) := by decide +kernel
theorem dX12_next_212 : decode cX12_next 212 = .ok (.iadd, 1) := by decide +kernel
theorem dX12_next_213 : decode cX12_next 213 = .ok (.bipush 48, 2) := by decide +kernel
theorem dX12_next_215 : decode cX12_next 215 = .ok (.isub, 1) := by decide +kernel
theorem dX12_next_216 : decode cX12_next 216 = .ok (.goto 7, 3) := by decide +kernel
theorem dX12_next_219 : decode cX12_next 219 = .ok (.aload_n 0, 1) := by decide +kernel
theorem dX12_next_220 : decode cX12_next 220 = .ok (.getfield 179, 3) := by decide +kernel
theorem dX12_next_223 : decode cX12_next 223 = .ok (.putfield 179, 3) := by decide +kernel
theorem dX12_next_226 : decode cX12_next 226 = .ok (.aload_n 0, 1) := by decide +kernel
theorem dX12_next_227 : decode cX12_next 227 = .ok (.aload_n 0, 1) := by decide +kernel
theorem dX12_next_228 : decode cX12_next 228 = .ok (.getfield 166, 3) := by decide +kernel
theorem dX12_next_231 : decode cX12_next 231 = .ok (.iconst 1, 1) := by decide +kernel
theorem dX12_next_232 : decode cX12_next 232 = .ok (.iadd, 1) := by decide +kernel
theorem dX12_next_233 : decode cX12_next 233 = .ok (.putfield 166, 3) := by decide +kernel
theorem dX12_next_236 : decode cX12_next 236 = .ok (.goto (-65), 3) := by decide +kernel
theorem dX12_next_239 : decode cX12_next 239 = .ok (.aload_n 0, 1) := by decide +kernel
theorem dX12_next_240 : decode cX12_next 240 = .ok (.getfield 166, 3) := by decide +kernel
theorem dX12_next_243 : decode cX12_next 243 = .ok (.aload_n 0, 1) := by decide +kernel
theorem dX12_next_244 : decode cX12_next 244 = .ok (.getfield 173, 3) := by decide +kernel
theorem dX12_next_247 : decode cX12_next 247 = .ok (.isub, 1) := by decide +kernel
theorem dX12_next_248 : decode cX12_next 248 = .ok (.iconst 5, 1) := by decide +kernel
theorem dX12_next_249 : decode cX12_next 249 = .ok (.if_icmp .ge 24, 3) := by decide +kernel
theorem dX12_next_252 : decode cX12_next 252 = .ok (.aload_n 0, 1) := by decide +kernel
theorem dX12_next_253 : decode cX12_next 253 = .ok (.iconst 3, 1) := by decide +kernel
theorem dX12_next_254 : decode cX12_next 254 = .ok (.putfield 176, 3) := by decide +kernel
theorem dX12_next_257 : decode cX12_next 257 = .ok (.goto 16, 3) := by decide +kernel
theorem dX12_next_260 : decode cX12_next 260 = .ok (.aload_n 0, 1) := by decide +kernel
theorem dX12_next_261 : decode cX12_next 261 = .ok (.iload_n 1, 1) := by decide +kernel
theorem dX12_next_262 : decode cX12_next 262 = .ok (.invokevirtual 192, 3) := by decide +kernel
theorem dX12_next_265 : decode cX12_next 265 = .ok (.ifCond .eq 8, 3) := by decide +kernel
theorem dX12_next_268 : decode cX12_next 268 = .ok (.aload_n 0, 1) := by decide +kernel
theorem dX12_next_269 : decode cX12_next 269 = .ok (.iconst 4, 1) := by decide +kernel
theorem dX12_next_270 : decode cX12_next 270 = .ok (.putfield 176, 3) := by decide +kernel
theorem dX12_next_273 : decode cX12_next 273 = .ok (.return_, 1) := by decide +kernel
theorem dX12_fails_0 : decode cX12_fails 0 = .ok (.aload_n 0, 1) := by decide +kernel
theorem dX12_fails_1 : decode cX12_fails 1 = .ok (.iload_n 1, 1) := by decide +kernel
theorem dX12_fails_2 : decode cX12_fails 2 = .ok (.putfield 195, 3) := by decide +kernel
theorem dX12_fails_5 : decode cX12_fails 5 = .ok (.aload_n 0, 1) := by decide +kernel
theorem dX12_fails_6 : decode cX12_fails 6 = .ok (.aload_n 0, 1) := by decide +kernel
theorem dX12_fails_7 : decode cX12_fails 7 = .ok (.getfield 173, 3) := by decide +kernel
theorem dX12_fails_10 : decode cX12_fails 10 = .ok (.putfield 198, 3) := by decide +kernel
theorem dX12_fails_13 : decode cX12_fails 13 = .ok (.iconst (-1), 1) := by decide +kernel
theorem dX12_fails_14 : decode cX12_fails 14 = .ok (.ireturn, 1) := by decide +kernel
theorem dX12_isWord_0 : decode cX12_isWord 0 = .ok (.aload_n 0, 1) := by decide +kernel
theorem dX12_isWord_1 : decode cX12_isWord 1 = .ok (.getfield 176, 3) := by decide +kernel
theorem dX12_isWord_4 : decode cX12_isWord 4 = .ok (.iconst 2, 1) := by decide +kernel
theorem dX12_isWord_5 : decode cX12_isWord 5 = .ok (.if_icmp .ne 15, 3) := by decide +kernel
theorem dX12_isWord_8 : decode cX12_isWord 8 = .ok (.aload_n 0, 1) := by decide +kernel
theorem dX12_isWord_9 : decode cX12_isWord 9 = .ok (.getfield 179, 3) := by decide +kernel
theorem dX12_isWord_12 : decode cX12_isWord 12 = .ok (.iload_n 1, 1) := by decide +kernel
theorem dX12_isWord_13 : decode cX12_isWord 13 = .ok (.if_icmp .ne 7, 3) := by decide +kernel
theorem dX12_isWord_16 : decode cX12_isWord 16 = .ok (.iconst 1, 1) := by decide +kernel
theorem dX12_isWord_17 : decode cX12_isWord 17 = .ok (.goto 4, 3) := by decide +kernel
theorem dX12_isWord_20 : decode cX12_isWord 20 = .ok (.iconst 0, 1) := by decide +kernel
theorem dX12_isWord_21 : decode cX12_isWord 21 = .ok (.ireturn, 1) := by decide +kernel
theorem dX12_isSign_0 : decode cX12_isSign 0 = .ok (.aload_n 0, 1) := by decide +kernel
theorem dX12_isSign_1 : decode cX12_isSign 1 = .ok (.getfield 176, 3) := by decide +kernel
theorem dX12_isSign_4 : decode cX12_isSign 4 = .ok (.iconst 4, 1) := by decide +kernel
theorem dX12_isSign_5 : decode cX12_isSign 5 = .ok (.if_icmp .ne 15, 3) := by decide +kernel
theorem dX12_isSign_8 : decode cX12_isSign 8 = .ok (.aload_n 0, 1) := by decide +kernel
theorem dX12_isSign_9 : decode cX12_isSign 9 = .ok (.getfield 179, 3) := by decide +kernel
theorem dX12_isSign_12 : decode cX12_isSign 12 = .ok (.iload_n 1, 1) := by decide +kernel
theorem dX12_isSign_13 : decode cX12_isSign 13 = .ok (.if_icmp .ne 7, 3) := by decide +kernel
theorem dX12_isSign_16 : decode cX12_isSign 16 = .ok (.iconst 1, 1) := by decide +kernel
theorem dX12_isSign_17 : decode cX12_isSign 17 = .ok (.goto 4, 3) := by decide +kernel
theorem dX12_isSign_20 : decode cX12_isSign 20 = .ok (.iconst 0, 1) := by decide +kernel
theorem dX12_isSign_21 : decode cX12_isSign 21 = .ok (.ireturn, 1) := by decide +kernel
theorem dX12_emits_0 : decode cX12_emits 0 = .ok (.aload_n 0, 1) := by decide +kernel
theorem dX12_emits_1 : decode cX12_emits 1 = .ok (.getfield 54, 3) := by decide +kernel
theorem dX12_emits_4 : decode cX12_emits 4 = .ok (.sipush 2000, 3) := by decide +kernel
theorem dX12_emits_7 : decode cX12_emits 7 = .ok (.aload_n 0, 1) := by decide +kernel
theorem dX12_emits_8 : decode cX12_emits 8 = .ok (.getfield 201, 3) := by decide +kernel
theorem dX12_emits_11 : decode cX12_emits 11 = .ok (.iadd, 1) := by decide +kernel
theorem dX12_emits_12 : decode cX12_emits 12 = .ok (.iload_n 1, 1) := by decide +kernel
theorem dX12_emits_13 : decode cX12_emits 13 = .ok (.iastore, 1) := by decide +kernel
theorem dX12_emits_14 : decode cX12_emits 14 = .ok (.aload_n 0, 1) := by decide +kernel
theorem dX12_emits_15 : decode cX12_emits 15 = .ok (.getfield 57, 3) := by decide +kernel
theorem dX12_emits_18 : decode cX12_emits 18 = .ok (.sipush 2000, 3) := by decide +kernel
theorem dX12_emits_21 : decode cX12_emits 21 = .ok (.aload_n 0, 1) := by decide +kernel
theorem dX12_emits_22 : decode cX12_emits 22 = .ok (.getfield 201, 3) := by decide +kernel
theorem dX12_emits_25 : decode cX12_emits 25 = .ok (.iadd, 1) := by decide +kernel
theorem dX12_emits_26 : decode cX12_emits 26 = .ok (.iload_n 2, 1) := by decide +kernel
theorem dX12_emits_27 : decode cX12_emits 27 = .ok (.iastore, 1) := by decide +kernel
theorem dX12_emits_28 : decode cX12_emits 28 = .ok (.aload_n 0, 1) := by decide +kernel
theorem dX12_emits_29 : decode cX12_emits 29 = .ok (.aload_n 0, 1) := by decide +kernel
theorem dX12_emits_30 : decode cX12_emits 30 = .ok (.getfield 201, 3) := by decide +kernel
theorem dX12_emits_33 : decode cX12_emits 33 = .ok (.iconst 1, 1) := by decide +kernel
theorem dX12_emits_34 : decode cX12_emits 34 = .ok (.iadd, 1) := by decide +kernel
theorem dX12_emits_35 : decode cX12_emits 35 = .ok (.putfield 201, 3) := by decide +kernel
theorem dX12_emits_38 : decode cX12_emits 38 = .ok (.return_, 1) := by decide +kernel
set_option maxRecDepth 20000 in
theorem ggX12_readNumber_X12_fails : GoodIn wsX12_readNumber wsX12_fails := goodIn_r _ [7, 8, 9, 10, 43, 44, 45, 46, 47, 48, 49, 50, 51, 52, 53, 54, 55, 56, 57, 58, 59, 60, 61, 62, 63, 64, 65, 66, 67, 68, 69, 70, 71, 72, 73, 74, 75, 76, 77, 78, 79, 80, 81, 82, 83, 84, 85, 86, 87, 88, 89, 90, 91, 92, 93, 94] (by decide +kernel) (by decide +kernel)
set_option maxRecDepth 20000 in
theorem gX12_readNumber_X12_fails : GoodIn wsX12_readNumber (wsV RX12 204 RX12 yX12_fails wsX12_fails) := goodIn_app (goodIn_of _ (by decide +kernel)) ggX12_readNumber_X12_fails
set_option maxRecDepth 20000 in
theorem ggX12_readNumber_X12_next : GoodIn wsX12_readNumber wsX12_next := goodIn_r _ [14, 15, 9, 1, 2, 16, 17, 18, 6, 19, 20, 21, 22, 23, 24, 25, 26, 27, 28, 29, 30, 31, 32, 33, 34, 35, 36, 37, 38, 39, 40, 41, 42, 43, 44, 45, 46, 47, 48, 49, 50, 51, 52, 53, 54, 55, 56, 57, 58, 59, 60, 61, 62, 63, 64, 65, 66, 67, 68, 69, 70, 71, 72, 73, 74, 75, 76, 77, 78, 79, 80, 81, 82, 83, 84, 85, 86, 87, 88, 89, 90, 91, 92, 93, 94] (by decide +kernel) (by decide +kernel)
set_option maxRecDepth 20000 in
theorem gX12_readNumber_X12_next : GoodIn wsX12_readNumber (wsV RX12 207 RX12 yX12_next wsX12_next) := goodIn_app (goodIn_of _ (by decide +kernel)) ggX12_readNumber_X12_next
theorem dX12_readNumber_0 : decode cX12_readNumber 0 = .ok (.aload_n 0, 1) := by decide +kernel
theorem dX12_readNumber_1 : decode cX12_readNumber 1 = .ok (.getfield 176, 3) := by decide +kernel
theorem dX12_readNumber_4 : decode cX12_readNumber 4 = .ok (.iconst 3, 1) := by decide +kernel
theorem dX12_readNumber_5 : decode cX12_readNumber 5 = .ok (.if_icmp .eq 9, 3) := by decide +kernel
theorem dX12_readNumber_8 : decode cX12_readNumber 8 = .ok (.aload_n 0, 1) := by decide +kernel
theorem dX12_readNumber_9 : decode cX12_readNumber 9 = .ok (.iconst 1, 1) := by decide +kernel
theorem dX12_readNumber_10 : decode cX12_readNumber 10 = .ok (.invokevirtual 204, 3) := by decide +kernel
theorem dX12_readNumber_13 : decode cX12_readNumber 13 = .ok (.ireturn, 1) := by decide +kernel
theorem dX12_readNumber_14 : decode cX12_readNumber 14 = .ok (.aload_n 0, 1) := by decide +kernel
theorem dX12_readNumber_15 : decode cX12_readNumber 15 = .ok (.getfield 179, 3) := by decide +kernel
theorem dX12_readNumber_18 : decode cX12_readNumber 18 = .ok (.iload_n 1, 1) := by decide +kernel
theorem dX12_readNumber_19 : decode cX12_readNumber 19 = .ok (.if_icmp .le 9, 3) := by decide +kernel
theorem dX12_readNumber_22 : decode cX12_readNumber 22 = .ok (.aload_n 0, 1) := by decide +kernel
theorem dX12_readNumber_23 : decode cX12_readNumber 23 = .ok (.iconst 2, 1) := by decide +kernel
theorem dX12_readNumber_24 : decode cX12_readNumber 24 = .ok (.invokevirtual 204, 3) := by decide +kernel
theorem dX12_readNumber_27 : decode cX12_readNumber 27 = .ok (.ireturn, 1) := by decide +kernel
theorem dX12_readNumber_28 : decode cX12_readNumber 28 = .ok (.aload_n 0, 1) := by decide +kernel
theorem dX12_readNumber_29 : decode cX12_readNumber 29 = .ok (.getfield 179, 3) := by decide +kernel
theorem dX12_readNumber_32 : decode cX12_readNumber 32 = .ok (.istore_n 2, 1) := by decide +kernel
theorem dX12_readNumber_33 : decode cX12_readNumber 33 = .ok (.aload_n 0, 1) := by decide +kernel
theorem dX12_readNumber_34 : decode cX12_readNumber 34 = .ok (.invokevirtual 207, 3) := by decide +kernel
theorem dX12_readNumber_37 : decode cX12_readNumber 37 = .ok (.iload_n 2, 1) := by decide +kernel
theorem dX12_readNumber_38 : decode cX12_readNumber 38 = .ok (.ireturn, 1) := by decide +kernel
set_option maxRecDepth 20000 in
theorem ggX12_readUnit_X12_fails : GoodIn wsX12_readUnit wsX12_fails := goodIn_r _ [7, 8, 9, 10, 58, 59, 60, 61, 62, 63, 64, 65, 66, 67, 68, 69, 70, 71, 72, 73, 74, 75, 76, 77, 78, 79, 80, 81, 82, 83, 84, 85, 86, 87, 88, 89, 90, 91, 92, 93, 94, 95, 96, 97, 98, 99, 100, 101, 102, 103, 104, 105, 106, 107, 108, 109] (by decide +kernel) (by decide +kernel)
set_option maxRecDepth 20000 in
theorem gX12_readUnit_X12_fails : GoodIn wsX12_readUnit (wsV RX12 204 RX12 yX12_fails wsX12_fails) := goodIn_app (goodIn_of _ (by decide +kernel)) ggX12_readUnit_X12_fails
set_option maxRecDepth 20000 in
theorem ggX12_readUnit_X12_next : GoodIn wsX12_readUnit wsX12_next := goodIn_r _ [14, 15, 9, 1, 2, 16, 17, 18, 6, 19, 20, 21, 22, 23, 24, 25, 26, 27, 28, 29, 30, 31, 32, 33, 34, 35, 36, 37, 38, 39, 40, 41, 42, 58, 59, 60, 61, 62, 63, 64, 65, 66, 67, 68, 69, 70, 71, 72, 73, 74, 75, 76, 77, 78, 79, 80, 81, 82, 83, 84, 85, 86, 87, 88, 89, 90, 91, 92, 93, 94, 95, 96, 97, 98, 99, 100, 101, 102, 103, 104, 105, 106, 107, 108, 109] (by decide +kernel) (by decide +kernel)
