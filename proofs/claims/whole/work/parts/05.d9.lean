theorem dX9_init_0 : decode cX9_init 0 = .ok (.aload_n 0, 1) := by decide +kernel
theorem dX9_init_1 : decode cX9_init 1 = .ok (.invokespecial 1, 3) := by decide +kernel
theorem dX9_init_4 : decode cX9_init 4 = .ok (.aload_n 0, 1) := by decide +kernel
theorem dX9_init_5 : decode cX9_init 5 = .ok (.iconst 1, 1) := by decide +kernel
theorem dX9_init_6 : decode cX9_init 6 = .ok (.putfield 7, 3) := by decide +kernel
theorem dX9_init_9 : decode cX9_init 9 = .ok (.aload_n 0, 1) := by decide +kernel
theorem dX9_init_10 : decode cX9_init 10 = .ok (.iconst 5, 1) := by decide +kernel
theorem dX9_init_11 : decode cX9_init 11 = .ok (.putfield 13, 3) := by decide +kernel
theorem dX9_init_14 : decode cX9_init 14 = .ok (.aload_n 0, 1) := by decide +kernel
theorem dX9_init_15 : decode cX9_init 15 = .ok (.iconst 1, 1) := by decide +kernel
theorem dX9_init_16 : decode cX9_init 16 = .ok (.putfield 16, 3) := by decide +kernel
theorem dX9_init_19 : decode cX9_init 19 = .ok (.aload_n 0, 1) := by decide +kernel
theorem dX9_init_20 : decode cX9_init 20 = .ok (.iconst (-1), 1) := by decide +kernel
theorem dX9_init_21 : decode cX9_init 21 = .ok (.putfield 19, 3) := by decide +kernel
theorem dX9_init_24 : decode cX9_init 24 = .ok (.aload_n 0, 1) := by decide +kernel
theorem dX9_init_25 : decode cX9_init 25 = .ok (.bipush 8, 2) := by decide +kernel
theorem dX9_init_27 : decode cX9_init 27 = .ok (.newarray .int, 2) := by decide +kernel
theorem dX9_init_29 : decode cX9_init 29 = .ok (.putfield 22, 3) := by decide +kernel
theorem dX9_init_32 : decode cX9_init 32 = .ok (.aload_n 0, 1) := by decide +kernel
theorem dX9_init_33 : decode cX9_init 33 = .ok (.bipush 16, 2) := by decide +kernel
theorem dX9_init_35 : decode cX9_init 35 = .ok (.newarray .int, 2) := by decide +kernel
theorem dX9_init_37 : decode cX9_init 37 = .ok (.putfield 26, 3) := by decide +kernel
theorem dX9_init_40 : decode cX9_init 40 = .ok (.aload_n 0, 1) := by decide +kernel
theorem dX9_init_41 : decode cX9_init 41 = .ok (.bipush 16, 2) := by decide +kernel
theorem dX9_init_43 : decode cX9_init 43 = .ok (.newarray .int, 2) := by decide +kernel
theorem dX9_init_45 : decode cX9_init 45 = .ok (.putfield 29, 3) := by decide +kernel
theorem dX9_init_48 : decode cX9_init 48 = .ok (.aload_n 0, 1) := by decide +kernel
theorem dX9_init_49 : decode cX9_init 49 = .ok (.bipush 16, 2) := by decide +kernel
theorem dX9_init_51 : decode cX9_init 51 = .ok (.newarray .int, 2) := by decide +kernel
theorem dX9_init_53 : decode cX9_init 53 = .ok (.putfield 32, 3) := by decide +kernel
theorem dX9_init_56 : decode cX9_init 56 = .ok (.aload_n 0, 1) := by decide +kernel
theorem dX9_init_57 : decode cX9_init 57 = .ok (.bipush 16, 2) := by decide +kernel
theorem dX9_init_59 : decode cX9_init 59 = .ok (.newarray .int, 2) := by decide +kernel
theorem dX9_init_61 : decode cX9_init 61 = .ok (.putfield 35, 3) := by decide +kernel
theorem dX9_init_64 : decode cX9_init 64 = .ok (.aload_n 0, 1) := by decide +kernel
theorem dX9_init_65 : decode cX9_init 65 = .ok (.bipush 16, 2) := by decide +kernel
theorem dX9_init_67 : decode cX9_init 67 = .ok (.newarray .int, 2) := by decide +kernel
theorem dX9_init_69 : decode cX9_init 69 = .ok (.putfield 38, 3) := by decide +kernel
theorem dX9_init_72 : decode cX9_init 72 = .ok (.aload_n 0, 1) := by decide +kernel
theorem dX9_init_73 : decode cX9_init 73 = .ok (.bipush 16, 2) := by decide +kernel
theorem dX9_init_75 : decode cX9_init 75 = .ok (.newarray .int, 2) := by decide +kernel
theorem dX9_init_77 : decode cX9_init 77 = .ok (.putfield 41, 3) := by decide +kernel
theorem dX9_init_80 : decode cX9_init 80 = .ok (.aload_n 0, 1) := by decide +kernel
theorem dX9_init_81 : decode cX9_init 81 = .ok (.bipush 16, 2) := by decide +kernel
theorem dX9_init_83 : decode cX9_init 83 = .ok (.newarray .int, 2) := by decide +kernel
theorem dX9_init_85 : decode cX9_init 85 = .ok (.putfield 44, 3) := by decide +kernel
theorem dX9_init_88 : decode cX9_init 88 = .ok (.aload_n 0, 1) := by decide +kernel
theorem dX9_init_89 : decode cX9_init 89 = .ok (.bipush 16, 2) := by decide +kernel
theorem dX9_init_91 : decode cX9_init 91 = .ok (.newarray .int, 2) := by decide +kernel
theorem dX9_init_93 : decode cX9_init 93 = .ok (.putfield 47, 3) := by decide +kernel
theorem dX9_init_96 : decode cX9_init 96 = .ok (.aload_n 0, 1) := by decide +kernel
theorem dX9_init_97 : decode cX9_init 97 = .ok (.bipush 8, 2) := by decide +kernel
theorem dX9_init_99 : decode cX9_init 99 = .ok (.newarray .int, 2) := by decide +kernel
theorem dX9_init_101 : decode cX9_init 101 = .ok (.putfield 50, 3) := by decide +kernel
theorem dX9_init_104 : decode cX9_init 104 = .ok (.aload_n 0, 1) := by decide +kernel
theorem dX9_init_105 : decode cX9_init 105 = .ok (.bipush 8, 2) := by decide +kernel
theorem dX9_init_107 : decode cX9_init 107 = .ok (.newarray .int, 2) := by decide +kernel
theorem dX9_init_109 : decode cX9_init 109 = .ok (.putfield 53, 3) := by decide +kernel
theorem dX9_init_112 : decode cX9_init 112 = .ok (.aload_n 0, 1) := by decide +kernel
theorem dX9_init_113 : decode cX9_init 113 = .ok (.bipush 8, 2) := by decide +kernel
theorem dX9_init_115 : decode cX9_init 115 = .ok (.newarray .int, 2) := by decide +kernel
theorem dX9_init_117 : decode cX9_init 117 = .ok (.putfield 56, 3) := by decide +kernel
theorem dX9_init_120 : decode cX9_init 120 = .ok (.aload_n 0, 1) := by decide +kernel
theorem dX9_init_121 : decode cX9_init 121 = .ok (.bipush 8, 2) := by decide +kernel
theorem dX9_init_123 : decode cX9_init 123 = .ok (.newarray .int, 2) := by decide +kernel
theorem dX9_init_125 : decode cX9_init 125 = .ok (.putfield 59, 3) := by decide +kernel
theorem dX9_init_128 : decode cX9_init 128 = .ok (.aload_n 0, 1) := by decide +kernel
theorem dX9_init_129 : decode cX9_init 129 = .ok (.sipush 1280, 3) := by decide +kernel
theorem dX9_init_132 : decode cX9_init 132 = .ok (.newarray .long, 2) := by decide +kernel
theorem dX9_init_134 : decode cX9_init 134 = .ok (.putfield 62, 3) := by decide +kernel
theorem dX9_init_137 : decode cX9_init 137 = .ok (.aload_n 0, 1) := by decide +kernel
theorem dX9_init_138 : decode cX9_init 138 = .ok (.sipush 160, 3) := by decide +kernel
theorem dX9_init_141 : decode cX9_init 141 = .ok (.newarray .long, 2) := by decide +kernel
theorem dX9_init_143 : decode cX9_init 143 = .ok (.putfield 66, 3) := by decide +kernel
theorem dX9_init_146 : decode cX9_init 146 = .ok (.aload_n 0, 1) := by decide +kernel
theorem dX9_init_147 : decode cX9_init 147 = .ok (.bipush 48, 2) := by decide +kernel
theorem dX9_init_149 : decode cX9_init 149 = .ok (.newarray .int, 2) := by decide +kernel
theorem dX9_init_151 : decode cX9_init 151 = .ok (.dup, 1) := by decide +kernel
theorem dX9_init_152 : decode cX9_init 152 = .ok (.iconst 0, 1) := by decide +kernel
theorem dX9_init_153 : decode cX9_init 153 = .ok (.bipush 115, 2) := by decide +kernel
theorem dX9_init_155 : decode cX9_init 155 = .ok (.iastore, 1) := by decide +kernel
theorem dX9_init_156 : decode cX9_init 156 = .ok (.dup, 1) := by decide +kernel
theorem dX9_init_157 : decode cX9_init 157 = .ok (.iconst 1, 1) := by decide +kernel
theorem dX9_init_158 : decode cX9_init 158 = .ok (.bipush 101, 2) := by decide +kernel
theorem dX9_init_160 : decode cX9_init 160 = .ok (.iastore, 1) := by decide +kernel
theorem dX9_init_161 : decode cX9_init 161 = .ok (.dup, 1) := by decide +kernel
theorem dX9_init_162 : decode cX9_init 162 = .ok (.iconst 2, 1) := by decide +kernel
theorem dX9_init_163 : decode cX9_init 163 = .ok (.bipush 116, 2) := by decide +kernel
theorem dX9_init_165 : decode cX9_init 165 = .ok (.iastore, 1) := by decide +kernel
theorem dX9_init_166 : decode cX9_init 166 = .ok (.dup, 1) := by decide +kernel
theorem dX9_init_167 : decode cX9_init 167 = .ok (.iconst 3, 1) := by decide +kernel
theorem dX9_init_168 : decode cX9_init 168 = .ok (.bipush 117, 2) := by decide +kernel
theorem dX9_init_170 : decode cX9_init 170 = .ok (.iastore, 1) := by decide +kernel
theorem dX9_init_171 : decode cX9_init 171 = .ok (.dup, 1) := by decide +kernel
theorem dX9_init_172 : decode cX9_init 172 = .ok (.iconst 4, 1) := by decide +kernel
theorem dX9_init_173 : decode cX9_init 173 = .ok (.bipush 112, 2) := by decide +kernel
theorem dX9_init_175 : decode cX9_init 175 = .ok (.iastore, 1) := by decide +kernel
theorem dX9_init_176 : decode cX9_init 176 = .ok (.dup, 1) := by decide +kernel
theorem dX9_init_177 : decode cX9_init 177 = .ok (.iconst 5, 1) := by decide +kernel
theorem dX9_init_178 : decode cX9_init 178 = .ok (.bipush 32, 2) := by decide +kernel
theorem dX9_init_180 : decode cX9_init 180 = .ok (.iastore, 1) := by decide +kernel
theorem dX9_init_181 : decode cX9_init 181 = .ok (.dup, 1) := by decide +kernel
theorem dX9_init_182 : decode cX9_init 182 = .ok (.bipush 6, 2) := by decide +kernel
theorem dX9_init_184 : decode cX9_init 184 = .ok (.iconst 0, 1) := by decide +kernel
theorem dX9_init_185 : decode cX9_init 185 = .ok (.iastore, 1) := by decide +kernel
theorem dX9_init_186 : decode cX9_init 186 = .ok (.dup, 1) := by decide +kernel
theorem dX9_init_187 : decode cX9_init 187 = .ok (.bipush 7, 2) := by decide +kernel
theorem dX9_init_189 : decode cX9_init 189 = .ok (.bipush 104, 2) := by decide +kernel
theorem dX9_init_191 : decode cX9_init 191 = .ok (.iastore, 1) := by decide +kernel
theorem dX9_init_192 : decode cX9_init 192 = .ok (.dup, 1) := by decide +kernel
theorem dX9_init_193 : decode cX9_init 193 = .ok (.bipush 8, 2) := by decide +kernel
theorem dX9_init_195 : decode cX9_init 195 = .ok (.bipush 111, 2) := by decide +kernel
theorem dX9_init_197 : decode cX9_init 197 = .ok (.iastore, 1) := by decide +kernel
theorem dX9_init_198 : decode cX9_init 198 = .ok (.dup, 1) := by decide +kernel
theorem dX9_init_199 : decode cX9_init 199 = .ok (.bipush 9, 2) := by decide +kernel
theorem dX9_init_201 : decode cX9_init 201 = .ok (.bipush 108, 2) := by decide +kernel
theorem dX9_init_203 : decode cX9_init 203 = .ok (.iastore, 1) := by decide +kernel
theorem dX9_init_204 : decode cX9_init 204 = .ok (.dup, 1) := by decide +kernel
theorem dX9_init_205 : decode cX9_init 205 = .ok (.bipush 10, 2) := by decide +kernel
theorem dX9_init_207 : decode cX9_init 207 = .ok (.bipush 100, 2) := by decide +kernel
theorem dX9_init_209 : decode cX9_init 209 = .ok (.iastore, 1) := by decide +kernel
theorem dX9_init_210 : decode cX9_init 210 = .ok (.dup, 1) := by decide +kernel
theorem dX9_init_211 : decode cX9_init 211 = .ok (.bipush 11, 2) := by decide +kernel
theorem dX9_init_213 : decode cX9_init 213 = .ok (.bipush 101, 2) := by decide +kernel
theorem dX9_init_215 : decode cX9_init 215 = .ok (.iastore, 1) := by decide +kernel
theorem dX9_init_216 : decode cX9_init 216 = .ok (.dup, 1) := by decide +kernel
theorem dX9_init_217 : decode cX9_init 217 = .ok (.bipush 12, 2) := by decide +kernel
theorem dX9_init_219 : decode cX9_init 219 = .ok (.bipush 114, 2) := by decide +kernel
theorem dX9_init_221 : decode cX9_init 221 = .ok (.iastore, 1) := by decide +kernel
theorem dX9_init_222 : decode cX9_init 222 = .ok (.dup, 1) := by decide +kernel
theorem dX9_init_223 : decode cX9_init 223 = .ok (.bipush 13, 2) := by decide +kernel
theorem dX9_init_225 : decode cX9_init 225 = .ok (.bipush 32, 2) := by decide +kernel
theorem dX9_init_227 : decode cX9_init 227 = .ok (.iastore, 1) := by decide +kernel
theorem dX9_init_228 : decode cX9_init 228 = .ok (.dup, 1) := by decide +kernel
theorem dX9_init_229 : decode cX9_init 229 = .ok (.bipush 14, 2) := by decide +kernel
theorem dX9_init_231 : decode cX9_init 231 = .ok (.iconst 0, 1) := by decide +kernel
theorem dX9_init_232 : decode cX9_init 232 = .ok (.iastore, 1) := by decide +kernel
theorem dX9_init_233 : decode cX9_init 233 = .ok (.dup, 1) := by decide +kernel
theorem dX9_init_234 : decode cX9_init 234 = .ok (.bipush 15, 2) := by decide +kernel
theorem dX9_init_236 : decode cX9_init 236 = .ok (.bipush 102, 2) := by decide +kernel
theorem dX9_init_238 : decode cX9_init 238 = .ok (.iastore, 1) := by decide +kernel
theorem dX9_init_239 : decode cX9_init 239 = .ok (.dup, 1) := by decide +kernel
theorem dX9_init_240 : decode cX9_init 240 = .ok (.bipush 16, 2) := by decide +kernel
theorem dX9_init_242 : decode cX9_init 242 = .ok (.bipush 105, 2) := by decide +kernel
theorem dX9_init_244 : decode cX9_init 244 = .ok (.iastore, 1) := by decide +kernel
theorem dX9_init_245 : decode cX9_init 245 = .ok (.dup, 1) := by decide +kernel
theorem dX9_init_246 : decode cX9_init 246 = .ok (.bipush 17, 2) := by decide +kernel
theorem dX9_init_248 : decode cX9_init 248 = .ok (.bipush 114, 2) := by decide +kernel
theorem dX9_init_250 : decode cX9_init 250 = .ok (.iastore, 1) := by decide +kernel
theorem dX9_init_251 : decode cX9_init 251 = .ok (.dup, 1) := by decide +kernel
theorem dX9_init_252 : decode cX9_init 252 = .ok (.bipush 18, 2) := by decide +kernel
theorem dX9_init_254 : decode cX9_init 254 = .ok (.bipush 115, 2) := by decide +kernel
theorem dX9_init_256 : decode cX9_init 256 = .ok (.iastore, 1) := by decide +kernel
theorem dX9_init_257 : decode cX9_init 257 = .ok (.dup, 1) := by decide +kernel
theorem dX9_init_258 : decode cX9_init 258 = .ok (.bipush 19, 2) := by decide +kernel
theorem dX9_init_260 : decode cX9_init 260 = .ok (.bipush 116, 2) := by decide +kernel
theorem dX9_init_262 : decode cX9_init 262 = .ok (.iastore, 1) := by decide +kernel
theorem dX9_init_263 : decode cX9_init 263 = .ok (.dup, 1) := by decide +kernel
theorem dX9_init_264 : decode cX9_init 264 = .ok (.bipush 20, 2) := by decide +kernel
theorem dX9_init_266 : decode cX9_init 266 = .ok (.bipush 32, 2) := by decide +kernel
theorem dX9_init_268 : decode cX9_init 268 = .ok (.iastore, 1) := by decide +kernel
theorem dX9_init_269 : decode cX9_init 269 = .ok (.dup, 1) := by decide +kernel
theorem dX9_init_270 : decode cX9_init 270 = .ok (.bipush 21, 2) := by decide +kernel
theorem dX9_init_272 : decode cX9_init 272 = .ok (.iconst 0, 1) := by decide +kernel
theorem dX9_init_273 : decode cX9_init 273 = .ok (.iastore, 1) := by decide +kernel
theorem dX9_init_274 : decode cX9_init 274 = .ok (.dup, 1) := by decide +kernel
theorem dX9_init_275 : decode cX9_init 275 = .ok (.bipush 22, 2) := by decide +kernel
theorem dX9_init_277 : decode cX9_init 277 = .ok (.bipush 115, 2) := by decide +kernel
theorem dX9_init_279 : decode cX9_init 279 = .ok (.iastore, 1) := by decide +kernel
theorem dX9_init_280 : decode cX9_init 280 = .ok (.dup, 1) := by decide +kernel
theorem dX9_init_281 : decode cX9_init 281 = .ok (.bipush 23, 2) := by decide +kernel
theorem dX9_init_283 : decode cX9_init 283 = .ok (.bipush 116, 2) := by decide +kernel
theorem dX9_init_285 : decode cX9_init 285 = .ok (.iastore, 1) := by decide +kernel
theorem dX9_init_286 : decode cX9_init 286 = .ok (.dup, 1) := by decide +kernel
theorem dX9_init_287 : decode cX9_init 287 = .ok (.bipush 24, 2) := by decide +kernel
theorem dX9_init_289 : decode cX9_init 289 = .ok (.bipush 97, 2) := by decide +kernel
theorem dX9_init_291 : decode cX9_init 291 = .ok (.iastore, 1) := by decide +kernel
theorem dX9_init_292 : decode cX9_init 292 = .ok (.dup, 1) := by decide +kernel
theorem dX9_init_293 : decode cX9_init 293 = .ok (.bipush 25, 2) := by decide +kernel
theorem dX9_init_295 : decode cX9_init 295 = .ok (.bipush 114, 2) := by decide +kernel
theorem dX9_init_297 : decode cX9_init 297 = .ok (.iastore, 1) := by decide +kernel
theorem dX9_init_298 : decode cX9_init 298 = .ok (.dup, 1) := by decide +kernel
theorem dX9_init_299 : decode cX9_init 299 = .ok (.bipush 26, 2) := by decide +kernel
theorem dX9_init_301 : decode cX9_init 301 = .ok (.bipush 116, 2) := by decide +kernel
theorem dX9_init_303 : decode cX9_init 303 = .ok (.iastore, 1) := by decide +kernel
theorem dX9_init_304 : decode cX9_init 304 = .ok (.dup, 1) := by decide +kernel
theorem dX9_init_305 : decode cX9_init 305 = .ok (.bipush 27, 2) := by decide +kernel
theorem dX9_init_307 : decode cX9_init 307 = .ok (.bipush 32, 2) := by decide +kernel
theorem dX9_init_309 : decode cX9_init 309 = .ok (.iastore, 1) := by decide +kernel
theorem dX9_init_310 : decode cX9_init 310 = .ok (.dup, 1) := by decide +kernel
theorem dX9_init_311 : decode cX9_init 311 = .ok (.bipush 28, 2) := by decide +kernel
theorem dX9_init_313 : decode cX9_init 313 = .ok (.iconst 0, 1) := by decide +kernel
theorem dX9_init_314 : decode cX9_init 314 = .ok (.iastore, 1) := by decide +kernel
theorem dX9_init_315 : decode cX9_init 315 = .ok (.dup, 1) := by decide +kernel
theorem dX9_init_316 : decode cX9_init 316 = .ok (.bipush 29, 2) := by decide +kernel
theorem dX9_init_318 : decode cX9_init 318 = .ok (.bipush 104, 2) := by decide +kernel
theorem dX9_init_320 : decode cX9_init 320 = .ok (.iastore, 1) := by decide +kernel
theorem dX9_init_321 : decode cX9_init 321 = .ok (.dup, 1) := by decide +kernel
theorem dX9_init_322 : decode cX9_init 322 = .ok (.bipush 30, 2) := by decide +kernel
theorem dX9_init_324 : decode cX9_init 324 = .ok (.bipush 97, 2) := by decide +kernel
theorem dX9_init_326 : decode cX9_init 326 = .ok (.iastore, 1) := by decide +kernel
theorem dX9_init_327 : decode cX9_init 327 = .ok (.dup, 1) := by decide +kernel
theorem dX9_init_328 : decode cX9_init 328 = .ok (.bipush 31, 2) := by decide +kernel
theorem dX9_init_330 : decode cX9_init 330 = .ok (.bipush 105, 2) := by decide +kernel
theorem dX9_init_332 : decode cX9_init 332 = .ok (.iastore, 1) := by decide +kernel
theorem dX9_init_333 : decode cX9_init 333 = .ok (.dup, 1) := by decide +kernel
theorem dX9_init_334 : decode cX9_init 334 = .ok (.bipush 32, 2) := by decide +kernel
theorem dX9_init_336 : decode cX9_init 336 = .ok (.bipush 114, 2) := by decide +kernel
theorem dX9_init_338 : decode cX9_init 338 = .ok (.iastore, 1) := by decide +kernel
theorem dX9_init_339 : decode cX9_init 339 = .ok (.dup, 1) := by decide +kernel
theorem dX9_init_340 : decode cX9_init 340 = .ok (.bipush 33, 2) := by decide +kernel
theorem dX9_init_342 : decode cX9_init 342 = .ok (.bipush 32, 2) := by decide +kernel
theorem dX9_init_344 : decode cX9_init 344 = .ok (.iastore, 1) := by decide +kernel
theorem dX9_init_345 : decode cX9_init 345 = .ok (.dup, 1) := by decide +kernel
theorem dX9_init_346 : decode cX9_init 346 = .ok (.bipush 34, 2) := by decide +kernel
theorem dX9_init_348 : decode cX9_init 348 = .ok (.iconst 0, 1) := by decide +kernel
theorem dX9_init_349 : decode cX9_init 349 = .ok (.iastore, 1) := by decide +kernel
theorem dX9_init_350 : decode cX9_init 350 = .ok (.dup, 1) := by decide +kernel
theorem dX9_init_351 : decode cX9_init 351 = .ok (.bipush 35, 2) := by decide +kernel
theorem dX9_init_353 : decode cX9_init 353 = .ok (.bipush 102, 2) := by decide +kernel
theorem dX9_init_355 : decode cX9_init 355 = .ok (.iastore, 1) := by decide +kernel
theorem dX9_init_356 : decode cX9_init 356 = .ok (.dup, 1) := by decide +kernel
theorem dX9_init_357 : decode cX9_init 357 = .ok (.bipush 36, 2) := by decide +kernel
theorem dX9_init_359 : decode cX9_init 359 = .ok (.bipush 105, 2) := by decide +kernel
theorem dX9_init_361 : decode cX9_init 361 = .ok (.iastore, 1) := by decide +kernel
theorem dX9_init_362 : decode cX9_init 362 = .ok (.dup, 1) := by decide +kernel
theorem dX9_init_363 : decode cX9_init 363 = .ok (.bipush 37, 2) := by decide +kernel
theorem dX9_init_365 : decode cX9_init 365 = .ok (.bipush 110, 2) := by decide +kernel
theorem dX9_init_367 : decode cX9_init 367 = .ok (.iastore, 1) := by decide +kernel
theorem dX9_init_368 : decode cX9_init 368 = .ok (.dup, 1) := by decide +kernel
theorem dX9_init_369 : decode cX9_init 369 = .ok (.bipush 38, 2) := by decide +kernel
theorem dX9_init_371 : decode cX9_init 371 = .ok (.bipush 101, 2) := by decide +kernel
theorem dX9_init_373 : decode cX9_init 373 = .ok (.iastore, 1) := by decide +kernel
theorem dX9_init_374 : decode cX9_init 374 = .ok (.dup, 1) := by decide +kernel
theorem dX9_init_375 : decode cX9_init 375 = .ok (.bipush 39, 2) := by decide +kernel
theorem dX9_init_377 : decode cX9_init 377 = .ok (.bipush 32, 2) := by decide +kernel
theorem dX9_init_379 : decode cX9_init 379 = .ok (.iastore, 1) := by decide +kernel
theorem dX9_init_380 : decode cX9_init 380 = .ok (.dup, 1) := by decide +kernel
theorem dX9_init_381 : decode cX9_init 381 = .ok (.bipush 40, 2) := by decide +kernel
theorem dX9_init_383 : decode cX9_init 383 = .ok (.iconst 0, 1) := by decide +kernel
theorem dX9_init_384 : decode cX9_init 384 = .ok (.iastore, 1) := by decide +kernel
theorem dX9_init_385 : decode cX9_init 385 = .ok (.dup, 1) := by decide +kernel
theorem dX9_init_386 : decode cX9_init 386 = .ok (.bipush 41, 2) := by decide +kernel
theorem dX9_init_388 : decode cX9_init 388 = .ok (.bipush 97, 2) := by decide +kernel
theorem dX9_init_390 : decode cX9_init 390 = .ok (.iastore, 1) := by decide +kernel
theorem dX9_init_391 : decode cX9_init 391 = .ok (.dup, 1) := by decide +kernel
theorem dX9_init_392 : decode cX9_init 392 = .ok (.bipush 42, 2) := by decide +kernel
theorem dX9_init_394 : decode cX9_init 394 = .ok (.bipush 103, 2) := by decide +kernel
theorem dX9_init_396 : decode cX9_init 396 = .ok (.iastore, 1) := by decide +kernel
theorem dX9_init_397 : decode cX9_init 397 = .ok (.dup, 1) := by decide +kernel
theorem dX9_init_398 : decode cX9_init 398 = .ok (.bipush 43, 2) := by decide +kernel
theorem dX9_init_400 : decode cX9_init 400 = .ok (.bipush 97, 2) := by decide +kernel
theorem dX9_init_402 : decode cX9_init 402 = .ok (.iastore, 1) := by decide +kernel
theorem dX9_init_403 : decode cX9_init 403 = .ok (.dup, 1) := by decide +kernel
theorem dX9_init_404 : decode cX9_init 404 = .ok (.bipush 44, 2) := by decide +kernel
theorem dX9_init_406 : decode cX9_init 406 = .ok (.bipush 105, 2) := by decide +kernel
theorem dX9_init_408 : decode cX9_init 408 = .ok (.iastore, 1) := by decide +kernel
theorem dX9_init_409 : decode cX9_init 409 = .ok (.dup, 1) := by decide +kernel
theorem dX9_init_410 : decode cX9_init 410 = .ok (.bipush 45, 2) := by decide +kernel
theorem dX9_init_412 : decode cX9_init 412 = .ok (.bipush 110, 2) := by decide +kernel
theorem dX9_init_414 : decode cX9_init 414 = .ok (.iastore, 1) := by decide +kernel
theorem dX9_init_415 : decode cX9_init 415 = .ok (.dup, 1) := by decide +kernel
theorem dX9_init_416 : decode cX9_init 416 = .ok (.bipush 46, 2) := by decide +kernel
theorem dX9_init_418 : decode cX9_init 418 = .ok (.bipush 32, 2) := by decide +kernel
theorem dX9_init_420 : decode cX9_init 420 = .ok (.iastore, 1) := by decide +kernel
theorem dX9_init_421 : decode cX9_init 421 = .ok (.dup, 1) := by decide +kernel
theorem dX9_init_422 : decode cX9_init 422 = .ok (.bipush 47, 2) := by decide +kernel
theorem dX9_init_424 : decode cX9_init 424 = .ok (.iconst 0, 1) := by decide +kernel
theorem dX9_init_425 : decode cX9_init 425 = .ok (.iastore, 1) := by decide +kernel
theorem dX9_init_426 : decode cX9_init 426 = .ok (.putfield 69, 3) := by decide +kernel
theorem dX9_init_429 : decode cX9_init 429 = .ok (.aload_n 0, 1) := by decide +kernel
theorem dX9_init_430 : decode cX9_init 430 = .ok (.bipush 7, 2) := by decide +kernel
theorem dX9_init_432 : decode cX9_init 432 = .ok (.newarray .int, 2) := by decide +kernel
theorem dX9_init_434 : decode cX9_init 434 = .ok (.dup, 1) := by decide +kernel
theorem dX9_init_435 : decode cX9_init 435 = .ok (.iconst 0, 1) := by decide +kernel
theorem dX9_init_436 : decode cX9_init 436 = .ok (.bipush 6, 2) := by decide +kernel
theorem dX9_init_438 : decode cX9_init 438 = .ok (.iastore, 1) := by decide +kernel
theorem dX9_init_439 : decode cX9_init 439 = .ok (.dup, 1) := by decide +kernel
theorem dX9_init_440 : decode cX9_init 440 = .ok (.iconst 1, 1) := by decide +kernel
theorem dX9_init_441 : decode cX9_init 441 = .ok (.iconst 2, 1) := by decide +kernel
theorem dX9_init_442 : decode cX9_init 442 = .ok (.iastore, 1) := by decide +kernel
theorem dX9_init_443 : decode cX9_init 443 = .ok (.dup, 1) := by decide +kernel
theorem dX9_init_444 : decode cX9_init 444 = .ok (.iconst 2, 1) := by decide +kernel
theorem dX9_init_445 : decode cX9_init 445 = .ok (.iconst 2, 1) := by decide +kernel
theorem dX9_init_446 : decode cX9_init 446 = .ok (.iastore, 1) := by decide +kernel
theorem dX9_init_447 : decode cX9_init 447 = .ok (.dup, 1) := by decide +kernel
theorem dX9_init_448 : decode cX9_init 448 = .ok (.iconst 3, 1) := by decide +kernel
theorem dX9_init_449 : decode cX9_init 449 = .ok (.iconst 1, 1) := by decide +kernel
theorem dX9_init_450 : decode cX9_init 450 = .ok (.iastore, 1) := by decide +kernel
theorem dX9_init_451 : decode cX9_init 451 = .ok (.dup, 1) := by decide +kernel
theorem dX9_init_452 : decode cX9_init 452 = .ok (.iconst 4, 1) := by decide +kernel
theorem dX9_init_453 : decode cX9_init 453 = .ok (.iconst 1, 1) := by decide +kernel
theorem dX9_init_454 : decode cX9_init 454 = .ok (.iastore, 1) := by decide +kernel
theorem dX9_init_455 : decode cX9_init 455 = .ok (.dup, 1) := by decide +kernel
theorem dX9_init_456 : decode cX9_init 456 = .ok (.iconst 5, 1) := by decide +kernel
theorem dX9_init_457 : decode cX9_init 457 = .ok (.iconst 1, 1) := by decide +kernel
theorem dX9_init_458 : decode cX9_init 458 = .ok (.iastore, 1) := by decide +kernel
theorem dX9_init_459 : decode cX9_init 459 = .ok (.dup, 1) := by decide +kernel
theorem dX9_init_460 : decode cX9_init 460 = .ok (.bipush 6, 2) := by decide +kernel
theorem dX9_init_462 : decode cX9_init 462 = .ok (.iconst 3, 1) := by decide +kernel
theorem dX9_init_463 : decode cX9_init 463 = .ok (.iastore, 1) := by decide +kernel
theorem dX9_init_464 : decode cX9_init 464 = .ok (.putfield 72, 3) := by decide +kernel
theorem dX9_init_467 : decode cX9_init 467 = .ok (.aload_n 0, 1) := by decide +kernel
theorem dX9_init_468 : decode cX9_init 468 = .ok (.bipush 6, 2) := by decide +kernel
theorem dX9_init_470 : decode cX9_init 470 = .ok (.newarray .int, 2) := by decide +kernel
theorem dX9_init_472 : decode cX9_init 472 = .ok (.putfield 75, 3) := by decide +kernel
theorem dX9_init_475 : decode cX9_init 475 = .ok (.aload_n 0, 1) := by decide +kernel
theorem dX9_init_476 : decode cX9_init 476 = .ok (.sipush 140, 3) := by decide +kernel
theorem dX9_init_479 : decode cX9_init 479 = .ok (.newarray .int, 2) := by decide +kernel
theorem dX9_init_481 : decode cX9_init 481 = .ok (.putfield 78, 3) := by decide +kernel
theorem dX9_init_484 : decode cX9_init 484 = .ok (.aload_n 0, 1) := by decide +kernel
theorem dX9_init_485 : decode cX9_init 485 = .ok (.sipush 140, 3) := by decide +kernel
theorem dX9_init_488 : decode cX9_init 488 = .ok (.newarray .int, 2) := by decide +kernel
theorem dX9_init_490 : decode cX9_init 490 = .ok (.putfield 81, 3) := by decide +kernel
theorem dX9_init_493 : decode cX9_init 493 = .ok (.aload_n 0, 1) := by decide +kernel
theorem dX9_init_494 : decode cX9_init 494 = .ok (.bipush 16, 2) := by decide +kernel
theorem dX9_init_496 : decode cX9_init 496 = .ok (.newarray .int, 2) := by decide +kernel
theorem dX9_init_498 : decode cX9_init 498 = .ok (.putfield 84, 3) := by decide +kernel
theorem dX9_init_501 : decode cX9_init 501 = .ok (.aload_n 0, 1) := by decide +kernel
theorem dX9_init_502 : decode cX9_init 502 = .ok (.bipush 20, 2) := by decide +kernel
theorem dX9_init_504 : decode cX9_init 504 = .ok (.newarray .int, 2) := by decide +kernel
theorem dX9_init_506 : decode cX9_init 506 = .ok (.putfield 87, 3) := by decide +kernel
theorem dX9_init_509 : decode cX9_init 509 = .ok (.return_, 1) := by decide +kernel
theorem dX9_no_0 : decode cX9_no 0 = .ok (.aload_n 0, 1) := by decide +kernel
theorem dX9_no_1 : decode cX9_no 1 = .ok (.getfield 22, 3) := by decide +kernel
theorem dX9_no_4 : decode cX9_no 4 = .ok (.iload_n 1, 1) := by decide +kernel
theorem dX9_no_5 : decode cX9_no 5 = .ok (.ineg, 1) := by decide +kernel
theorem dX9_no_6 : decode cX9_no 6 = .ok (.dup2, 1) := by decide +kernel
theorem dX9_no_7 : decode cX9_no 7 = .ok (.iaload, 1) := by decide +kernel
theorem dX9_no_8 : decode cX9_no 8 = .ok (.iconst 1, 1) := by decide +kernel
theorem dX9_no_9 : decode cX9_no 9 = .ok (.iadd, 1) := by decide +kernel
theorem dX9_no_10 : decode cX9_no 10 = .ok (.iastore, 1) := by decide +kernel
theorem dX9_no_11 : decode cX9_no 11 = .ok (.iload_n 1, 1) := by decide +kernel
theorem dX9_no_12 : decode cX9_no 12 = .ok (.ireturn, 1) := by decide +kernel
theorem dX9_noTen_0 : decode cX9_noTen 0 = .ok (.aload_n 0, 1) := by decide +kernel
theorem dX9_noTen_1 : decode cX9_noTen 1 = .ok (.getfield 22, 3) := by decide +kernel
theorem dX9_noTen_4 : decode cX9_noTen 4 = .ok (.iload_n 1, 1) := by decide +kernel
theorem dX9_noTen_5 : decode cX9_noTen 5 = .ok (.ineg, 1) := by decide +kernel
theorem dX9_noTen_6 : decode cX9_noTen 6 = .ok (.dup2, 1) := by decide +kernel
theorem dX9_noTen_7 : decode cX9_noTen 7 = .ok (.iaload, 1) := by decide +kernel
theorem dX9_noTen_8 : decode cX9_noTen 8 = .ok (.iconst 1, 1) := by decide +kernel
theorem dX9_noTen_9 : decode cX9_noTen 9 = .ok (.iadd, 1) := by decide +kernel
theorem dX9_noTen_10 : decode cX9_noTen 10 = .ok (.iastore, 1) := by decide +kernel
theorem dX9_noTen_11 : decode cX9_noTen 11 = .ok (.iload_n 1, 1) := by decide +kernel
theorem dX9_noTen_12 : decode cX9_noTen 12 = .ok (.bipush 10, 2) := by decide +kernel
theorem dX9_noTen_14 : decode cX9_noTen 14 = .ok (.isub, 1) := by decide +kernel
theorem dX9_noTen_15 : decode cX9_noTen 15 = .ok (.ireturn, 1) := by decide +kernel
theorem dX9_noFar_0 : decode cX9_noFar 0 = .ok (.aload_n 0, 1) := by decide +kernel
theorem dX9_noFar_1 : decode cX9_noFar 1 = .ok (.getfield 22, 3) := by decide +kernel
theorem dX9_noFar_4 : decode cX9_noFar 4 = .ok (.iload_n 1, 1) := by decide +kernel
theorem dX9_noFar_5 : decode cX9_noFar 5 = .ok (.ineg, 1) := by decide +kernel
theorem dX9_noFar_6 : decode cX9_noFar 6 = .ok (.dup2, 1) := by decide +kernel
theorem dX9_noFar_7 : decode cX9_noFar 7 = .ok (.iaload, 1) := by decide +kernel
theorem dX9_noFar_8 : decode cX9_noFar 8 = .ok (.iconst 1, 1) := by decide +kernel
theorem dX9_noFar_9 : decode cX9_noFar 9 = .ok (.iadd, 1) := by decide +kernel
theorem dX9_noFar_10 : decode cX9_noFar 10 = .ok (.iastore, 1) := by decide +kernel
theorem dX9_noFar_11 : decode cX9_noFar 11 = .ok (.iload_n 1, 1) := by decide +kernel
theorem dX9_noFar_12 : decode cX9_noFar 12 = .ok (.ldc 90, 2) := by decide +kernel
theorem dX9_noFar_14 : decode cX9_noFar 14 = .ok (.isub, 1) := by decide +kernel
theorem dX9_noFar_15 : decode cX9_noFar 15 = .ok (.ireturn, 1) := by decide +kernel
theorem dX9_isShelf_0 : decode cX9_isShelf 0 = .ok (.iload_n 1, 1) := by decide +kernel
theorem dX9_isShelf_1 : decode cX9_isShelf 1 = .ok (.ifCond .lt 13, 3) := by decide +kernel
theorem dX9_isShelf_4 : decode cX9_isShelf 4 = .ok (.iload_n 1, 1) := by decide +kernel
theorem dX9_isShelf_5 : decode cX9_isShelf 5 = .ok (.bipush 8, 2) := by decide +kernel
theorem dX9_isShelf_7 : decode cX9_isShelf 7 = .ok (.if_icmp .ge 7, 3) := by decide +kernel
theorem dX9_isShelf_10 : decode cX9_isShelf 10 = .ok (.iconst 1, 1) := by decide +kernel
theorem dX9_isShelf_11 : decode cX9_isShelf 11 = .ok (.goto 4, 3) := by decide +kernel
theorem dX9_isShelf_14 : decode cX9_isShelf 14 = .ok (.iconst 0, 1) := by decide +kernel
theorem dX9_isShelf_15 : decode cX9_isShelf 15 = .ok (.ireturn, 1) := by decide +kernel
theorem dX9_isSetup_0 : decode cX9_isSetup 0 = .ok (.iload_n 1, 1) := by decide +kernel
theorem dX9_isSetup_1 : decode cX9_isSetup 1 = .ok (.ifCond .lt 15, 3) := by decide +kernel
theorem dX9_isSetup_4 : decode cX9_isSetup 4 = .ok (.iload_n 1, 1) := by decide +kernel
theorem dX9_isSetup_5 : decode cX9_isSetup 5 = .ok (.aload_n 0, 1) := by decide +kernel
theorem dX9_isSetup_6 : decode cX9_isSetup 6 = .ok (.getfield 91, 3) := by decide +kernel
theorem dX9_isSetup_9 : decode cX9_isSetup 9 = .ok (.if_icmp .ge 7, 3) := by decide +kernel
theorem dX9_isSetup_12 : decode cX9_isSetup 12 = .ok (.iconst 1, 1) := by decide +kernel
theorem dX9_isSetup_13 : decode cX9_isSetup 13 = .ok (.goto 4, 3) := by decide +kernel
theorem dX9_isSetup_16 : decode cX9_isSetup 16 = .ok (.iconst 0, 1) := by decide +kernel
theorem dX9_isSetup_17 : decode cX9_isSetup 17 = .ok (.ireturn, 1) := by decide +kernel
theorem dX9_abs_0 : decode cX9_abs 0 = .ok (.iload_n 1, 1) := by decide +kernel
theorem dX9_abs_1 : decode cX9_abs 1 = .ok (.ifCond .ge 8, 3) := by decide +kernel
theorem dX9_abs_4 : decode cX9_abs 4 = .ok (.iload_n 1, 1) := by decide +kernel
theorem dX9_abs_5 : decode cX9_abs 5 = .ok (.ineg, 1) := by decide +kernel
theorem dX9_abs_6 : decode cX9_abs 6 = .ok (.goto 4, 3) := by decide +kernel
theorem dX9_abs_9 : decode cX9_abs 9 = .ok (.iload_n 1, 1) := by decide +kernel
theorem dX9_abs_10 : decode cX9_abs 10 = .ok (.ireturn, 1) := by decide +kernel
set_option maxRecDepth 20000 in
theorem ggX9_row_X9_isShelf : GoodIn wsX9_row wsX9_isShelf := goodIn_r _ [9] (by decide +kernel) (by decide +kernel)
set_option maxRecDepth 20000 in
theorem gX9_row_X9_isShelf : GoodIn wsX9_row (wsV RX9 94 RX9 yX9_isShelf wsX9_isShelf) := goodIn_app (goodIn_of _ (by decide +kernel)) ggX9_row_X9_isShelf
set_option maxRecDepth 20000 in
theorem ggX9_row_X9_no : GoodIn wsX9_row wsX9_no := goodIn_r _ [13, 14, 15, 16, 17, 18, 19, 20, 21, 22, 23, 24, 25, 26, 27, 28, 29, 30, 31, 32, 33, 34, 35, 36, 37, 38, 39, 40, 41, 42, 43, 44, 45, 46, 47, 48, 49, 50, 51, 52, 53, 54] (by decide +kernel) (by decide +kernel)
set_option maxRecDepth 20000 in
theorem gX9_row_X9_no : GoodIn wsX9_row (wsV RX9 98 RX9 yX9_no wsX9_no) := goodIn_app (goodIn_of _ (by decide +kernel)) ggX9_row_X9_no
theorem dX9_row_0 : decode cX9_row 0 = .ok (.aload_n 0, 1) := by decide +kernel
theorem dX9_row_1 : decode cX9_row 1 = .ok (.iload_n 1, 1) := by decide +kernel
theorem dX9_row_2 : decode cX9_row 2 = .ok (.invokevirtual 94, 3) := by decide +kernel
theorem dX9_row_5 : decode cX9_row 5 = .ok (.ifCond .ne 9, 3) := by decide +kernel
theorem dX9_row_8 : decode cX9_row 8 = .ok (.aload_n 0, 1) := by decide +kernel
theorem dX9_row_9 : decode cX9_row 9 = .ok (.iconst (-1), 1) := by decide +kernel
theorem dX9_row_10 : decode cX9_row 10 = .ok (.invokevirtual 98, 3) := by decide +kernel
theorem dX9_row_13 : decode cX9_row 13 = .ok (.ireturn, 1) := by decide +kernel
theorem dX9_row_14 : decode cX9_row 14 = .ok (.iload_n 3, 1) := by decide +kernel
theorem dX9_row_15 : decode cX9_row 15 = .ok (.ifCond .ge 10, 3) := by decide +kernel
theorem dX9_row_18 : decode cX9_row 18 = .ok (.aload_n 0, 1) := by decide +kernel
theorem dX9_row_19 : decode cX9_row 19 = .ok (.bipush (-4), 2) := by decide +kernel
theorem dX9_row_21 : decode cX9_row 21 = .ok (.invokevirtual 98, 3) := by decide +kernel
theorem dX9_row_24 : decode cX9_row 24 = .ok (.ireturn, 1) := by decide +kernel
theorem dX9_row_25 : decode cX9_row 25 = .ok (.iload_n 2, 1) := by decide +kernel
theorem dX9_row_26 : decode cX9_row 26 = .ok (.ifCond .lt 8, 3) := by decide +kernel
theorem dX9_row_29 : decode cX9_row 29 = .ok (.iload_n 2, 1) := by decide +kernel
theorem dX9_row_30 : decode cX9_row 30 = .ok (.iconst 3, 1) := by decide +kernel
theorem dX9_row_31 : decode cX9_row 31 = .ok (.if_icmp .le 10, 3) := by decide +kernel
theorem dX9_row_34 : decode cX9_row 34 = .ok (.aload_n 0, 1) := by decide +kernel
theorem dX9_row_35 : decode cX9_row 35 = .ok (.bipush (-6), 2) := by decide +kernel
theorem dX9_row_37 : decode cX9_row 37 = .ok (.invokevirtual 98, 3) := by decide +kernel
theorem dX9_row_40 : decode cX9_row 40 = .ok (.ireturn, 1) := by decide +kernel
theorem dX9_row_41 : decode cX9_row 41 = .ok (.iload_n 3, 1) := by decide +kernel
theorem dX9_row_42 : decode cX9_row 42 = .ok (.sipush 160, 3) := by decide +kernel
theorem dX9_row_45 : decode cX9_row 45 = .ok (.if_icmp .le 10, 3) := by decide +kernel
theorem dX9_row_48 : decode cX9_row 48 = .ok (.aload_n 0, 1) := by decide +kernel
theorem dX9_row_49 : decode cX9_row 49 = .ok (.bipush (-7), 2) := by decide +kernel
theorem dX9_row_51 : decode cX9_row 51 = .ok (.invokevirtual 98, 3) := by decide +kernel
theorem dX9_row_54 : decode cX9_row 54 = .ok (.ireturn, 1) := by decide +kernel
theorem dX9_row_55 : decode cX9_row 55 = .ok (.aload_n 0, 1) := by decide +kernel
theorem dX9_row_56 : decode cX9_row 56 = .ok (.getfield 50, 3) := by decide +kernel
theorem dX9_row_59 : decode cX9_row 59 = .ok (.iload_n 1, 1) := by decide +kernel
theorem dX9_row_60 : decode cX9_row 60 = .ok (.iconst 1, 1) := by decide +kernel
theorem dX9_row_61 : decode cX9_row 61 = .ok (.iastore, 1) := by decide +kernel
theorem dX9_row_62 : decode cX9_row 62 = .ok (.aload_n 0, 1) := by decide +kernel
theorem dX9_row_63 : decode cX9_row 63 = .ok (.getfield 53, 3) := by decide +kernel
theorem dX9_row_66 : decode cX9_row 66 = .ok (.iload_n 1, 1) := by decide +kernel
theorem dX9_row_67 : decode cX9_row 67 = .ok (.iload_n 2, 1) := by decide +kernel
theorem dX9_row_68 : decode cX9_row 68 = .ok (.iastore, 1) := by decide +kernel
theorem dX9_row_69 : decode cX9_row 69 = .ok (.aload_n 0, 1) := by decide +kernel
theorem dX9_row_70 : decode cX9_row 70 = .ok (.getfield 56, 3) := by decide +kernel
theorem dX9_row_73 : decode cX9_row 73 = .ok (.iload_n 1, 1) := by decide +kernel
theorem dX9_row_74 : decode cX9_row 74 = .ok (.iload_n 3, 1) := by decide +kernel
theorem dX9_row_75 : decode cX9_row 75 = .ok (.iastore, 1) := by decide +kernel
theorem dX9_row_76 : decode cX9_row 76 = .ok (.iconst 0, 1) := by decide +kernel
theorem dX9_row_77 : decode cX9_row 77 = .ok (.istore 4, 2) := by decide +kernel
theorem dX9_row_79 : decode cX9_row 79 = .ok (.iload 4, 2) := by decide +kernel
theorem dX9_row_81 : decode cX9_row 81 = .ok (.sipush 160, 3) := by decide +kernel
theorem dX9_row_84 : decode cX9_row 84 = .ok (.if_icmp .ge 23, 3) := by decide +kernel
theorem dX9_row_87 : decode cX9_row 87 = .ok (.aload_n 0, 1) := by decide +kernel
theorem dX9_row_88 : decode cX9_row 88 = .ok (.getfield 62, 3) := by decide +kernel
theorem dX9_row_91 : decode cX9_row 91 = .ok (.sipush 160, 3) := by decide +kernel
theorem dX9_row_94 : decode cX9_row 94 = .ok (.iload_n 1, 1) := by decide +kernel
theorem dX9_row_95 : decode cX9_row 95 = .ok (.imul, 1) := by decide +kernel
theorem dX9_row_96 : decode cX9_row 96 = .ok (.iload 4, 2) := by decide +kernel
theorem dX9_row_98 : decode cX9_row 98 = .ok (.iadd, 1) := by decide +kernel
theorem dX9_row_99 : decode cX9_row 99 = .ok (.lconst 0, 1) := by decide +kernel
theorem dX9_row_100 : decode cX9_row 100 = .ok (.lastore, 1) := by decide +kernel
theorem dX9_row_101 : decode cX9_row 101 = .ok (.iinc 4 1, 3) := by decide +kernel
theorem dX9_row_104 : decode cX9_row 104 = .ok (.goto (-25), 3) := by decide +kernel
theorem dX9_row_107 : decode cX9_row 107 = .ok (.iconst 1, 1) := by decide +kernel
theorem dX9_row_108 : decode cX9_row 108 = .ok (.ireturn, 1) := by decide +kernel
set_option maxRecDepth 20000 in
theorem ggX9_set_X9_isShelf : GoodIn wsX9_set wsX9_isShelf := goodIn_r _ [9] (by decide +kernel) (by decide +kernel)
set_option maxRecDepth 20000 in
theorem gX9_set_X9_isShelf : GoodIn wsX9_set (wsV RX9 94 RX9 yX9_isShelf wsX9_isShelf) := goodIn_app (goodIn_of _ (by decide +kernel)) ggX9_set_X9_isShelf
set_option maxRecDepth 20000 in
theorem ggX9_set_X9_no : GoodIn wsX9_set wsX9_no := goodIn_r _ [13, 14, 15, 16, 17, 18, 19, 20, 21, 22, 23, 24, 25, 26, 27, 28, 29, 30, 31, 32, 33, 34, 35, 36, 37, 38, 39, 40, 41, 42, 43, 44, 45, 46, 47, 48, 49, 50, 51, 52, 53, 54] (by decide +kernel) (by decide +kernel)
set_option maxRecDepth 20000 in
theorem gX9_set_X9_no : GoodIn wsX9_set (wsV RX9 98 RX9 yX9_no wsX9_no) := goodIn_app (goodIn_of _ (by decide +kernel)) ggX9_set_X9_no
theorem dX9_set_0 : decode cX9_set 0 = .ok (.aload_n 0, 1) := by decide +kernel
theorem dX9_set_1 : decode cX9_set 1 = .ok (.iload_n 1, 1) := by decide +kernel
theorem dX9_set_2 : decode cX9_set 2 = .ok (.invokevirtual 94, 3) := by decide +kernel
theorem dX9_set_5 : decode cX9_set 5 = .ok (.ifCond .ne 9, 3) := by decide +kernel
theorem dX9_set_8 : decode cX9_set 8 = .ok (.aload_n 0, 1) := by decide +kernel
theorem dX9_set_9 : decode cX9_set 9 = .ok (.iconst (-1), 1) := by decide +kernel
theorem dX9_set_10 : decode cX9_set 10 = .ok (.invokevirtual 98, 3) := by decide +kernel
theorem dX9_set_13 : decode cX9_set 13 = .ok (.ireturn, 1) := by decide +kernel
theorem dX9_set_14 : decode cX9_set 14 = .ok (.aload_n 0, 1) := by decide +kernel
theorem dX9_set_15 : decode cX9_set 15 = .ok (.getfield 50, 3) := by decide +kernel
theorem dX9_set_18 : decode cX9_set 18 = .ok (.iload_n 1, 1) := by decide +kernel
theorem dX9_set_19 : decode cX9_set 19 = .ok (.iaload, 1) := by decide +kernel
theorem dX9_set_20 : decode cX9_set 20 = .ok (.iconst 2, 1) := by decide +kernel
theorem dX9_set_21 : decode cX9_set 21 = .ok (.if_icmp .ne 10, 3) := by decide +kernel
theorem dX9_set_24 : decode cX9_set 24 = .ok (.aload_n 0, 1) := by decide +kernel
theorem dX9_set_25 : decode cX9_set 25 = .ok (.bipush (-2), 2) := by decide +kernel
theorem dX9_set_27 : decode cX9_set 27 = .ok (.invokevirtual 98, 3) := by decide +kernel
theorem dX9_set_30 : decode cX9_set 30 = .ok (.ireturn, 1) := by decide +kernel
theorem dX9_set_31 : decode cX9_set 31 = .ok (.aload_n 0, 1) := by decide +kernel
theorem dX9_set_32 : decode cX9_set 32 = .ok (.getfield 50, 3) := by decide +kernel
theorem dX9_set_35 : decode cX9_set 35 = .ok (.iload_n 1, 1) := by decide +kernel
theorem dX9_set_36 : decode cX9_set 36 = .ok (.iaload, 1) := by decide +kernel
theorem dX9_set_37 : decode cX9_set 37 = .ok (.ifCond .ne 10, 3) := by decide +kernel
theorem dX9_set_40 : decode cX9_set 40 = .ok (.aload_n 0, 1) := by decide +kernel
theorem dX9_set_41 : decode cX9_set 41 = .ok (.bipush (-3), 2) := by decide +kernel
theorem dX9_set_43 : decode cX9_set 43 = .ok (.invokevirtual 98, 3) := by decide +kernel
theorem dX9_set_46 : decode cX9_set 46 = .ok (.ireturn, 1) := by decide +kernel
theorem dX9_set_47 : decode cX9_set 47 = .ok (.iload_n 2, 1) := by decide +kernel
theorem dX9_set_48 : decode cX9_set 48 = .ok (.ifCond .lt 13, 3) := by decide +kernel
theorem dX9_set_51 : decode cX9_set 51 = .ok (.iload_n 2, 1) := by decide +kernel
theorem dX9_set_52 : decode cX9_set 52 = .ok (.aload_n 0, 1) := by decide +kernel
theorem dX9_set_53 : decode cX9_set 53 = .ok (.getfield 56, 3) := by decide +kernel
theorem dX9_set_56 : decode cX9_set 56 = .ok (.iload_n 1, 1) := by decide +kernel
theorem dX9_set_57 : decode cX9_set 57 = .ok (.iaload, 1) := by decide +kernel
theorem dX9_set_58 : decode cX9_set 58 = .ok (.if_icmp .lt 10, 3) := by decide +kernel
theorem dX9_set_61 : decode cX9_set 61 = .ok (.aload_n 0, 1) := by decide +kernel
theorem dX9_set_62 : decode cX9_set 62 = .ok (.bipush (-5), 2) := by decide +kernel
theorem dX9_set_64 : decode cX9_set 64 = .ok (.invokevirtual 98, 3) := by decide +kernel
theorem dX9_set_67 : decode cX9_set 67 = .ok (.ireturn, 1) := by decide +kernel
theorem dX9_set_68 : decode cX9_set 68 = .ok (.aload_n 0, 1) := by decide +kernel
theorem dX9_set_69 : decode cX9_set 69 = .ok (.getfield 62, 3) := by decide +kernel
theorem dX9_set_72 : decode cX9_set 72 = .ok (.sipush 160, 3) := by decide +kernel
theorem dX9_set_75 : decode cX9_set 75 = .ok (.iload_n 1, 1) := by decide +kernel
theorem dX9_set_76 : decode cX9_set 76 = .ok (.imul, 1) := by decide +kernel
theorem dX9_set_77 : decode cX9_set 77 = .ok (.iload_n 2, 1) := by decide +kernel
theorem dX9_set_78 : decode cX9_set 78 = .ok (.iadd, 1) := by decide +kernel
theorem dX9_set_79 : decode cX9_set 79 = .ok (.aload_n 0, 1) := by decide +kernel
theorem dX9_set_80 : decode cX9_set 80 = .ok (.getfield 53, 3) := by decide +kernel
theorem dX9_set_83 : decode cX9_set 83 = .ok (.iload_n 1, 1) := by decide +kernel
theorem dX9_set_84 : decode cX9_set 84 = .ok (.iaload, 1) := by decide +kernel
theorem dX9_set_85 : decode cX9_set 85 = .ok (.ifCond .ne 10, 3) := by decide +kernel
theorem dX9_set_88 : decode cX9_set 88 = .ok (.lload_n 3, 1) := by decide +kernel
theorem dX9_set_89 : decode cX9_set 89 = .ok (.l2i, 1) := by decide +kernel
theorem dX9_set_90 : decode cX9_set 90 = .ok (.i2b, 1) := by decide +kernel
theorem dX9_set_91 : decode cX9_set 91 = .ok (.i2l, 1) := by decide +kernel
theorem dX9_set_92 : decode cX9_set 92 = .ok (.goto 37, 3) := by decide +kernel
theorem dX9_set_95 : decode cX9_set 95 = .ok (.aload_n 0, 1) := by decide +kernel
theorem dX9_set_96 : decode cX9_set 96 = .ok (.getfield 53, 3) := by decide +kernel
theorem dX9_set_99 : decode cX9_set 99 = .ok (.iload_n 1, 1) := by decide +kernel
theorem dX9_set_100 : decode cX9_set 100 = .ok (.iaload, 1) := by decide +kernel
theorem dX9_set_101 : decode cX9_set 101 = .ok (.iconst 1, 1) := by decide +kernel
theorem dX9_set_102 : decode cX9_set 102 = .ok (.if_icmp .ne 10, 3) := by decide +kernel
theorem dX9_set_105 : decode cX9_set 105 = .ok (.lload_n 3, 1) := by decide +kernel
theorem dX9_set_106 : decode cX9_set 106 = .ok (.l2i, 1) := by decide +kernel
theorem dX9_set_107 : decode cX9_set 107 = .ok (.i2s, 1) := by decide +kernel
theorem dX9_set_108 : decode cX9_set 108 = .ok (.i2l, 1) := by decide +kernel
theorem dX9_set_109 : decode cX9_set 109 = .ok (.goto 20, 3) := by decide +kernel
theorem dX9_set_112 : decode cX9_set 112 = .ok (.aload_n 0, 1) := by decide +kernel
theorem dX9_set_113 : decode cX9_set 113 = .ok (.getfield 53, 3) := by decide +kernel
theorem dX9_set_116 : decode cX9_set 116 = .ok (.iload_n 1, 1) := by decide +kernel
theorem dX9_set_117 : decode cX9_set 117 = .ok (.iaload, 1) := by decide +kernel
theorem dX9_set_118 : decode cX9_set 118 = .ok (.iconst 2, 1) := by decide +kernel
theorem dX9_set_119 : decode cX9_set 119 = .ok (.if_icmp .ne 9, 3) := by decide +kernel
theorem dX9_set_122 : decode cX9_set 122 = .ok (.lload_n 3, 1) := by decide +kernel
theorem dX9_set_123 : decode cX9_set 123 = .ok (.l2i, 1) := by decide +kernel
theorem dX9_set_124 : decode cX9_set 124 = .ok (.i2l, 1) := by decide +kernel
theorem dX9_set_125 : decode cX9_set 125 = .ok (.goto 4, 3) := by decide +kernel
theorem dX9_set_128 : decode cX9_set 128 = .ok (.lload_n 3, 1) := by decide +kernel
theorem dX9_set_129 : decode cX9_set 129 = .ok (.lastore, 1) := by decide +kernel
theorem dX9_set_130 : decode cX9_set 130 = .ok (.iconst 1, 1) := by decide +kernel
theorem dX9_set_131 : decode cX9_set 131 = .ok (.ireturn, 1) := by decide +kernel
set_option maxRecDepth 20000 in
theorem ggX9_copy_X9_isShelf : GoodIn wsX9_copy wsX9_isShelf := goodIn_r _ [10] (by decide +kernel) (by decide +kernel)
set_option maxRecDepth 20000 in
theorem gX9_copy_X9_isShelf : GoodIn wsX9_copy (wsV RX9 94 RX9 yX9_isShelf wsX9_isShelf) := goodIn_app (goodIn_of _ (by decide +kernel)) ggX9_copy_X9_isShelf
set_option maxRecDepth 20000 in
theorem ggX9_copy_X9_no : GoodIn wsX9_copy wsX9_no := goodIn_r _ [14, 15, 16, 17, 18, 19, 20, 21, 22, 23, 24, 25, 26, 27, 28, 29, 30, 31, 32, 33, 34, 35, 36, 37, 38, 39, 40, 41, 42, 43, 44, 45, 46, 47, 48, 49, 50, 51, 52, 53, 54, 55] (by decide +kernel) (by decide +kernel)
set_option maxRecDepth 20000 in
theorem gX9_copy_X9_no : GoodIn wsX9_copy (wsV RX9 98 RX9 yX9_no wsX9_no) := goodIn_app (goodIn_of _ (by decide +kernel)) ggX9_copy_X9_no
theorem dX9_copy_0 : decode cX9_copy 0 = .ok (.aload_n 0, 1) := by decide +kernel
theorem dX9_copy_1 : decode cX9_copy 1 = .ok (.iload_n 1, 1) := by decide +kernel
theorem dX9_copy_2 : decode cX9_copy 2 = .ok (.invokevirtual 94, 3) := by decide +kernel
theorem dX9_copy_5 : decode cX9_copy 5 = .ok (.ifCond .eq 11, 3) := by decide +kernel
theorem dX9_copy_8 : decode cX9_copy 8 = .ok (.aload_n 0, 1) := by decide +kernel
theorem dX9_copy_9 : decode cX9_copy 9 = .ok (.iload_n 2, 1) := by decide +kernel
theorem dX9_copy_10 : decode cX9_copy 10 = .ok (.invokevirtual 94, 3) := by decide +kernel
theorem dX9_copy_13 : decode cX9_copy 13 = .ok (.ifCond .ne 9, 3) := by decide +kernel
theorem dX9_copy_16 : decode cX9_copy 16 = .ok (.aload_n 0, 1) := by decide +kernel
theorem dX9_copy_17 : decode cX9_copy 17 = .ok (.iconst (-1), 1) := by decide +kernel
theorem dX9_copy_18 : decode cX9_copy 18 = .ok (.invokevirtual 98, 3) := by decide +kernel
theorem dX9_copy_21 : decode cX9_copy 21 = .ok (.ireturn, 1) := by decide +kernel
theorem dX9_copy_22 : decode cX9_copy 22 = .ok (.aload_n 0, 1) := by decide +kernel
theorem dX9_copy_23 : decode cX9_copy 23 = .ok (.getfield 50, 3) := by decide +kernel
theorem dX9_copy_26 : decode cX9_copy 26 = .ok (.iload_n 1, 1) := by decide +kernel
theorem dX9_copy_27 : decode cX9_copy 27 = .ok (.iaload, 1) := by decide +kernel
theorem dX9_copy_28 : decode cX9_copy 28 = .ok (.iconst 2, 1) := by decide +kernel
theorem dX9_copy_29 : decode cX9_copy 29 = .ok (.if_icmp .eq 48, 3) := by decide +kernel
theorem dX9_copy_32 : decode cX9_copy 32 = .ok (.aload_n 0, 1) := by decide +kernel
theorem dX9_copy_33 : decode cX9_copy 33 = .ok (.getfield 50, 3) := by decide +kernel
theorem dX9_copy_36 : decode cX9_copy 36 = .ok (.iload_n 2, 1) := by decide +kernel
theorem dX9_copy_37 : decode cX9_copy 37 = .ok (.iaload, 1) := by decide +kernel
theorem dX9_copy_38 : decode cX9_copy 38 = .ok (.iconst 2, 1) := by decide +kernel
theorem dX9_copy_39 : decode cX9_copy 39 = .ok (.if_icmp .eq 38, 3) := by decide +kernel
theorem dX9_copy_42 : decode cX9_copy 42 = .ok (.aload_n 0, 1) := by decide +kernel
theorem dX9_copy_43 : decode cX9_copy 43 = .ok (.getfield 50, 3) := by decide +kernel
theorem dX9_copy_46 : decode cX9_copy 46 = .ok (.iload_n 1, 1) := by decide +kernel
theorem dX9_copy_47 : decode cX9_copy 47 = .ok (.iaload, 1) := by decide +kernel
theorem dX9_copy_48 : decode cX9_copy 48 = .ok (.iconst 1, 1) := by decide +kernel
theorem dX9_copy_49 : decode cX9_copy 49 = .ok (.if_icmp .ne 35, 3) := by decide +kernel
theorem dX9_copy_52 : decode cX9_copy 52 = .ok (.aload_n 0, 1) := by decide +kernel
theorem dX9_copy_53 : decode cX9_copy 53 = .ok (.getfield 50, 3) := by decide +kernel
theorem dX9_copy_56 : decode cX9_copy 56 = .ok (.iload_n 2, 1) := by decide +kernel
theorem dX9_copy_57 : decode cX9_copy 57 = .ok (.iaload, 1) := by decide +kernel
theorem dX9_copy_58 : decode cX9_copy 58 = .ok (.iconst 1, 1) := by decide +kernel
theorem dX9_copy_59 : decode cX9_copy 59 = .ok (.if_icmp .ne 25, 3) := by decide +kernel
theorem dX9_copy_62 : decode cX9_copy 62 = .ok (.aload_n 0, 1) := by decide +kernel
theorem dX9_copy_63 : decode cX9_copy 63 = .ok (.getfield 53, 3) := by decide +kernel
theorem dX9_copy_66 : decode cX9_copy 66 = .ok (.iload_n 1, 1) := by decide +kernel
theorem dX9_copy_67 : decode cX9_copy 67 = .ok (.iaload, 1) := by decide +kernel
theorem dX9_copy_68 : decode cX9_copy 68 = .ok (.aload_n 0, 1) := by decide +kernel
theorem dX9_copy_69 : decode cX9_copy 69 = .ok (.getfield 53, 3) := by decide +kernel
theorem dX9_copy_72 : decode cX9_copy 72 = .ok (.iload_n 2, 1) := by decide +kernel
theorem dX9_copy_73 : decode cX9_copy 73 = .ok (.iaload, 1) := by decide +kernel
theorem dX9_copy_74 : decode cX9_copy 74 = .ok (.if_icmp .eq 10, 3) := by decide +kernel
theorem dX9_copy_77 : decode cX9_copy 77 = .ok (.aload_n 0, 1) := by decide +kernel
theorem dX9_copy_78 : decode cX9_copy 78 = .ok (.bipush (-2), 2) := by decide +kernel
theorem dX9_copy_80 : decode cX9_copy 80 = .ok (.invokevirtual 98, 3) := by decide +kernel
theorem dX9_copy_83 : decode cX9_copy 83 = .ok (.ireturn, 1) := by decide +kernel
theorem dX9_copy_84 : decode cX9_copy 84 = .ok (.aload_n 0, 1) := by decide +kernel
theorem dX9_copy_85 : decode cX9_copy 85 = .ok (.getfield 50, 3) := by decide +kernel
theorem dX9_copy_88 : decode cX9_copy 88 = .ok (.iload_n 1, 1) := by decide +kernel
theorem dX9_copy_89 : decode cX9_copy 89 = .ok (.iaload, 1) := by decide +kernel
theorem dX9_copy_90 : decode cX9_copy 90 = .ok (.ifCond .eq 12, 3) := by decide +kernel
theorem dX9_copy_93 : decode cX9_copy 93 = .ok (.aload_n 0, 1) := by decide +kernel
theorem dX9_copy_94 : decode cX9_copy 94 = .ok (.getfield 50, 3) := by decide +kernel
theorem dX9_copy_97 : decode cX9_copy 97 = .ok (.iload_n 2, 1) := by decide +kernel
theorem dX9_copy_98 : decode cX9_copy 98 = .ok (.iaload, 1) := by decide +kernel
theorem dX9_copy_99 : decode cX9_copy 99 = .ok (.ifCond .ne 10, 3) := by decide +kernel
theorem dX9_copy_102 : decode cX9_copy 102 = .ok (.aload_n 0, 1) := by decide +kernel
theorem dX9_copy_103 : decode cX9_copy 103 = .ok (.bipush (-3), 2) := by decide +kernel
theorem dX9_copy_105 : decode cX9_copy 105 = .ok (.invokevirtual 98, 3) := by decide +kernel
theorem dX9_copy_108 : decode cX9_copy 108 = .ok (.ireturn, 1) := by decide +kernel
theorem dX9_copy_109 : decode cX9_copy 109 = .ok (.iload 5, 2) := by decide +kernel
theorem dX9_copy_111 : decode cX9_copy 111 = .ok (.ifCond .ge 10, 3) := by decide +kernel
theorem dX9_copy_114 : decode cX9_copy 114 = .ok (.aload_n 0, 1) := by decide +kernel
theorem dX9_copy_115 : decode cX9_copy 115 = .ok (.bipush (-4), 2) := by decide +kernel
theorem dX9_copy_117 : decode cX9_copy 117 = .ok (.invokevirtual 98, 3) := by decide +kernel
theorem dX9_copy_120 : decode cX9_copy 120 = .ok (.ireturn, 1) := by decide +kernel
theorem dX9_copy_121 : decode cX9_copy 121 = .ok (.iload_n 3, 1) := by decide +kernel
theorem dX9_copy_122 : decode cX9_copy 122 = .ok (.ifCond .lt 35, 3) := by decide +kernel
theorem dX9_copy_125 : decode cX9_copy 125 = .ok (.iload 4, 2) := by decide +kernel
theorem dX9_copy_127 : decode cX9_copy 127 = .ok (.ifCond .lt 30, 3) := by decide +kernel
theorem dX9_copy_130 : decode cX9_copy 130 = .ok (.iload_n 3, 1) := by decide +kernel
theorem dX9_copy_131 : decode cX9_copy 131 = .ok (.aload_n 0, 1) := by decide +kernel
theorem dX9_copy_132 : decode cX9_copy 132 = .ok (.getfield 56, 3) := by decide +kernel
theorem dX9_copy_135 : decode cX9_copy 135 = .ok (.iload_n 1, 1) := by decide +kernel
theorem dX9_copy_136 : decode cX9_copy 136 = .ok (.iaload, 1) := by decide +kernel
theorem dX9_copy_137 : decode cX9_copy 137 = .ok (.iload 5, 2) := by decide +kernel
theorem dX9_copy_139 : decode cX9_copy 139 = .ok (.isub, 1) := by decide +kernel
theorem dX9_copy_140 : decode cX9_copy 140 = .ok (.if_icmp .gt 17, 3) := by decide +kernel
theorem dX9_copy_143 : decode cX9_copy 143 = .ok (.iload 4, 2) := by decide +kernel
theorem dX9_copy_145 : decode cX9_copy 145 = .ok (.aload_n 0, 1) := by decide +kernel
theorem dX9_copy_146 : decode cX9_copy 146 = .ok (.getfield 56, 3) := by decide +kernel
theorem dX9_copy_149 : decode cX9_copy 149 = .ok (.iload_n 2, 1) := by decide +kernel
theorem dX9_copy_150 : decode cX9_copy 150 = .ok (.iaload, 1) := by decide +kernel
theorem dX9_copy_151 : decode cX9_copy 151 = .ok (.iload 5, 2) := by decide +kernel
theorem dX9_copy_153 : decode cX9_copy 153 = .ok (.isub, 1) := by decide +kernel
theorem dX9_copy_154 : decode cX9_copy 154 = .ok (.if_icmp .le 10, 3) := by decide +kernel
theorem dX9_copy_157 : decode cX9_copy 157 = .ok (.aload_n 0, 1) := by decide +kernel
theorem dX9_copy_158 : decode cX9_copy 158 = .ok (.bipush (-5), 2) := by decide +kernel
theorem dX9_copy_160 : decode cX9_copy 160 = .ok (.invokevirtual 98, 3) := by decide +kernel
theorem dX9_copy_163 : decode cX9_copy 163 = .ok (.ireturn, 1) := by decide +kernel
theorem dX9_copy_164 : decode cX9_copy 164 = .ok (.iconst 0, 1) := by decide +kernel
theorem dX9_copy_165 : decode cX9_copy 165 = .ok (.istore 6, 2) := by decide +kernel
theorem dX9_copy_167 : decode cX9_copy 167 = .ok (.iload 6, 2) := by decide +kernel
theorem dX9_copy_169 : decode cX9_copy 169 = .ok (.iload 5, 2) := by decide +kernel
theorem dX9_copy_171 : decode cX9_copy 171 = .ok (.if_icmp .ge 31, 3) := by decide +kernel
theorem dX9_copy_174 : decode cX9_copy 174 = .ok (.aload_n 0, 1) := by decide +kernel
theorem dX9_copy_175 : decode cX9_copy 175 = .ok (.getfield 66, 3) := by decide +kernel
theorem dX9_copy_178 : decode cX9_copy 178 = .ok (.iload 6, 2) := by decide +kernel
theorem dX9_copy_180 : decode cX9_copy 180 = .ok (.aload_n 0, 1) := by decide +kernel
theorem dX9_copy_181 : decode cX9_copy 181 = .ok (.getfield 62, 3) := by decide +kernel
theorem dX9_copy_184 : decode cX9_copy 184 = .ok (.sipush 160, 3) := by decide +kernel
theorem dX9_copy_187 : decode cX9_copy 187 = .ok (.iload_n 1, 1) := by decide +kernel
theorem dX9_copy_188 : decode cX9_copy 188 = .ok (.imul, 1) := by decide +kernel
theorem dX9_copy_189 : decode cX9_copy 189 = .ok (.iload_n 3, 1) := by decide +kernel
theorem dX9_copy_190 : decode cX9_copy 190 = .ok (.iadd, 1) := by decide +kernel
theorem dX9_copy_191 : decode cX9_copy 191 = .ok (.iload 6, 2) := by decide +kernel
theorem dX9_copy_193 : decode cX9_copy 193 = .ok (.iadd, 1) := by decide +kernel
theorem dX9_copy_194 : decode cX9_copy 194 = .ok (.laload, 1) := by decide +kernel
theorem dX9_copy_195 : decode cX9_copy 195 = .ok (.lastore, 1) := by decide +kernel
theorem dX9_copy_196 : decode cX9_copy 196 = .ok (.iinc 6 1, 3) := by decide +kernel
theorem dX9_copy_199 : decode cX9_copy 199 = .ok (.goto (-32), 3) := by decide +kernel
theorem dX9_copy_202 : decode cX9_copy 202 = .ok (.iconst 0, 1) := by decide +kernel
theorem dX9_copy_203 : decode cX9_copy 203 = .ok (.istore 6, 2) := by decide +kernel
theorem dX9_copy_205 : decode cX9_copy 205 = .ok (.iload 6, 2) := by decide +kernel
theorem dX9_copy_207 : decode cX9_copy 207 = .ok (.iload 5, 2) := by decide +kernel
theorem dX9_copy_209 : decode cX9_copy 209 = .ok (.if_icmp .ge 32, 3) := by decide +kernel
theorem dX9_copy_212 : decode cX9_copy 212 = .ok (.aload_n 0, 1) := by decide +kernel
theorem dX9_copy_213 : decode cX9_copy 213 = .ok (.getfield 62, 3) := by decide +kernel
theorem dX9_copy_216 : decode cX9_copy 216 = .ok (.sipush 160, 3) := by decide +kernel
theorem dX9_copy_219 : decode cX9_copy 219 = .ok (.iload_n 2, 1) := by decide +kernel
theorem dX9_copy_220 : decode cX9_copy 220 = .ok (.imul, 1) := by decide +kernel
theorem dX9_copy_221 : decode cX9_copy 221 = .ok (.iload 4, 2) := by decide +kernel
theorem dX9_copy_223 : decode cX9_copy 223 = .ok (.iadd, 1) := by decide +kernel
theorem dX9_copy_224 : decode cX9_copy 224 = .ok (.iload 6, 2) := by decide +kernel
theorem dX9_copy_226 : decode cX9_copy 226 = .ok (.iadd, 1) := by decide +kernel
theorem dX9_copy_227 : decode cX9_copy 227 = .ok (.aload_n 0, 1) := by decide +kernel
theorem dX9_copy_228 : decode cX9_copy 228 = .ok (.getfield 66, 3) := by decide +kernel
theorem dX9_copy_231 : decode cX9_copy 231 = .ok (.iload 6, 2) := by decide +kernel
theorem dX9_copy_233 : decode cX9_copy 233 = .ok (.laload, 1) := by decide +kernel
theorem dX9_copy_234 : decode cX9_copy 234 = .ok (.lastore, 1) := by decide +kernel
theorem dX9_copy_235 : decode cX9_copy 235 = .ok (.iinc 6 1, 3) := by decide +kernel
theorem dX9_copy_238 : decode cX9_copy 238 = .ok (.goto (-33), 3) := by decide +kernel
theorem dX9_copy_241 : decode cX9_copy 241 = .ok (.iconst 1, 1) := by decide +kernel
theorem dX9_copy_242 : decode cX9_copy 242 = .ok (.ireturn, 1) := by decide +kernel
set_option maxRecDepth 20000 in
theorem ggX9_element_X9_isShelf : GoodIn wsX9_element wsX9_isShelf := goodIn_r _ [8] (by decide +kernel) (by decide +kernel)
set_option maxRecDepth 20000 in
theorem gX9_element_X9_isShelf : GoodIn wsX9_element (wsV RX9 94 RX9 yX9_isShelf wsX9_isShelf) := goodIn_app (goodIn_of _ (by decide +kernel)) ggX9_element_X9_isShelf
theorem dX9_element_0 : decode cX9_element 0 = .ok (.aload_n 0, 1) := by decide +kernel
theorem dX9_element_1 : decode cX9_element 1 = .ok (.iload_n 1, 1) := by decide +kernel
theorem dX9_element_2 : decode cX9_element 2 = .ok (.invokevirtual 94, 3) := by decide +kernel
theorem dX9_element_5 : decode cX9_element 5 = .ok (.ifCond .eq 42, 3) := by decide +kernel
theorem dX9_element_8 : decode cX9_element 8 = .ok (.aload_n 0, 1) := by decide +kernel
theorem dX9_element_9 : decode cX9_element 9 = .ok (.getfield 50, 3) := by decide +kernel
theorem dX9_element_12 : decode cX9_element 12 = .ok (.iload_n 1, 1) := by decide +kernel
theorem dX9_element_13 : decode cX9_element 13 = .ok (.iaload, 1) := by decide +kernel
theorem dX9_element_14 : decode cX9_element 14 = .ok (.iconst 1, 1) := by decide +kernel
theorem dX9_element_15 : decode cX9_element 15 = .ok (.if_icmp .ne 32, 3) := by decide +kernel
theorem dX9_element_18 : decode cX9_element 18 = .ok (.iload_n 2, 1) := by decide +kernel
theorem dX9_element_19 : decode cX9_element 19 = .ok (.ifCond .lt 28, 3) := by decide +kernel
theorem dX9_element_22 : decode cX9_element 22 = .ok (.iload_n 2, 1) := by decide +kernel
theorem dX9_element_23 : decode cX9_element 23 = .ok (.aload_n 0, 1) := by decide +kernel
theorem dX9_element_24 : decode cX9_element 24 = .ok (.getfield 56, 3) := by decide +kernel
theorem dX9_element_27 : decode cX9_element 27 = .ok (.iload_n 1, 1) := by decide +kernel
theorem dX9_element_28 : decode cX9_element 28 = .ok (.iaload, 1) := by decide +kernel
theorem dX9_element_29 : decode cX9_element 29 = .ok (.if_icmp .ge 18, 3) := by decide +kernel
theorem dX9_element_32 : decode cX9_element 32 = .ok (.aload_n 0, 1) := by decide +kernel
theorem dX9_element_33 : decode cX9_element 33 = .ok (.getfield 62, 3) := by decide +kernel
theorem dX9_element_36 : decode cX9_element 36 = .ok (.sipush 160, 3) := by decide +kernel
theorem dX9_element_39 : decode cX9_element 39 = .ok (.iload_n 1, 1) := by decide +kernel
theorem dX9_element_40 : decode cX9_element 40 = .ok (.imul, 1) := by decide +kernel
theorem dX9_element_41 : decode cX9_element 41 = .ok (.iload_n 2, 1) := by decide +kernel
theorem dX9_element_42 : decode cX9_element 42 = .ok (.iadd, 1) := by decide +kernel
theorem dX9_element_43 : decode cX9_element 43 = .ok (.laload, 1) := by decide +kernel
theorem dX9_element_44 : decode cX9_element 44 = .ok (.goto 4, 3) := by decide +kernel
theorem dX9_element_47 : decode cX9_element 47 = .ok (.lconst 0, 1) := by decide +kernel
theorem dX9_element_48 : decode cX9_element 48 = .ok (.lreturn, 1) := by decide +kernel
set_option maxRecDepth 20000 in
theorem ggX9_show_X9_isShelf : GoodIn wsX9_show wsX9_isShelf := goodIn_r _ [7] (by decide +kernel) (by decide +kernel)
set_option maxRecDepth 20000 in
theorem gX9_show_X9_isShelf : GoodIn wsX9_show (wsV RX9 94 RX9 yX9_isShelf wsX9_isShelf) := goodIn_app (goodIn_of _ (by decide +kernel)) ggX9_show_X9_isShelf
set_option maxRecDepth 20000 in
theorem ggX9_show_X9_isSetup : GoodIn wsX9_show wsX9_isSetup := goodIn_r _ [11, 12, 18, 19, 20, 21, 22, 23, 24, 25, 26, 27, 28, 29, 30, 31, 32, 33, 34, 35, 36, 37, 38, 39, 40, 41, 42, 43, 44, 45, 46, 47, 48, 49, 50, 51, 52, 53, 54, 55, 56, 57] (by decide +kernel) (by decide +kernel)
set_option maxRecDepth 20000 in
theorem gX9_show_X9_isSetup : GoodIn wsX9_show (wsV RX9 102 RX9 yX9_isSetup wsX9_isSetup) := goodIn_app (goodIn_of _ (by decide +kernel)) ggX9_show_X9_isSetup
set_option maxRecDepth 20000 in
theorem ggX9_show_X9_no : GoodIn wsX9_show wsX9_no := goodIn_r _ [16, 17, 18, 19, 20, 21, 22, 23, 24, 25, 26, 27, 28, 29, 30, 31, 32, 33, 34, 35, 36, 37, 38, 39, 40, 41, 42, 43, 44, 45, 46, 47, 48, 49, 50, 51, 52, 53, 54, 55, 56, 57] (by decide +kernel) (by decide +kernel)
set_option maxRecDepth 20000 in
theorem gX9_show_X9_no : GoodIn wsX9_show (wsV RX9 98 RX9 yX9_no wsX9_no) := goodIn_app (goodIn_of _ (by decide +kernel)) ggX9_show_X9_no
theorem dX9_show_0 : decode cX9_show 0 = .ok (.aload_n 0, 1) := by decide +kernel
theorem dX9_show_1 : decode cX9_show 1 = .ok (.iload_n 1, 1) := by decide +kernel
theorem dX9_show_2 : decode cX9_show 2 = .ok (.invokevirtual 94, 3) := by decide +kernel
theorem dX9_show_5 : decode cX9_show 5 = .ok (.ifCond .eq 16, 3) := by decide +kernel
theorem dX9_show_8 : decode cX9_show 8 = .ok (.iload_n 2, 1) := by decide +kernel
theorem dX9_show_9 : decode cX9_show 9 = .ok (.iconst (-1), 1) := by decide +kernel
theorem dX9_show_10 : decode cX9_show 10 = .ok (.if_icmp .eq 17, 3) := by decide +kernel
theorem dX9_show_13 : decode cX9_show 13 = .ok (.aload_n 0, 1) := by decide +kernel
theorem dX9_show_14 : decode cX9_show 14 = .ok (.iload_n 2, 1) := by decide +kernel
theorem dX9_show_15 : decode cX9_show 15 = .ok (.invokevirtual 102, 3) := by decide +kernel
theorem dX9_show_18 : decode cX9_show 18 = .ok (.ifCond .ne 9, 3) := by decide +kernel
theorem dX9_show_21 : decode cX9_show 21 = .ok (.aload_n 0, 1) := by decide +kernel
theorem dX9_show_22 : decode cX9_show 22 = .ok (.iconst (-1), 1) := by decide +kernel
theorem dX9_show_23 : decode cX9_show 23 = .ok (.invokevirtual 98, 3) := by decide +kernel
theorem dX9_show_26 : decode cX9_show 26 = .ok (.ireturn, 1) := by decide +kernel
theorem dX9_show_27 : decode cX9_show 27 = .ok (.aload_n 0, 1) := by decide +kernel
theorem dX9_show_28 : decode cX9_show 28 = .ok (.getfield 50, 3) := by decide +kernel
theorem dX9_show_31 : decode cX9_show 31 = .ok (.iload_n 1, 1) := by decide +kernel
theorem dX9_show_32 : decode cX9_show 32 = .ok (.iload_n 2, 1) := by decide +kernel
theorem dX9_show_33 : decode cX9_show 33 = .ok (.iconst (-1), 1) := by decide +kernel
theorem dX9_show_34 : decode cX9_show 34 = .ok (.if_icmp .ne 7, 3) := by decide +kernel
theorem dX9_show_37 : decode cX9_show 37 = .ok (.iconst 0, 1) := by decide +kernel
theorem dX9_show_38 : decode cX9_show 38 = .ok (.goto 4, 3) := by decide +kernel
theorem dX9_show_41 : decode cX9_show 41 = .ok (.iconst 2, 1) := by decide +kernel
theorem dX9_show_42 : decode cX9_show 42 = .ok (.iastore, 1) := by decide +kernel
theorem dX9_show_43 : decode cX9_show 43 = .ok (.aload_n 0, 1) := by decide +kernel
theorem dX9_show_44 : decode cX9_show 44 = .ok (.getfield 59, 3) := by decide +kernel
theorem dX9_show_47 : decode cX9_show 47 = .ok (.iload_n 1, 1) := by decide +kernel
theorem dX9_show_48 : decode cX9_show 48 = .ok (.iload_n 2, 1) := by decide +kernel
theorem dX9_show_49 : decode cX9_show 49 = .ok (.iastore, 1) := by decide +kernel
theorem dX9_show_50 : decode cX9_show 50 = .ok (.iload_n 2, 1) := by decide +kernel
theorem dX9_show_51 : decode cX9_show 51 = .ok (.iconst (-1), 1) := by decide +kernel
theorem dX9_show_52 : decode cX9_show 52 = .ok (.if_icmp .ne 7, 3) := by decide +kernel
theorem dX9_show_55 : decode cX9_show 55 = .ok (.iconst 0, 1) := by decide +kernel
theorem dX9_show_56 : decode cX9_show 56 = .ok (.goto 4, 3) := by decide +kernel
theorem dX9_show_59 : decode cX9_show 59 = .ok (.iconst 1, 1) := by decide +kernel
theorem dX9_show_60 : decode cX9_show 60 = .ok (.ireturn, 1) := by decide +kernel
set_option maxRecDepth 20000 in
theorem ggX9_holds_X9_isShelf : GoodIn wsX9_holds wsX9_isShelf := goodIn_r _ [8] (by decide +kernel) (by decide +kernel)
set_option maxRecDepth 20000 in
theorem gX9_holds_X9_isShelf : GoodIn wsX9_holds (wsV RX9 94 RX9 yX9_isShelf wsX9_isShelf) := goodIn_app (goodIn_of _ (by decide +kernel)) ggX9_holds_X9_isShelf
theorem dX9_holds_0 : decode cX9_holds 0 = .ok (.aload_n 0, 1) := by decide +kernel
theorem dX9_holds_1 : decode cX9_holds 1 = .ok (.iload_n 1, 1) := by decide +kernel
theorem dX9_holds_2 : decode cX9_holds 2 = .ok (.invokevirtual 94, 3) := by decide +kernel
theorem dX9_holds_5 : decode cX9_holds 5 = .ok (.ifCond .eq 12, 3) := by decide +kernel
theorem dX9_holds_8 : decode cX9_holds 8 = .ok (.aload_n 0, 1) := by decide +kernel
theorem dX9_holds_9 : decode cX9_holds 9 = .ok (.getfield 50, 3) := by decide +kernel
theorem dX9_holds_12 : decode cX9_holds 12 = .ok (.iload_n 1, 1) := by decide +kernel
theorem dX9_holds_13 : decode cX9_holds 13 = .ok (.iaload, 1) := by decide +kernel
theorem dX9_holds_14 : decode cX9_holds 14 = .ok (.ifCond .ne 5, 3) := by decide +kernel
theorem dX9_holds_17 : decode cX9_holds 17 = .ok (.iconst (-1), 1) := by decide +kernel
theorem dX9_holds_18 : decode cX9_holds 18 = .ok (.ireturn, 1) := by decide +kernel
theorem dX9_holds_19 : decode cX9_holds 19 = .ok (.aload_n 0, 1) := by decide +kernel
theorem dX9_holds_20 : decode cX9_holds 20 = .ok (.getfield 50, 3) := by decide +kernel
theorem dX9_holds_23 : decode cX9_holds 23 = .ok (.iload_n 1, 1) := by decide +kernel
theorem dX9_holds_24 : decode cX9_holds 24 = .ok (.iaload, 1) := by decide +kernel
theorem dX9_holds_25 : decode cX9_holds 25 = .ok (.iconst 1, 1) := by decide +kernel
theorem dX9_holds_26 : decode cX9_holds 26 = .ok (.if_icmp .ne 15, 3) := by decide +kernel
theorem dX9_holds_29 : decode cX9_holds 29 = .ok (.bipush 100, 2) := by decide +kernel
theorem dX9_holds_31 : decode cX9_holds 31 = .ok (.aload_n 0, 1) := by decide +kernel
theorem dX9_holds_32 : decode cX9_holds 32 = .ok (.getfield 53, 3) := by decide +kernel
theorem dX9_holds_35 : decode cX9_holds 35 = .ok (.iload_n 1, 1) := by decide +kernel
theorem dX9_holds_36 : decode cX9_holds 36 = .ok (.iaload, 1) := by decide +kernel
theorem dX9_holds_37 : decode cX9_holds 37 = .ok (.iadd, 1) := by decide +kernel
theorem dX9_holds_38 : decode cX9_holds 38 = .ok (.goto 9, 3) := by decide +kernel
theorem dX9_holds_41 : decode cX9_holds 41 = .ok (.aload_n 0, 1) := by decide +kernel
theorem dX9_holds_42 : decode cX9_holds 42 = .ok (.getfield 59, 3) := by decide +kernel
theorem dX9_holds_45 : decode cX9_holds 45 = .ok (.iload_n 1, 1) := by decide +kernel
theorem dX9_holds_46 : decode cX9_holds 46 = .ok (.iaload, 1) := by decide +kernel
theorem dX9_holds_47 : decode cX9_holds 47 = .ok (.ireturn, 1) := by decide +kernel
set_option maxRecDepth 20000 in
theorem ggX9_says_X9_isShelf : GoodIn wsX9_says wsX9_isShelf := goodIn_r _ [11] (by decide +kernel) (by decide +kernel)
set_option maxRecDepth 20000 in
theorem gX9_says_X9_isShelf : GoodIn wsX9_says (wsV RX9 94 RX9 yX9_isShelf wsX9_isShelf) := goodIn_app (goodIn_of _ (by decide +kernel)) ggX9_says_X9_isShelf
set_option maxRecDepth 20000 in
theorem ggX9_says_X9_noFar : GoodIn wsX9_says wsX9_noFar := goodIn_r _ [15, 16, 17, 22, 23, 24, 25, 26, 27, 28, 29, 30, 31, 32, 33, 34, 35, 36, 37, 38, 39, 40, 41, 42, 43, 44, 45, 46, 47, 48, 49, 50, 51, 52, 53, 54, 55, 56, 57, 58, 59, 60, 61] (by decide +kernel) (by decide +kernel)
set_option maxRecDepth 20000 in
theorem gX9_says_X9_noFar : GoodIn wsX9_says (wsV RX9 105 RX9 yX9_noFar wsX9_noFar) := goodIn_app (goodIn_of _ (by decide +kernel)) ggX9_says_X9_noFar
set_option maxRecDepth 20000 in
theorem ggX9_says_X9_sinks : GoodIn wsX9_says wsX9_sinks := goodIn_r _ [21, 3, 6, 22, 23, 24, 25, 26, 27, 28, 29, 30, 31, 32, 33, 34, 35, 36, 37, 38, 39, 40, 41, 42, 43, 44, 45, 46, 47, 48, 49, 50, 51, 52, 53, 54, 55, 56, 57, 58, 59, 60, 61] (by decide +kernel) (by decide +kernel)
set_option maxRecDepth 20000 in
theorem gX9_says_X9_sinks : GoodIn wsX9_says (wsV RX9 108 RX9 yX9_sinks wsX9_sinks) := goodIn_app (goodIn_of _ (by decide +kernel)) ggX9_says_X9_sinks
theorem dX9_says_0 : decode cX9_says 0 = .ok (.aload_n 0, 1) := by decide +kernel
theorem dX9_says_1 : decode cX9_says 1 = .ok (.iload_n 1, 1) := by decide +kernel
theorem dX9_says_2 : decode cX9_says 2 = .ok (.invokevirtual 94, 3) := by decide +kernel
theorem dX9_says_5 : decode cX9_says 5 = .ok (.ifCond .eq 13, 3) := by decide +kernel
theorem dX9_says_8 : decode cX9_says 8 = .ok (.iload_n 2, 1) := by decide +kernel
theorem dX9_says_9 : decode cX9_says 9 = .ok (.ifCond .lt 9, 3) := by decide +kernel
theorem dX9_says_12 : decode cX9_says 12 = .ok (.iload_n 2, 1) := by decide +kernel
theorem dX9_says_13 : decode cX9_says 13 = .ok (.bipush 6, 2) := by decide +kernel
theorem dX9_says_15 : decode cX9_says 15 = .ok (.if_icmp .le 9, 3) := by decide +kernel
theorem dX9_says_18 : decode cX9_says 18 = .ok (.aload_n 0, 1) := by decide +kernel
theorem dX9_says_19 : decode cX9_says 19 = .ok (.iconst (-1), 1) := by decide +kernel
theorem dX9_says_20 : decode cX9_says 20 = .ok (.invokevirtual 105, 3) := by decide +kernel
theorem dX9_says_23 : decode cX9_says 23 = .ok (.ireturn, 1) := by decide +kernel
theorem dX9_says_24 : decode cX9_says 24 = .ok (.aload_n 0, 1) := by decide +kernel
theorem dX9_says_25 : decode cX9_says 25 = .ok (.getfield 50, 3) := by decide +kernel
theorem dX9_says_28 : decode cX9_says 28 = .ok (.iload_n 1, 1) := by decide +kernel
theorem dX9_says_29 : decode cX9_says 29 = .ok (.iaload, 1) := by decide +kernel
theorem dX9_says_30 : decode cX9_says 30 = .ok (.iconst 1, 1) := by decide +kernel
theorem dX9_says_31 : decode cX9_says 31 = .ok (.if_icmp .ne 10, 3) := by decide +kernel
theorem dX9_says_34 : decode cX9_says 34 = .ok (.aload_n 0, 1) := by decide +kernel
theorem dX9_says_35 : decode cX9_says 35 = .ok (.bipush (-2), 2) := by decide +kernel
theorem dX9_says_37 : decode cX9_says 37 = .ok (.invokevirtual 105, 3) := by decide +kernel
theorem dX9_says_40 : decode cX9_says 40 = .ok (.ireturn, 1) := by decide +kernel
theorem dX9_says_41 : decode cX9_says 41 = .ok (.aload_n 0, 1) := by decide +kernel
theorem dX9_says_42 : decode cX9_says 42 = .ok (.getfield 50, 3) := by decide +kernel
theorem dX9_says_45 : decode cX9_says 45 = .ok (.iload_n 1, 1) := by decide +kernel
theorem dX9_says_46 : decode cX9_says 46 = .ok (.iaload, 1) := by decide +kernel
theorem dX9_says_47 : decode cX9_says 47 = .ok (.ifCond .ne 10, 3) := by decide +kernel
theorem dX9_says_50 : decode cX9_says 50 = .ok (.aload_n 0, 1) := by decide +kernel
theorem dX9_says_51 : decode cX9_says 51 = .ok (.bipush (-3), 2) := by decide +kernel
theorem dX9_says_53 : decode cX9_says 53 = .ok (.invokevirtual 105, 3) := by decide +kernel
theorem dX9_says_56 : decode cX9_says 56 = .ok (.ireturn, 1) := by decide +kernel
theorem dX9_says_57 : decode cX9_says 57 = .ok (.aload_n 0, 1) := by decide +kernel
theorem dX9_says_58 : decode cX9_says 58 = .ok (.getfield 59, 3) := by decide +kernel
theorem dX9_says_61 : decode cX9_says 61 = .ok (.iload_n 1, 1) := by decide +kernel
theorem dX9_says_62 : decode cX9_says 62 = .ok (.iaload, 1) := by decide +kernel
theorem dX9_says_63 : decode cX9_says 63 = .ok (.istore_n 3, 1) := by decide +kernel
theorem dX9_says_64 : decode cX9_says 64 = .ok (.aload_n 0, 1) := by decide +kernel
theorem dX9_says_65 : decode cX9_says 65 = .ok (.getfield 26, 3) := by decide +kernel
theorem dX9_says_68 : decode cX9_says 68 = .ok (.iload_n 3, 1) := by decide +kernel
theorem dX9_says_69 : decode cX9_says 69 = .ok (.iaload, 1) := by decide +kernel
theorem dX9_says_70 : decode cX9_says 70 = .ok (.istore 4, 2) := by decide +kernel
theorem dX9_says_72 : decode cX9_says 72 = .ok (.iload_n 2, 1) := by decide +kernel
theorem dX9_says_73 : decode cX9_says 73 = .ok (.iconst 1, 1) := by decide +kernel
theorem dX9_says_74 : decode cX9_says 74 = .ok (.if_icmp .ne 9, 3) := by decide +kernel
theorem dX9_says_77 : decode cX9_says 77 = .ok (.iload 4, 2) := by decide +kernel
theorem dX9_says_79 : decode cX9_says 79 = .ok (.iconst 3, 1) := by decide +kernel
theorem dX9_says_80 : decode cX9_says 80 = .ok (.if_icmp .eq 26, 3) := by decide +kernel
theorem dX9_says_83 : decode cX9_says 83 = .ok (.iload_n 2, 1) := by decide +kernel
theorem dX9_says_84 : decode cX9_says 84 = .ok (.iconst 2, 1) := by decide +kernel
theorem dX9_says_85 : decode cX9_says 85 = .ok (.if_icmp .ne 9, 3) := by decide +kernel
theorem dX9_says_88 : decode cX9_says 88 = .ok (.iload 4, 2) := by decide +kernel
theorem dX9_says_90 : decode cX9_says 90 = .ok (.iconst 5, 1) := by decide +kernel
theorem dX9_says_91 : decode cX9_says 91 = .ok (.if_icmp .eq 15, 3) := by decide +kernel
theorem dX9_says_94 : decode cX9_says 94 = .ok (.iload_n 2, 1) := by decide +kernel
theorem dX9_says_95 : decode cX9_says 95 = .ok (.iconst 4, 1) := by decide +kernel
theorem dX9_says_96 : decode cX9_says 96 = .ok (.if_icmp .ne 14, 3) := by decide +kernel
theorem dX9_says_99 : decode cX9_says 99 = .ok (.iload 4, 2) := by decide +kernel
theorem dX9_says_101 : decode cX9_says 101 = .ok (.bipush 6, 2) := by decide +kernel
theorem dX9_says_103 : decode cX9_says 103 = .ok (.if_icmp .ne 7, 3) := by decide +kernel
theorem dX9_says_106 : decode cX9_says 106 = .ok (.iconst 1, 1) := by decide +kernel
theorem dX9_says_107 : decode cX9_says 107 = .ok (.goto 4, 3) := by decide +kernel
theorem dX9_says_110 : decode cX9_says 110 = .ok (.iconst 0, 1) := by decide +kernel
theorem dX9_says_111 : decode cX9_says 111 = .ok (.istore 5, 2) := by decide +kernel
theorem dX9_says_113 : decode cX9_says 113 = .ok (.iload_n 2, 1) := by decide +kernel
theorem dX9_says_114 : decode cX9_says 114 = .ok (.ifCond .eq 21, 3) := by decide +kernel
theorem dX9_says_117 : decode cX9_says 117 = .ok (.iload_n 2, 1) := by decide +kernel
theorem dX9_says_118 : decode cX9_says 118 = .ok (.iload 4, 2) := by decide +kernel
theorem dX9_says_120 : decode cX9_says 120 = .ok (.if_icmp .eq 15, 3) := by decide +kernel
theorem dX9_says_123 : decode cX9_says 123 = .ok (.iload 5, 2) := by decide +kernel
theorem dX9_says_125 : decode cX9_says 125 = .ok (.ifCond .ne 10, 3) := by decide +kernel
theorem dX9_says_128 : decode cX9_says 128 = .ok (.aload_n 0, 1) := by decide +kernel
theorem dX9_says_129 : decode cX9_says 129 = .ok (.bipush (-2), 2) := by decide +kernel
theorem dX9_says_131 : decode cX9_says 131 = .ok (.invokevirtual 105, 3) := by decide +kernel
theorem dX9_says_134 : decode cX9_says 134 = .ok (.ireturn, 1) := by decide +kernel
theorem dX9_says_135 : decode cX9_says 135 = .ok (.iload_n 2, 1) := by decide +kernel
theorem dX9_says_136 : decode cX9_says 136 = .ok (.tableswitch 74 0 5 #[40, 54, 68, 54, 74, 68], 40) := by decide +kernel
theorem dX9_says_176 : decode cX9_says 176 = .ok (.aload_n 0, 1) := by decide +kernel
theorem dX9_says_177 : decode cX9_says 177 = .ok (.getfield 38, 3) := by decide +kernel
theorem dX9_says_180 : decode cX9_says 180 = .ok (.iload_n 3, 1) := by decide +kernel
theorem dX9_says_181 : decode cX9_says 181 = .ok (.iaload, 1) := by decide +kernel
theorem dX9_says_182 : decode cX9_says 182 = .ok (.aload_n 0, 1) := by decide +kernel
theorem dX9_says_183 : decode cX9_says 183 = .ok (.getfield 41, 3) := by decide +kernel
theorem dX9_says_186 : decode cX9_says 186 = .ok (.iload_n 3, 1) := by decide +kernel
theorem dX9_says_187 : decode cX9_says 187 = .ok (.iaload, 1) := by decide +kernel
theorem dX9_says_188 : decode cX9_says 188 = .ok (.iadd, 1) := by decide +kernel
theorem dX9_says_189 : decode cX9_says 189 = .ok (.ireturn, 1) := by decide +kernel
theorem dX9_says_190 : decode cX9_says 190 = .ok (.aload_n 0, 1) := by decide +kernel
theorem dX9_says_191 : decode cX9_says 191 = .ok (.getfield 38, 3) := by decide +kernel
theorem dX9_says_194 : decode cX9_says 194 = .ok (.iload_n 3, 1) := by decide +kernel
theorem dX9_says_195 : decode cX9_says 195 = .ok (.iaload, 1) := by decide +kernel
theorem dX9_says_196 : decode cX9_says 196 = .ok (.aload_n 0, 1) := by decide +kernel
theorem dX9_says_197 : decode cX9_says 197 = .ok (.getfield 41, 3) := by decide +kernel
theorem dX9_says_200 : decode cX9_says 200 = .ok (.iload_n 3, 1) := by decide +kernel
theorem dX9_says_201 : decode cX9_says 201 = .ok (.iaload, 1) := by decide +kernel
theorem dX9_says_202 : decode cX9_says 202 = .ok (.isub, 1) := by decide +kernel
theorem dX9_says_203 : decode cX9_says 203 = .ok (.ireturn, 1) := by decide +kernel
theorem dX9_says_204 : decode cX9_says 204 = .ok (.aload_n 0, 1) := by decide +kernel
theorem dX9_says_205 : decode cX9_says 205 = .ok (.iload_n 3, 1) := by decide +kernel
theorem dX9_says_206 : decode cX9_says 206 = .ok (.invokevirtual 108, 3) := by decide +kernel
theorem dX9_says_209 : decode cX9_says 209 = .ok (.ireturn, 1) := by decide +kernel
theorem dX9_says_210 : decode cX9_says 210 = .ok (.aload_n 0, 1) := by decide +kernel
theorem dX9_says_211 : decode cX9_says 211 = .ok (.getfield 29, 3) := by decide +kernel
theorem dX9_says_214 : decode cX9_says 214 = .ok (.iload_n 3, 1) := by decide +kernel
theorem dX9_says_215 : decode cX9_says 215 = .ok (.iaload, 1) := by decide +kernel
theorem dX9_says_216 : decode cX9_says 216 = .ok (.ireturn, 1) := by decide +kernel
set_option maxRecDepth 20000 in
theorem ggX9_wanted_X9_isShelf : GoodIn wsX9_wanted wsX9_isShelf := goodIn_r _ [6] (by decide +kernel) (by decide +kernel)
set_option maxRecDepth 20000 in
theorem gX9_wanted_X9_isShelf : GoodIn wsX9_wanted (wsV RX9 94 RX9 yX9_isShelf wsX9_isShelf) := goodIn_app (goodIn_of _ (by decide +kernel)) ggX9_wanted_X9_isShelf
theorem dX9_wanted_0 : decode cX9_wanted 0 = .ok (.aload_n 0, 1) := by decide +kernel
theorem dX9_wanted_1 : decode cX9_wanted 1 = .ok (.iload_n 1, 1) := by decide +kernel
theorem dX9_wanted_2 : decode cX9_wanted 2 = .ok (.invokevirtual 94, 3) := by decide +kernel
theorem dX9_wanted_5 : decode cX9_wanted 5 = .ok (.ifCond .ne 7, 3) := by decide +kernel
theorem dX9_wanted_8 : decode cX9_wanted 8 = .ok (.iconst (-1), 1) := by decide +kernel
theorem dX9_wanted_9 : decode cX9_wanted 9 = .ok (.goto 33, 3) := by decide +kernel
theorem dX9_wanted_12 : decode cX9_wanted 12 = .ok (.aload_n 0, 1) := by decide +kernel
theorem dX9_wanted_13 : decode cX9_wanted 13 = .ok (.getfield 50, 3) := by decide +kernel
theorem dX9_wanted_16 : decode cX9_wanted 16 = .ok (.iload_n 1, 1) := by decide +kernel
theorem dX9_wanted_17 : decode cX9_wanted 17 = .ok (.iaload, 1) := by decide +kernel
theorem dX9_wanted_18 : decode cX9_wanted 18 = .ok (.iconst 2, 1) := by decide +kernel
theorem dX9_wanted_19 : decode cX9_wanted 19 = .ok (.if_icmp .ne 8, 3) := by decide +kernel
theorem dX9_wanted_22 : decode cX9_wanted 22 = .ok (.bipush (-2), 2) := by decide +kernel
theorem dX9_wanted_24 : decode cX9_wanted 24 = .ok (.goto 18, 3) := by decide +kernel
theorem dX9_wanted_27 : decode cX9_wanted 27 = .ok (.aload_n 0, 1) := by decide +kernel
theorem dX9_wanted_28 : decode cX9_wanted 28 = .ok (.getfield 50, 3) := by decide +kernel
theorem dX9_wanted_31 : decode cX9_wanted 31 = .ok (.iload_n 1, 1) := by decide +kernel
theorem dX9_wanted_32 : decode cX9_wanted 32 = .ok (.iaload, 1) := by decide +kernel
theorem dX9_wanted_33 : decode cX9_wanted 33 = .ok (.ifCond .ne 8, 3) := by decide +kernel
theorem dX9_wanted_36 : decode cX9_wanted 36 = .ok (.bipush (-3), 2) := by decide +kernel
theorem dX9_wanted_38 : decode cX9_wanted 38 = .ok (.goto 4, 3) := by decide +kernel
theorem dX9_wanted_41 : decode cX9_wanted 41 = .ok (.iconst 0, 1) := by decide +kernel
theorem dX9_wanted_42 : decode cX9_wanted 42 = .ok (.ireturn, 1) := by decide +kernel
theorem dX9_intAt_0 : decode cX9_intAt 0 = .ok (.aload_n 0, 1) := by decide +kernel
theorem dX9_intAt_1 : decode cX9_intAt 1 = .ok (.getfield 62, 3) := by decide +kernel
theorem dX9_intAt_4 : decode cX9_intAt 4 = .ok (.sipush 160, 3) := by decide +kernel
theorem dX9_intAt_7 : decode cX9_intAt 7 = .ok (.iload_n 1, 1) := by decide +kernel
theorem dX9_intAt_8 : decode cX9_intAt 8 = .ok (.imul, 1) := by decide +kernel
theorem dX9_intAt_9 : decode cX9_intAt 9 = .ok (.iload_n 2, 1) := by decide +kernel
theorem dX9_intAt_10 : decode cX9_intAt 10 = .ok (.iadd, 1) := by decide +kernel
theorem dX9_intAt_11 : decode cX9_intAt 11 = .ok (.laload, 1) := by decide +kernel
theorem dX9_intAt_12 : decode cX9_intAt 12 = .ok (.l2i, 1) := by decide +kernel
theorem dX9_intAt_13 : decode cX9_intAt 13 = .ok (.ireturn, 1) := by decide +kernel
theorem dX9_isReading_0 : decode cX9_isReading 0 = .ok (.iload_n 1, 1) := by decide +kernel
theorem dX9_isReading_1 : decode cX9_isReading 1 = .ok (.ifCond .lt 14, 3) := by decide +kernel
theorem dX9_isReading_4 : decode cX9_isReading 4 = .ok (.iload_n 1, 1) := by decide +kernel
theorem dX9_isReading_5 : decode cX9_isReading 5 = .ok (.sipush 9999, 3) := by decide +kernel
theorem dX9_isReading_8 : decode cX9_isReading 8 = .ok (.if_icmp .gt 7, 3) := by decide +kernel
theorem dX9_isReading_11 : decode cX9_isReading 11 = .ok (.iconst 1, 1) := by decide +kernel
theorem dX9_isReading_12 : decode cX9_isReading 12 = .ok (.goto 4, 3) := by decide +kernel
theorem dX9_isReading_15 : decode cX9_isReading 15 = .ok (.iconst 0, 1) := by decide +kernel
theorem dX9_isReading_16 : decode cX9_isReading 16 = .ok (.ireturn, 1) := by decide +kernel
theorem dX9_isYards_0 : decode cX9_isYards 0 = .ok (.iload_n 1, 1) := by decide +kernel
theorem dX9_isYards_1 : decode cX9_isYards 1 = .ok (.iconst 1, 1) := by decide +kernel
theorem dX9_isYards_2 : decode cX9_isYards 2 = .ok (.if_icmp .lt 13, 3) := by decide +kernel
theorem dX9_isYards_5 : decode cX9_isYards 5 = .ok (.iload_n 1, 1) := by decide +kernel
theorem dX9_isYards_6 : decode cX9_isYards 6 = .ok (.bipush 99, 2) := by decide +kernel
theorem dX9_isYards_8 : decode cX9_isYards 8 = .ok (.if_icmp .gt 7, 3) := by decide +kernel
theorem dX9_isYards_11 : decode cX9_isYards 11 = .ok (.iconst 1, 1) := by decide +kernel
theorem dX9_isYards_12 : decode cX9_isYards 12 = .ok (.goto 4, 3) := by decide +kernel
theorem dX9_isYards_15 : decode cX9_isYards 15 = .ok (.iconst 0, 1) := by decide +kernel
theorem dX9_isYards_16 : decode cX9_isYards 16 = .ok (.ireturn, 1) := by decide +kernel
theorem dX9_adds_0 : decode cX9_adds 0 = .ok (.aload_n 0, 1) := by decide +kernel
theorem dX9_adds_1 : decode cX9_adds 1 = .ok (.getfield 26, 3) := by decide +kernel
theorem dX9_adds_4 : decode cX9_adds 4 = .ok (.aload_n 0, 1) := by decide +kernel
theorem dX9_adds_5 : decode cX9_adds 5 = .ok (.getfield 91, 3) := by decide +kernel
theorem dX9_adds_8 : decode cX9_adds 8 = .ok (.iload_n 1, 1) := by decide +kernel
theorem dX9_adds_9 : decode cX9_adds 9 = .ok (.iastore, 1) := by decide +kernel
theorem dX9_adds_10 : decode cX9_adds 10 = .ok (.aload_n 0, 1) := by decide +kernel
theorem dX9_adds_11 : decode cX9_adds 11 = .ok (.getfield 29, 3) := by decide +kernel
theorem dX9_adds_14 : decode cX9_adds 14 = .ok (.aload_n 0, 1) := by decide +kernel
theorem dX9_adds_15 : decode cX9_adds 15 = .ok (.getfield 91, 3) := by decide +kernel
theorem dX9_adds_18 : decode cX9_adds 18 = .ok (.iload_n 2, 1) := by decide +kernel
theorem dX9_adds_19 : decode cX9_adds 19 = .ok (.iastore, 1) := by decide +kernel
theorem dX9_adds_20 : decode cX9_adds 20 = .ok (.aload_n 0, 1) := by decide +kernel
theorem dX9_adds_21 : decode cX9_adds 21 = .ok (.getfield 32, 3) := by decide +kernel
theorem dX9_adds_24 : decode cX9_adds 24 = .ok (.aload_n 0, 1) := by decide +kernel
theorem dX9_adds_25 : decode cX9_adds 25 = .ok (.getfield 91, 3) := by decide +kernel
theorem dX9_adds_28 : decode cX9_adds 28 = .ok (.iload_n 3, 1) := by decide +kernel
theorem dX9_adds_29 : decode cX9_adds 29 = .ok (.iastore, 1) := by decide +kernel
theorem dX9_adds_30 : decode cX9_adds 30 = .ok (.aload_n 0, 1) := by decide +kernel
theorem dX9_adds_31 : decode cX9_adds 31 = .ok (.getfield 35, 3) := by decide +kernel
theorem dX9_adds_34 : decode cX9_adds 34 = .ok (.aload_n 0, 1) := by decide +kernel
theorem dX9_adds_35 : decode cX9_adds 35 = .ok (.getfield 91, 3) := by decide +kernel
theorem dX9_adds_38 : decode cX9_adds 38 = .ok (.iload 4, 2) := by decide +kernel
theorem dX9_adds_40 : decode cX9_adds 40 = .ok (.iastore, 1) := by decide +kernel
theorem dX9_adds_41 : decode cX9_adds 41 = .ok (.aload_n 0, 1) := by decide +kernel
theorem dX9_adds_42 : decode cX9_adds 42 = .ok (.getfield 38, 3) := by decide +kernel
theorem dX9_adds_45 : decode cX9_adds 45 = .ok (.aload_n 0, 1) := by decide +kernel
theorem dX9_adds_46 : decode cX9_adds 46 = .ok (.getfield 91, 3) := by decide +kernel
theorem dX9_adds_49 : decode cX9_adds 49 = .ok (.iload 5, 2) := by decide +kernel
theorem dX9_adds_51 : decode cX9_adds 51 = .ok (.iastore, 1) := by decide +kernel
theorem dX9_adds_52 : decode cX9_adds 52 = .ok (.aload_n 0, 1) := by decide +kernel
theorem dX9_adds_53 : decode cX9_adds 53 = .ok (.getfield 41, 3) := by decide +kernel
theorem dX9_adds_56 : decode cX9_adds 56 = .ok (.aload_n 0, 1) := by decide +kernel
theorem dX9_adds_57 : decode cX9_adds 57 = .ok (.getfield 91, 3) := by decide +kernel
theorem dX9_adds_60 : decode cX9_adds 60 = .ok (.iload 6, 2) := by decide +kernel
theorem dX9_adds_62 : decode cX9_adds 62 = .ok (.iastore, 1) := by decide +kernel
theorem dX9_adds_63 : decode cX9_adds 63 = .ok (.aload_n 0, 1) := by decide +kernel
theorem dX9_adds_64 : decode cX9_adds 64 = .ok (.getfield 44, 3) := by decide +kernel
theorem dX9_adds_67 : decode cX9_adds 67 = .ok (.aload_n 0, 1) := by decide +kernel
theorem dX9_adds_68 : decode cX9_adds 68 = .ok (.getfield 91, 3) := by decide +kernel
theorem dX9_adds_71 : decode cX9_adds 71 = .ok (.iconst 0, 1) := by decide +kernel
theorem dX9_adds_72 : decode cX9_adds 72 = .ok (.iastore, 1) := by decide +kernel
theorem dX9_adds_73 : decode cX9_adds 73 = .ok (.aload_n 0, 1) := by decide +kernel
theorem dX9_adds_74 : decode cX9_adds 74 = .ok (.getfield 47, 3) := by decide +kernel
theorem dX9_adds_77 : decode cX9_adds 77 = .ok (.aload_n 0, 1) := by decide +kernel
theorem dX9_adds_78 : decode cX9_adds 78 = .ok (.getfield 91, 3) := by decide +kernel
theorem dX9_adds_81 : decode cX9_adds 81 = .ok (.iconst 0, 1) := by decide +kernel
theorem dX9_adds_82 : decode cX9_adds 82 = .ok (.iastore, 1) := by decide +kernel
theorem dX9_adds_83 : decode cX9_adds 83 = .ok (.aload_n 0, 1) := by decide +kernel
theorem dX9_adds_84 : decode cX9_adds 84 = .ok (.dup, 1) := by decide +kernel
theorem dX9_adds_85 : decode cX9_adds 85 = .ok (.getfield 91, 3) := by decide +kernel
theorem dX9_adds_88 : decode cX9_adds 88 = .ok (.dup_x1, 1) := by decide +kernel
theorem dX9_adds_89 : decode cX9_adds 89 = .ok (.iconst 1, 1) := by decide +kernel
theorem dX9_adds_90 : decode cX9_adds 90 = .ok (.iadd, 1) := by decide +kernel
theorem dX9_adds_91 : decode cX9_adds 91 = .ok (.putfield 91, 3) := by decide +kernel
theorem dX9_adds_94 : decode cX9_adds 94 = .ok (.ireturn, 1) := by decide +kernel
set_option maxRecDepth 20000 in
theorem ggX9_setup_X9_no : GoodIn wsX9_setup wsX9_no := goodIn_r _ [6, 7, 28, 29, 30, 31, 32, 33, 34, 35, 36, 37, 38, 39, 40, 41, 42, 43, 44, 45, 46, 47, 48, 49, 50, 51, 52, 53, 54, 55, 56, 57, 58, 59, 60, 61, 62, 63, 64, 65, 66, 67] (by decide +kernel) (by decide +kernel)
set_option maxRecDepth 20000 in
theorem gX9_setup_X9_no : GoodIn wsX9_setup (wsV RX9 98 RX9 yX9_no wsX9_no) := goodIn_app (goodIn_of _ (by decide +kernel)) ggX9_setup_X9_no
set_option maxRecDepth 20000 in
theorem ggX9_setup_X9_isReading : GoodIn wsX9_setup wsX9_isReading := goodIn_r _ [11] (by decide +kernel) (by decide +kernel)
set_option maxRecDepth 20000 in
theorem gX9_setup_X9_isReading : GoodIn wsX9_setup (wsV RX9 111 RX9 yX9_isReading wsX9_isReading) := goodIn_app (goodIn_of _ (by decide +kernel)) ggX9_setup_X9_isReading
set_option maxRecDepth 20000 in
theorem ggX9_setup_X9_isYards : GoodIn wsX9_setup wsX9_isYards := goodIn_r _ [15] (by decide +kernel) (by decide +kernel)
set_option maxRecDepth 20000 in
theorem gX9_setup_X9_isYards : GoodIn wsX9_setup (wsV RX9 114 RX9 yX9_isYards wsX9_isYards) := goodIn_app (goodIn_of _ (by decide +kernel)) ggX9_setup_X9_isYards
set_option maxRecDepth 20000 in
theorem ggX9_setup_X9_adds : GoodIn wsX9_setup wsX9_adds := goodIn_r _ [19, 20, 1, 21, 22, 23, 24, 25, 26, 27, 28, 29, 30, 31, 32, 33, 34, 35, 36, 37, 38, 39, 40, 41, 42, 43, 44, 45, 46, 47, 48, 49, 50, 51, 52, 53, 54, 55, 56, 57, 58, 59, 60, 61, 62, 63, 64, 65, 66, 67] (by decide +kernel) (by decide +kernel)
set_option maxRecDepth 20000 in
theorem gX9_setup_X9_adds : GoodIn wsX9_setup (wsV RX9 117 RX9 yX9_adds wsX9_adds) := goodIn_app (goodIn_of _ (by decide +kernel)) ggX9_setup_X9_adds
theorem dX9_setup_0 : decode cX9_setup 0 = .ok (.iload_n 1, 1) := by decide +kernel
theorem dX9_setup_1 : decode cX9_setup 1 = .ok (.ifCond .lt 9, 3) := by decide +kernel
theorem dX9_setup_4 : decode cX9_setup 4 = .ok (.iload_n 1, 1) := by decide +kernel
theorem dX9_setup_5 : decode cX9_setup 5 = .ok (.bipush 6, 2) := by decide +kernel
theorem dX9_setup_7 : decode cX9_setup 7 = .ok (.if_icmp .le 9, 3) := by decide +kernel
theorem dX9_setup_10 : decode cX9_setup 10 = .ok (.aload_n 0, 1) := by decide +kernel
theorem dX9_setup_11 : decode cX9_setup 11 = .ok (.iconst (-1), 1) := by decide +kernel
theorem dX9_setup_12 : decode cX9_setup 12 = .ok (.invokevirtual 98, 3) := by decide +kernel
theorem dX9_setup_15 : decode cX9_setup 15 = .ok (.ireturn, 1) := by decide +kernel
theorem dX9_setup_16 : decode cX9_setup 16 = .ok (.iload_n 2, 1) := by decide +kernel
theorem dX9_setup_17 : decode cX9_setup 17 = .ok (.ifCond .lt 44, 3) := by decide +kernel
theorem dX9_setup_20 : decode cX9_setup 20 = .ok (.iload_n 2, 1) := by decide +kernel
theorem dX9_setup_21 : decode cX9_setup 21 = .ok (.bipush 9, 2) := by decide +kernel
theorem dX9_setup_23 : decode cX9_setup 23 = .ok (.if_icmp .gt 38, 3) := by decide +kernel
theorem dX9_setup_26 : decode cX9_setup 26 = .ok (.aload_n 0, 1) := by decide +kernel
theorem dX9_setup_27 : decode cX9_setup 27 = .ok (.iload_n 3, 1) := by decide +kernel
theorem dX9_setup_28 : decode cX9_setup 28 = .ok (.invokevirtual 111, 3) := by decide +kernel
theorem dX9_setup_31 : decode cX9_setup 31 = .ok (.ifCond .eq 30, 3) := by decide +kernel
theorem dX9_setup_34 : decode cX9_setup 34 = .ok (.aload_n 0, 1) := by decide +kernel
theorem dX9_setup_35 : decode cX9_setup 35 = .ok (.iload 4, 2) := by decide +kernel
theorem dX9_setup_37 : decode cX9_setup 37 = .ok (.invokevirtual 111, 3) := by decide +kernel
theorem dX9_setup_40 : decode cX9_setup 40 = .ok (.ifCond .eq 21, 3) := by decide +kernel
theorem dX9_setup_43 : decode cX9_setup 43 = .ok (.aload_n 0, 1) := by decide +kernel
theorem dX9_setup_44 : decode cX9_setup 44 = .ok (.iload 5, 2) := by decide +kernel
theorem dX9_setup_46 : decode cX9_setup 46 = .ok (.invokevirtual 114, 3) := by decide +kernel
theorem dX9_setup_49 : decode cX9_setup 49 = .ok (.ifCond .eq 12, 3) := by decide +kernel
theorem dX9_setup_52 : decode cX9_setup 52 = .ok (.aload_n 0, 1) := by decide +kernel
theorem dX9_setup_53 : decode cX9_setup 53 = .ok (.iload 6, 2) := by decide +kernel
theorem dX9_setup_55 : decode cX9_setup 55 = .ok (.invokevirtual 114, 3) := by decide +kernel
theorem dX9_setup_58 : decode cX9_setup 58 = .ok (.ifCond .ne 10, 3) := by decide +kernel
theorem dX9_setup_61 : decode cX9_setup 61 = .ok (.aload_n 0, 1) := by decide +kernel
theorem dX9_setup_62 : decode cX9_setup 62 = .ok (.bipush (-6), 2) := by decide +kernel
theorem dX9_setup_64 : decode cX9_setup 64 = .ok (.invokevirtual 98, 3) := by decide +kernel
theorem dX9_setup_67 : decode cX9_setup 67 = .ok (.ireturn, 1) := by decide +kernel
theorem dX9_setup_68 : decode cX9_setup 68 = .ok (.aload_n 0, 1) := by decide +kernel
theorem dX9_setup_69 : decode cX9_setup 69 = .ok (.getfield 91, 3) := by decide +kernel
theorem dX9_setup_72 : decode cX9_setup 72 = .ok (.bipush 16, 2) := by decide +kernel
theorem dX9_setup_74 : decode cX9_setup 74 = .ok (.if_icmp .ne 12, 3) := by decide +kernel
theorem dX9_setup_77 : decode cX9_setup 77 = .ok (.aload_n 0, 1) := by decide +kernel
theorem dX9_setup_78 : decode cX9_setup 78 = .ok (.bipush (-7), 2) := by decide +kernel
theorem dX9_setup_80 : decode cX9_setup 80 = .ok (.invokevirtual 98, 3) := by decide +kernel
theorem dX9_setup_83 : decode cX9_setup 83 = .ok (.goto 16, 3) := by decide +kernel
theorem dX9_setup_86 : decode cX9_setup 86 = .ok (.aload_n 0, 1) := by decide +kernel
theorem dX9_setup_87 : decode cX9_setup 87 = .ok (.iload_n 1, 1) := by decide +kernel
theorem dX9_setup_88 : decode cX9_setup 88 = .ok (.iload_n 2, 1) := by decide +kernel
theorem dX9_setup_89 : decode cX9_setup 89 = .ok (.iload_n 3, 1) := by decide +kernel
theorem dX9_setup_90 : decode cX9_setup 90 = .ok (.iload 4, 2) := by decide +kernel
theorem dX9_setup_92 : decode cX9_setup 92 = .ok (.iload 5, 2) := by decide +kernel
theorem dX9_setup_94 : decode cX9_setup 94 = .ok (.iload 6, 2) := by decide +kernel
theorem dX9_setup_96 : decode cX9_setup 96 = .ok (.invokevirtual 117, 3) := by decide +kernel
theorem dX9_setup_99 : decode cX9_setup 99 = .ok (.ireturn, 1) := by decide +kernel
set_option maxRecDepth 20000 in
theorem ggX9_setupOf_X9_isSetup : GoodIn wsX9_setupOf wsX9_isSetup := goodIn_r _ [13, 14, 42, 43, 44, 45, 46, 47, 48, 49, 50, 51, 52, 53, 54, 55, 56, 57, 58, 59, 60, 61, 62, 63, 64, 65, 66, 67, 68, 69, 70, 71, 72, 73, 74, 75, 76, 77, 78, 79, 80, 81] (by decide +kernel) (by decide +kernel)
set_option maxRecDepth 20000 in
theorem gX9_setupOf_X9_isSetup : GoodIn wsX9_setupOf (wsV RX9 102 RX9 yX9_isSetup wsX9_isSetup) := goodIn_app (goodIn_of _ (by decide +kernel)) ggX9_setupOf_X9_isSetup
set_option maxRecDepth 20000 in
theorem ggX9_setupOf_X9_noFar : GoodIn wsX9_setupOf wsX9_noFar := goodIn_r _ [18, 19, 20, 42, 43, 44, 45, 46, 47, 48, 49, 50, 51, 52, 53, 54, 55, 56, 57, 58, 59, 60, 61, 62, 63, 64, 65, 66, 67, 68, 69, 70, 71, 72, 73, 74, 75, 76, 77, 78, 79, 80, 81] (by decide +kernel) (by decide +kernel)
set_option maxRecDepth 20000 in
theorem gX9_setupOf_X9_noFar : GoodIn wsX9_setupOf (wsV RX9 105 RX9 yX9_noFar wsX9_noFar) := goodIn_app (goodIn_of _ (by decide +kernel)) ggX9_setupOf_X9_noFar
set_option maxRecDepth 20000 in
theorem ggX9_setupOf_X9_booked : GoodIn wsX9_setupOf wsX9_booked := goodIn_r _ [24, 3, 4, 42, 43, 44, 45, 46, 47, 48, 49, 50, 51, 52, 53, 54, 55, 56, 57, 58, 59, 60, 61, 62, 63, 64, 65, 66, 67, 68, 69, 70, 71, 72, 73, 74, 75, 76, 77, 78, 79, 80, 81] (by decide +kernel) (by decide +kernel)
set_option maxRecDepth 20000 in
theorem gX9_setupOf_X9_booked : GoodIn wsX9_setupOf (wsV RX9 121 RX9 yX9_booked wsX9_booked) := goodIn_app (goodIn_of _ (by decide +kernel)) ggX9_setupOf_X9_booked
set_option maxRecDepth 20000 in
theorem ggX9_setupOf_X9_error : GoodIn wsX9_setupOf wsX9_error := goodIn_r _ [28, 1, 29, 5, 6, 8, 2, 30, 31, 32, 12, 33, 21, 22, 23, 24, 3, 4, 34, 35, 36, 37, 42, 43, 44, 45, 46, 47, 48, 49, 50, 51, 52, 53, 54, 55, 56, 57, 58, 59, 60, 61, 62, 63, 64, 65, 66, 67, 68, 69, 70, 71, 72, 73, 74, 75, 76, 77, 78, 79, 80, 81] (by decide +kernel) (by decide +kernel)
set_option maxRecDepth 20000 in
theorem gX9_setupOf_X9_error : GoodIn wsX9_setupOf (wsV RX9 124 RX9 yX9_error wsX9_error) := goodIn_app (goodIn_of _ (by decide +kernel)) ggX9_setupOf_X9_error
set_option maxRecDepth 20000 in
theorem ggX9_setupOf_X9_rise : GoodIn wsX9_setupOf wsX9_rise := goodIn_r _ [41, 21, 22, 23, 12, 24, 3, 4, 25, 26, 27, 28, 1, 29, 5, 6, 8, 2, 30, 31, 32, 33, 34, 35, 36, 37, 42, 43, 44, 45, 46, 47, 48, 49, 50, 51, 52, 53, 54, 55, 56, 57, 58, 59, 60, 61, 62, 63, 64, 65, 66, 67, 68, 69, 70, 71, 72, 73, 74, 75, 76, 77, 78, 79, 80, 81] (by decide +kernel) (by decide +kernel)
set_option maxRecDepth 20000 in
theorem gX9_setupOf_X9_rise : GoodIn wsX9_setupOf (wsV RX9 127 RX9 yX9_rise wsX9_rise) := goodIn_app (goodIn_of _ (by decide +kernel)) ggX9_setupOf_X9_rise
theorem dX9_setupOf_0 : decode cX9_setupOf 0 = .ok (.aload_n 0, 1) := by decide +kernel
theorem dX9_setupOf_1 : decode cX9_setupOf 1 = .ok (.iload_n 1, 1) := by decide +kernel
theorem dX9_setupOf_2 : decode cX9_setupOf 2 = .ok (.invokevirtual 102, 3) := by decide +kernel
theorem dX9_setupOf_5 : decode cX9_setupOf 5 = .ok (.ifCond .ne 10, 3) := by decide +kernel
theorem dX9_setupOf_8 : decode cX9_setupOf 8 = .ok (.aload_n 0, 1) := by decide +kernel
theorem dX9_setupOf_9 : decode cX9_setupOf 9 = .ok (.bipush (-5), 2) := by decide +kernel
theorem dX9_setupOf_11 : decode cX9_setupOf 11 = .ok (.invokevirtual 105, 3) := by decide +kernel
theorem dX9_setupOf_14 : decode cX9_setupOf 14 = .ok (.ireturn, 1) := by decide +kernel
theorem dX9_setupOf_15 : decode cX9_setupOf 15 = .ok (.iload_n 2, 1) := by decide +kernel
theorem dX9_setupOf_16 : decode cX9_setupOf 16 = .ok (.tableswitch 134 0 10 #[60, 67, 74, 81, 88, 95, 102, 109, 116, 122, 128], 60) := by decide +kernel
theorem dX9_setupOf_76 : decode cX9_setupOf 76 = .ok (.aload_n 0, 1) := by decide +kernel
theorem dX9_setupOf_77 : decode cX9_setupOf 77 = .ok (.getfield 26, 3) := by decide +kernel
theorem dX9_setupOf_80 : decode cX9_setupOf 80 = .ok (.iload_n 1, 1) := by decide +kernel
theorem dX9_setupOf_81 : decode cX9_setupOf 81 = .ok (.iaload, 1) := by decide +kernel
theorem dX9_setupOf_82 : decode cX9_setupOf 82 = .ok (.ireturn, 1) := by decide +kernel
theorem dX9_setupOf_83 : decode cX9_setupOf 83 = .ok (.aload_n 0, 1) := by decide +kernel
theorem dX9_setupOf_84 : decode cX9_setupOf 84 = .ok (.getfield 29, 3) := by decide +kernel
theorem dX9_setupOf_87 : decode cX9_setupOf 87 = .ok (.iload_n 1, 1) := by decide +kernel
theorem dX9_setupOf_88 : decode cX9_setupOf 88 = .ok (.iaload, 1) := by decide +kernel
theorem dX9_setupOf_89 : decode cX9_setupOf 89 = .ok (.ireturn, 1) := by decide +kernel
theorem dX9_setupOf_90 : decode cX9_setupOf 90 = .ok (.aload_n 0, 1) := by decide +kernel
theorem dX9_setupOf_91 : decode cX9_setupOf 91 = .ok (.getfield 32, 3) := by decide +kernel
theorem dX9_setupOf_94 : decode cX9_setupOf 94 = .ok (.iload_n 1, 1) := by decide +kernel
theorem dX9_setupOf_95 : decode cX9_setupOf 95 = .ok (.iaload, 1) := by decide +kernel
theorem dX9_setupOf_96 : decode cX9_setupOf 96 = .ok (.ireturn, 1) := by decide +kernel
theorem dX9_setupOf_97 : decode cX9_setupOf 97 = .ok (.aload_n 0, 1) := by decide +kernel
theorem dX9_setupOf_98 : decode cX9_setupOf 98 = .ok (.getfield 35, 3) := by decide +kernel
theorem dX9_setupOf_101 : decode cX9_setupOf 101 = .ok (.iload_n 1, 1) := by decide +kernel
theorem dX9_setupOf_102 : decode cX9_setupOf 102 = .ok (.iaload, 1) := by decide +kernel
theorem dX9_setupOf_103 : decode cX9_setupOf 103 = .ok (.ireturn, 1) := by decide +kernel
theorem dX9_setupOf_104 : decode cX9_setupOf 104 = .ok (.aload_n 0, 1) := by decide +kernel
theorem dX9_setupOf_105 : decode cX9_setupOf 105 = .ok (.getfield 38, 3) := by decide +kernel
theorem dX9_setupOf_108 : decode cX9_setupOf 108 = .ok (.iload_n 1, 1) := by decide +kernel
theorem dX9_setupOf_109 : decode cX9_setupOf 109 = .ok (.iaload, 1) := by decide +kernel
theorem dX9_setupOf_110 : decode cX9_setupOf 110 = .ok (.ireturn, 1) := by decide +kernel
theorem dX9_setupOf_111 : decode cX9_setupOf 111 = .ok (.aload_n 0, 1) := by decide +kernel
theorem dX9_setupOf_112 : decode cX9_setupOf 112 = .ok (.getfield 41, 3) := by decide +kernel
theorem dX9_setupOf_115 : decode cX9_setupOf 115 = .ok (.iload_n 1, 1) := by decide +kernel
theorem dX9_setupOf_116 : decode cX9_setupOf 116 = .ok (.iaload, 1) := by decide +kernel
theorem dX9_setupOf_117 : decode cX9_setupOf 117 = .ok (.ireturn, 1) := by decide +kernel
theorem dX9_setupOf_118 : decode cX9_setupOf 118 = .ok (.aload_n 0, 1) := by decide +kernel
theorem dX9_setupOf_119 : decode cX9_setupOf 119 = .ok (.getfield 44, 3) := by decide +kernel
theorem dX9_setupOf_122 : decode cX9_setupOf 122 = .ok (.iload_n 1, 1) := by decide +kernel
theorem dX9_setupOf_123 : decode cX9_setupOf 123 = .ok (.iaload, 1) := by decide +kernel
theorem dX9_setupOf_124 : decode cX9_setupOf 124 = .ok (.ireturn, 1) := by decide +kernel
theorem dX9_setupOf_125 : decode cX9_setupOf 125 = .ok (.aload_n 0, 1) := by decide +kernel
theorem dX9_setupOf_126 : decode cX9_setupOf 126 = .ok (.getfield 47, 3) := by decide +kernel
theorem dX9_setupOf_129 : decode cX9_setupOf 129 = .ok (.iload_n 1, 1) := by decide +kernel
theorem dX9_setupOf_130 : decode cX9_setupOf 130 = .ok (.iaload, 1) := by decide +kernel
theorem dX9_setupOf_131 : decode cX9_setupOf 131 = .ok (.ireturn, 1) := by decide +kernel
theorem dX9_setupOf_132 : decode cX9_setupOf 132 = .ok (.aload_n 0, 1) := by decide +kernel
theorem dX9_setupOf_133 : decode cX9_setupOf 133 = .ok (.iload_n 1, 1) := by decide +kernel
theorem dX9_setupOf_134 : decode cX9_setupOf 134 = .ok (.invokevirtual 121, 3) := by decide +kernel
theorem dX9_setupOf_137 : decode cX9_setupOf 137 = .ok (.ireturn, 1) := by decide +kernel
theorem dX9_setupOf_138 : decode cX9_setupOf 138 = .ok (.aload_n 0, 1) := by decide +kernel
theorem dX9_setupOf_139 : decode cX9_setupOf 139 = .ok (.iload_n 1, 1) := by decide +kernel
theorem dX9_setupOf_140 : decode cX9_setupOf 140 = .ok (.invokevirtual 124, 3) := by decide +kernel
theorem dX9_setupOf_143 : decode cX9_setupOf 143 = .ok (.ireturn, 1) := by decide +kernel
theorem dX9_setupOf_144 : decode cX9_setupOf 144 = .ok (.aload_n 0, 1) := by decide +kernel
theorem dX9_setupOf_145 : decode cX9_setupOf 145 = .ok (.iload_n 1, 1) := by decide +kernel
theorem dX9_setupOf_146 : decode cX9_setupOf 146 = .ok (.invokevirtual 127, 3) := by decide +kernel
theorem dX9_setupOf_149 : decode cX9_setupOf 149 = .ok (.ireturn, 1) := by decide +kernel
theorem dX9_setupOf_150 : decode cX9_setupOf 150 = .ok (.aload_n 0, 1) := by decide +kernel
theorem dX9_setupOf_151 : decode cX9_setupOf 151 = .ok (.bipush (-5), 2) := by decide +kernel
theorem dX9_setupOf_153 : decode cX9_setupOf 153 = .ok (.invokevirtual 105, 3) := by decide +kernel
theorem dX9_setupOf_156 : decode cX9_setupOf 156 = .ok (.ireturn, 1) := by decide +kernel
set_option maxRecDepth 20000 in
theorem ggX9_isTold_X9_isReading : GoodIn wsX9_isTold wsX9_isReading := goodIn_r _ [5] (by decide +kernel) (by decide +kernel)
set_option maxRecDepth 20000 in
theorem gX9_isTold_X9_isReading : GoodIn wsX9_isTold (wsV RX9 111 RX9 yX9_isReading wsX9_isReading) := goodIn_app (goodIn_of _ (by decide +kernel)) ggX9_isTold_X9_isReading
theorem dX9_isTold_0 : decode cX9_isTold 0 = .ok (.iload_n 1, 1) := by decide +kernel
theorem dX9_isTold_1 : decode cX9_isTold 1 = .ok (.iconst 2, 1) := by decide +kernel
theorem dX9_isTold_2 : decode cX9_isTold 2 = .ok (.if_icmp .ge 11, 3) := by decide +kernel
theorem dX9_isTold_5 : decode cX9_isTold 5 = .ok (.aload_n 0, 1) := by decide +kernel
theorem dX9_isTold_6 : decode cX9_isTold 6 = .ok (.iload_n 2, 1) := by decide +kernel
theorem dX9_isTold_7 : decode cX9_isTold 7 = .ok (.invokevirtual 111, 3) := by decide +kernel
theorem dX9_isTold_10 : decode cX9_isTold 10 = .ok (.goto 26, 3) := by decide +kernel
theorem dX9_isTold_13 : decode cX9_isTold 13 = .ok (.iload_n 2, 1) := by decide +kernel
theorem dX9_isTold_14 : decode cX9_isTold 14 = .ok (.ifCond .lt 21, 3) := by decide +kernel
theorem dX9_isTold_17 : decode cX9_isTold 17 = .ok (.iload_n 2, 1) := by decide +kernel
theorem dX9_isTold_18 : decode cX9_isTold 18 = .ok (.iload_n 1, 1) := by decide +kernel
theorem dX9_isTold_19 : decode cX9_isTold 19 = .ok (.iconst 2, 1) := by decide +kernel
theorem dX9_isTold_20 : decode cX9_isTold 20 = .ok (.if_icmp .ne 7, 3) := by decide +kernel
theorem dX9_isTold_23 : decode cX9_isTold 23 = .ok (.iconst 3, 1) := by decide +kernel
theorem dX9_isTold_24 : decode cX9_isTold 24 = .ok (.goto 4, 3) := by decide +kernel
theorem dX9_isTold_27 : decode cX9_isTold 27 = .ok (.iconst 1, 1) := by decide +kernel
theorem dX9_isTold_28 : decode cX9_isTold 28 = .ok (.if_icmp .gt 7, 3) := by decide +kernel
theorem dX9_isTold_31 : decode cX9_isTold 31 = .ok (.iconst 1, 1) := by decide +kernel
theorem dX9_isTold_32 : decode cX9_isTold 32 = .ok (.goto 4, 3) := by decide +kernel
theorem dX9_isTold_35 : decode cX9_isTold 35 = .ok (.iconst 0, 1) := by decide +kernel
theorem dX9_isTold_36 : decode cX9_isTold 36 = .ok (.ireturn, 1) := by decide +kernel
set_option maxRecDepth 20000 in
theorem ggX9_tell_X9_isSetup : GoodIn wsX9_tell wsX9_isSetup := goodIn_r _ [9, 10, 24, 25, 26, 27, 28, 29, 30, 31, 32, 33, 34, 35, 36, 37, 38, 39, 40, 41, 42, 43, 44, 45, 46, 47, 48, 49, 50, 51, 52, 53, 54, 55, 56, 57, 58, 59, 60, 61, 62, 63] (by decide +kernel) (by decide +kernel)
set_option maxRecDepth 20000 in
theorem gX9_tell_X9_isSetup : GoodIn wsX9_tell (wsV RX9 102 RX9 yX9_isSetup wsX9_isSetup) := goodIn_app (goodIn_of _ (by decide +kernel)) ggX9_tell_X9_isSetup
set_option maxRecDepth 20000 in
theorem ggX9_tell_X9_no : GoodIn wsX9_tell wsX9_no := goodIn_r _ [14, 15, 24, 25, 26, 27, 28, 29, 30, 31, 32, 33, 34, 35, 36, 37, 38, 39, 40, 41, 42, 43, 44, 45, 46, 47, 48, 49, 50, 51, 52, 53, 54, 55, 56, 57, 58, 59, 60, 61, 62, 63] (by decide +kernel) (by decide +kernel)
set_option maxRecDepth 20000 in
theorem gX9_tell_X9_no : GoodIn wsX9_tell (wsV RX9 98 RX9 yX9_no wsX9_no) := goodIn_app (goodIn_of _ (by decide +kernel)) ggX9_tell_X9_no
set_option maxRecDepth 20000 in
theorem ggX9_tell_X9_isTold : GoodIn wsX9_tell wsX9_isTold := goodIn_r _ [19, 20, 21, 22, 8, 23] (by decide +kernel) (by decide +kernel)
set_option maxRecDepth 20000 in
theorem gX9_tell_X9_isTold : GoodIn wsX9_tell (wsV RX9 130 RX9 yX9_isTold wsX9_isTold) := goodIn_app (goodIn_of _ (by decide +kernel)) ggX9_tell_X9_isTold
theorem dX9_tell_0 : decode cX9_tell 0 = .ok (.aload_n 0, 1) := by decide +kernel
theorem dX9_tell_1 : decode cX9_tell 1 = .ok (.iload_n 1, 1) := by decide +kernel
theorem dX9_tell_2 : decode cX9_tell 2 = .ok (.invokevirtual 102, 3) := by decide +kernel
theorem dX9_tell_5 : decode cX9_tell 5 = .ok (.ifCond .ne 9, 3) := by decide +kernel
theorem dX9_tell_8 : decode cX9_tell 8 = .ok (.aload_n 0, 1) := by decide +kernel
theorem dX9_tell_9 : decode cX9_tell 9 = .ok (.iconst (-1), 1) := by decide +kernel
theorem dX9_tell_10 : decode cX9_tell 10 = .ok (.invokevirtual 98, 3) := by decide +kernel
theorem dX9_tell_13 : decode cX9_tell 13 = .ok (.ireturn, 1) := by decide +kernel
theorem dX9_tell_14 : decode cX9_tell 14 = .ok (.iload_n 2, 1) := by decide +kernel
theorem dX9_tell_15 : decode cX9_tell 15 = .ok (.ifCond .lt 17, 3) := by decide +kernel
theorem dX9_tell_18 : decode cX9_tell 18 = .ok (.iload_n 2, 1) := by decide +kernel
theorem dX9_tell_19 : decode cX9_tell 19 = .ok (.iconst 3, 1) := by decide +kernel
theorem dX9_tell_20 : decode cX9_tell 20 = .ok (.if_icmp .gt 12, 3) := by decide +kernel
theorem dX9_tell_23 : decode cX9_tell 23 = .ok (.aload_n 0, 1) := by decide +kernel
theorem dX9_tell_24 : decode cX9_tell 24 = .ok (.iload_n 2, 1) := by decide +kernel
theorem dX9_tell_25 : decode cX9_tell 25 = .ok (.iload_n 3, 1) := by decide +kernel
theorem dX9_tell_26 : decode cX9_tell 26 = .ok (.invokevirtual 130, 3) := by decide +kernel
theorem dX9_tell_29 : decode cX9_tell 29 = .ok (.ifCond .ne 10, 3) := by decide +kernel
theorem dX9_tell_32 : decode cX9_tell 32 = .ok (.aload_n 0, 1) := by decide +kernel
theorem dX9_tell_33 : decode cX9_tell 33 = .ok (.bipush (-6), 2) := by decide +kernel
theorem dX9_tell_35 : decode cX9_tell 35 = .ok (.invokevirtual 98, 3) := by decide +kernel
theorem dX9_tell_38 : decode cX9_tell 38 = .ok (.ireturn, 1) := by decide +kernel
theorem dX9_tell_39 : decode cX9_tell 39 = .ok (.iload_n 2, 1) := by decide +kernel
theorem dX9_tell_40 : decode cX9_tell 40 = .ok (.ifCond .ne 12, 3) := by decide +kernel
theorem dX9_tell_43 : decode cX9_tell 43 = .ok (.aload_n 0, 1) := by decide +kernel
theorem dX9_tell_44 : decode cX9_tell 44 = .ok (.getfield 32, 3) := by decide +kernel
theorem dX9_tell_47 : decode cX9_tell 47 = .ok (.iload_n 1, 1) := by decide +kernel
theorem dX9_tell_48 : decode cX9_tell 48 = .ok (.iaload, 1) := by decide +kernel
theorem dX9_tell_49 : decode cX9_tell 49 = .ok (.goto 37, 3) := by decide +kernel
theorem dX9_tell_52 : decode cX9_tell 52 = .ok (.iload_n 2, 1) := by decide +kernel
theorem dX9_tell_53 : decode cX9_tell 53 = .ok (.iconst 1, 1) := by decide +kernel
theorem dX9_tell_54 : decode cX9_tell 54 = .ok (.if_icmp .ne 12, 3) := by decide +kernel
theorem dX9_tell_57 : decode cX9_tell 57 = .ok (.aload_n 0, 1) := by decide +kernel
theorem dX9_tell_58 : decode cX9_tell 58 = .ok (.getfield 35, 3) := by decide +kernel
theorem dX9_tell_61 : decode cX9_tell 61 = .ok (.iload_n 1, 1) := by decide +kernel
theorem dX9_tell_62 : decode cX9_tell 62 = .ok (.iaload, 1) := by decide +kernel
theorem dX9_tell_63 : decode cX9_tell 63 = .ok (.goto 23, 3) := by decide +kernel
theorem dX9_tell_66 : decode cX9_tell 66 = .ok (.iload_n 2, 1) := by decide +kernel
theorem dX9_tell_67 : decode cX9_tell 67 = .ok (.iconst 2, 1) := by decide +kernel
theorem dX9_tell_68 : decode cX9_tell 68 = .ok (.if_icmp .ne 12, 3) := by decide +kernel
theorem dX9_tell_71 : decode cX9_tell 71 = .ok (.aload_n 0, 1) := by decide +kernel
theorem dX9_tell_72 : decode cX9_tell 72 = .ok (.getfield 44, 3) := by decide +kernel
theorem dX9_tell_75 : decode cX9_tell 75 = .ok (.iload_n 1, 1) := by decide +kernel
theorem dX9_tell_76 : decode cX9_tell 76 = .ok (.iaload, 1) := by decide +kernel
theorem dX9_tell_77 : decode cX9_tell 77 = .ok (.goto 9, 3) := by decide +kernel
theorem dX9_tell_80 : decode cX9_tell 80 = .ok (.aload_n 0, 1) := by decide +kernel
theorem dX9_tell_81 : decode cX9_tell 81 = .ok (.getfield 47, 3) := by decide +kernel
theorem dX9_tell_84 : decode cX9_tell 84 = .ok (.iload_n 1, 1) := by decide +kernel
theorem dX9_tell_85 : decode cX9_tell 85 = .ok (.iaload, 1) := by decide +kernel
theorem dX9_tell_86 : decode cX9_tell 86 = .ok (.istore 4, 2) := by decide +kernel
theorem dX9_tell_88 : decode cX9_tell 88 = .ok (.iload_n 2, 1) := by decide +kernel
theorem dX9_tell_89 : decode cX9_tell 89 = .ok (.tableswitch 57 0 2 #[27, 37, 47], 27) := by decide +kernel
theorem dX9_tell_116 : decode cX9_tell 116 = .ok (.aload_n 0, 1) := by decide +kernel
theorem dX9_tell_117 : decode cX9_tell 117 = .ok (.getfield 32, 3) := by decide +kernel
theorem dX9_tell_120 : decode cX9_tell 120 = .ok (.iload_n 1, 1) := by decide +kernel
theorem dX9_tell_121 : decode cX9_tell 121 = .ok (.iload_n 3, 1) := by decide +kernel
theorem dX9_tell_122 : decode cX9_tell 122 = .ok (.iastore, 1) := by decide +kernel
theorem dX9_tell_123 : decode cX9_tell 123 = .ok (.goto 30, 3) := by decide +kernel
theorem dX9_tell_126 : decode cX9_tell 126 = .ok (.aload_n 0, 1) := by decide +kernel
theorem dX9_tell_127 : decode cX9_tell 127 = .ok (.getfield 35, 3) := by decide +kernel
theorem dX9_tell_130 : decode cX9_tell 130 = .ok (.iload_n 1, 1) := by decide +kernel
theorem dX9_tell_131 : decode cX9_tell 131 = .ok (.iload_n 3, 1) := by decide +kernel
theorem dX9_tell_132 : decode cX9_tell 132 = .ok (.iastore, 1) := by decide +kernel
theorem dX9_tell_133 : decode cX9_tell 133 = .ok (.goto 20, 3) := by decide +kernel
theorem dX9_tell_136 : decode cX9_tell 136 = .ok (.aload_n 0, 1) := by decide +kernel
theorem dX9_tell_137 : decode cX9_tell 137 = .ok (.getfield 44, 3) := by decide +kernel
theorem dX9_tell_140 : decode cX9_tell 140 = .ok (.iload_n 1, 1) := by decide +kernel
theorem dX9_tell_141 : decode cX9_tell 141 = .ok (.iload_n 3, 1) := by decide +kernel
theorem dX9_tell_142 : decode cX9_tell 142 = .ok (.iastore, 1) := by decide +kernel
theorem dX9_tell_143 : decode cX9_tell 143 = .ok (.goto 10, 3) := by decide +kernel
theorem dX9_tell_146 : decode cX9_tell 146 = .ok (.aload_n 0, 1) := by decide +kernel
theorem dX9_tell_147 : decode cX9_tell 147 = .ok (.getfield 47, 3) := by decide +kernel
theorem dX9_tell_150 : decode cX9_tell 150 = .ok (.iload_n 1, 1) := by decide +kernel
theorem dX9_tell_151 : decode cX9_tell 151 = .ok (.iload_n 3, 1) := by decide +kernel
theorem dX9_tell_152 : decode cX9_tell 152 = .ok (.iastore, 1) := by decide +kernel
theorem dX9_tell_153 : decode cX9_tell 153 = .ok (.iload 4, 2) := by decide +kernel
theorem dX9_tell_155 : decode cX9_tell 155 = .ok (.ireturn, 1) := by decide +kernel
theorem dX9_isAsked_0 : decode cX9_isAsked 0 = .ok (.iload_n 1, 1) := by decide +kernel
theorem dX9_isAsked_1 : decode cX9_isAsked 1 = .ok (.ifCond .ne 25, 3) := by decide +kernel
theorem dX9_isAsked_4 : decode cX9_isAsked 4 = .ok (.iload_n 2, 1) := by decide +kernel
theorem dX9_isAsked_5 : decode cX9_isAsked 5 = .ok (.sipush (-9999), 3) := by decide +kernel
theorem dX9_isAsked_8 : decode cX9_isAsked 8 = .ok (.if_icmp .lt 14, 3) := by decide +kernel
theorem dX9_isAsked_11 : decode cX9_isAsked 11 = .ok (.iload_n 2, 1) := by decide +kernel
theorem dX9_isAsked_12 : decode cX9_isAsked 12 = .ok (.sipush 9999, 3) := by decide +kernel
theorem dX9_isAsked_15 : decode cX9_isAsked 15 = .ok (.if_icmp .gt 7, 3) := by decide +kernel
theorem dX9_isAsked_18 : decode cX9_isAsked 18 = .ok (.iconst 1, 1) := by decide +kernel
theorem dX9_isAsked_19 : decode cX9_isAsked 19 = .ok (.goto 46, 3) := by decide +kernel
theorem dX9_isAsked_22 : decode cX9_isAsked 22 = .ok (.iconst 0, 1) := by decide +kernel
theorem dX9_isAsked_23 : decode cX9_isAsked 23 = .ok (.goto 42, 3) := by decide +kernel
theorem dX9_isAsked_26 : decode cX9_isAsked 26 = .ok (.iload_n 1, 1) := by decide +kernel
theorem dX9_isAsked_27 : decode cX9_isAsked 27 = .ok (.iconst 1, 1) := by decide +kernel
theorem dX9_isAsked_28 : decode cX9_isAsked 28 = .ok (.if_icmp .ne 21, 3) := by decide +kernel
theorem dX9_isAsked_31 : decode cX9_isAsked 31 = .ok (.iload_n 2, 1) := by decide +kernel
theorem dX9_isAsked_32 : decode cX9_isAsked 32 = .ok (.ifCond .lt 13, 3) := by decide +kernel
theorem dX9_isAsked_35 : decode cX9_isAsked 35 = .ok (.iload_n 2, 1) := by decide +kernel
theorem dX9_isAsked_36 : decode cX9_isAsked 36 = .ok (.bipush 9, 2) := by decide +kernel
theorem dX9_isAsked_38 : decode cX9_isAsked 38 = .ok (.if_icmp .gt 7, 3) := by decide +kernel
theorem dX9_isAsked_41 : decode cX9_isAsked 41 = .ok (.iconst 1, 1) := by decide +kernel
theorem dX9_isAsked_42 : decode cX9_isAsked 42 = .ok (.goto 23, 3) := by decide +kernel
theorem dX9_isAsked_45 : decode cX9_isAsked 45 = .ok (.iconst 0, 1) := by decide +kernel
theorem dX9_isAsked_46 : decode cX9_isAsked 46 = .ok (.goto 19, 3) := by decide +kernel
theorem dX9_isAsked_49 : decode cX9_isAsked 49 = .ok (.iload_n 2, 1) := by decide +kernel
theorem dX9_isAsked_50 : decode cX9_isAsked 50 = .ok (.iconst 1, 1) := by decide +kernel
theorem dX9_isAsked_51 : decode cX9_isAsked 51 = .ok (.if_icmp .lt 13, 3) := by decide +kernel
theorem dX9_isAsked_54 : decode cX9_isAsked 54 = .ok (.iload_n 2, 1) := by decide +kernel
theorem dX9_isAsked_55 : decode cX9_isAsked 55 = .ok (.bipush 99, 2) := by decide +kernel
theorem dX9_isAsked_57 : decode cX9_isAsked 57 = .ok (.if_icmp .gt 7, 3) := by decide +kernel
theorem dX9_isAsked_60 : decode cX9_isAsked 60 = .ok (.iconst 1, 1) := by decide +kernel
theorem dX9_isAsked_61 : decode cX9_isAsked 61 = .ok (.goto 4, 3) := by decide +kernel
theorem dX9_isAsked_64 : decode cX9_isAsked 64 = .ok (.iconst 0, 1) := by decide +kernel
theorem dX9_isAsked_65 : decode cX9_isAsked 65 = .ok (.ireturn, 1) := by decide +kernel
theorem dX9_asks_0 : decode cX9_asks 0 = .ok (.iload_n 1, 1) := by decide +kernel
theorem dX9_asks_1 : decode cX9_asks 1 = .ok (.ifCond .ne 10, 3) := by decide +kernel
theorem dX9_asks_4 : decode cX9_asks 4 = .ok (.aload_n 0, 1) := by decide +kernel
theorem dX9_asks_5 : decode cX9_asks 5 = .ok (.getfield 134, 3) := by decide +kernel
theorem dX9_asks_8 : decode cX9_asks 8 = .ok (.goto 19, 3) := by decide +kernel
theorem dX9_asks_11 : decode cX9_asks 11 = .ok (.iload_n 1, 1) := by decide +kernel
theorem dX9_asks_12 : decode cX9_asks 12 = .ok (.iconst 1, 1) := by decide +kernel
theorem dX9_asks_13 : decode cX9_asks 13 = .ok (.if_icmp .ne 10, 3) := by decide +kernel
theorem dX9_asks_16 : decode cX9_asks 16 = .ok (.aload_n 0, 1) := by decide +kernel
theorem dX9_asks_17 : decode cX9_asks 17 = .ok (.getfield 7, 3) := by decide +kernel
theorem dX9_asks_20 : decode cX9_asks 20 = .ok (.goto 7, 3) := by decide +kernel
theorem dX9_asks_23 : decode cX9_asks 23 = .ok (.aload_n 0, 1) := by decide +kernel
theorem dX9_asks_24 : decode cX9_asks 24 = .ok (.getfield 13, 3) := by decide +kernel
theorem dX9_asks_27 : decode cX9_asks 27 = .ok (.istore_n 3, 1) := by decide +kernel
theorem dX9_asks_28 : decode cX9_asks 28 = .ok (.iload_n 1, 1) := by decide +kernel
theorem dX9_asks_29 : decode cX9_asks 29 = .ok (.ifCond .ne 11, 3) := by decide +kernel
theorem dX9_asks_32 : decode cX9_asks 32 = .ok (.aload_n 0, 1) := by decide +kernel
theorem dX9_asks_33 : decode cX9_asks 33 = .ok (.iload_n 2, 1) := by decide +kernel
theorem dX9_asks_34 : decode cX9_asks 34 = .ok (.putfield 134, 3) := by decide +kernel
theorem dX9_asks_37 : decode cX9_asks 37 = .ok (.goto 21, 3) := by decide +kernel
theorem dX9_asks_40 : decode cX9_asks 40 = .ok (.iload_n 1, 1) := by decide +kernel
theorem dX9_asks_41 : decode cX9_asks 41 = .ok (.iconst 1, 1) := by decide +kernel
theorem dX9_asks_42 : decode cX9_asks 42 = .ok (.if_icmp .ne 11, 3) := by decide +kernel
theorem dX9_asks_45 : decode cX9_asks 45 = .ok (.aload_n 0, 1) := by decide +kernel
theorem dX9_asks_46 : decode cX9_asks 46 = .ok (.iload_n 2, 1) := by decide +kernel
theorem dX9_asks_47 : decode cX9_asks 47 = .ok (.putfield 7, 3) := by decide +kernel
theorem dX9_asks_50 : decode cX9_asks 50 = .ok (.goto 8, 3) := by decide +kernel
theorem dX9_asks_53 : decode cX9_asks 53 = .ok (.aload_n 0, 1) := by decide +kernel
theorem dX9_asks_54 : decode cX9_asks 54 = .ok (.iload_n 2, 1) := by decide +kernel
theorem dX9_asks_55 : decode cX9_asks 55 = .ok (.putfield 13, 3) := by decide +kernel
theorem dX9_asks_58 : decode cX9_asks 58 = .ok (.iload_n 3, 1) := by decide +kernel
theorem dX9_asks_59 : decode cX9_asks 59 = .ok (.ireturn, 1) := by decide +kernel
set_option maxRecDepth 20000 in
theorem ggX9_ask_X9_isAsked : GoodIn wsX9_ask wsX9_isAsked := goodIn_r _ [5] (by decide +kernel) (by decide +kernel)
set_option maxRecDepth 20000 in
theorem gX9_ask_X9_isAsked : GoodIn wsX9_ask (wsV RX9 137 RX9 yX9_isAsked wsX9_isAsked) := goodIn_app (goodIn_of _ (by decide +kernel)) ggX9_ask_X9_isAsked
set_option maxRecDepth 20000 in
theorem ggX9_ask_X9_asks : GoodIn wsX9_ask wsX9_asks := goodIn_r _ [9, 10, 11, 12, 19, 20, 21, 22, 23, 24, 25, 26, 27, 28, 29, 30, 31, 32, 33, 34, 35, 36, 37, 38, 39, 40, 41, 42, 43, 44, 45, 46, 47, 48, 49, 50, 51, 52, 53, 54, 55, 56, 57, 58] (by decide +kernel) (by decide +kernel)
set_option maxRecDepth 20000 in
theorem gX9_ask_X9_asks : GoodIn wsX9_ask (wsV RX9 140 RX9 yX9_asks wsX9_asks) := goodIn_app (goodIn_of _ (by decide +kernel)) ggX9_ask_X9_asks
set_option maxRecDepth 20000 in
theorem ggX9_ask_X9_noFar : GoodIn wsX9_ask wsX9_noFar := goodIn_r _ [16, 17, 18, 19, 20, 21, 22, 23, 24, 25, 26, 27, 28, 29, 30, 31, 32, 33, 34, 35, 36, 37, 38, 39, 40, 41, 42, 43, 44, 45, 46, 47, 48, 49, 50, 51, 52, 53, 54, 55, 56, 57, 58] (by decide +kernel) (by decide +kernel)
set_option maxRecDepth 20000 in
theorem gX9_ask_X9_noFar : GoodIn wsX9_ask (wsV RX9 105 RX9 yX9_noFar wsX9_noFar) := goodIn_app (goodIn_of _ (by decide +kernel)) ggX9_ask_X9_noFar
theorem dX9_ask_0 : decode cX9_ask 0 = .ok (.iload_n 1, 1) := by decide +kernel
theorem dX9_ask_1 : decode cX9_ask 1 = .ok (.ifCond .lt 26, 3) := by decide +kernel
theorem dX9_ask_4 : decode cX9_ask 4 = .ok (.iload_n 1, 1) := by decide +kernel
theorem dX9_ask_5 : decode cX9_ask 5 = .ok (.iconst 2, 1) := by decide +kernel
theorem dX9_ask_6 : decode cX9_ask 6 = .ok (.if_icmp .gt 21, 3) := by decide +kernel
theorem dX9_ask_9 : decode cX9_ask 9 = .ok (.aload_n 0, 1) := by decide +kernel
theorem dX9_ask_10 : decode cX9_ask 10 = .ok (.iload_n 1, 1) := by decide +kernel
theorem dX9_ask_11 : decode cX9_ask 11 = .ok (.iload_n 2, 1) := by decide +kernel
theorem dX9_ask_12 : decode cX9_ask 12 = .ok (.invokevirtual 137, 3) := by decide +kernel
theorem dX9_ask_15 : decode cX9_ask 15 = .ok (.ifCond .eq 12, 3) := by decide +kernel
theorem dX9_ask_18 : decode cX9_ask 18 = .ok (.aload_n 0, 1) := by decide +kernel
theorem dX9_ask_19 : decode cX9_ask 19 = .ok (.iload_n 1, 1) := by decide +kernel
theorem dX9_ask_20 : decode cX9_ask 20 = .ok (.iload_n 2, 1) := by decide +kernel
theorem dX9_ask_21 : decode cX9_ask 21 = .ok (.invokevirtual 140, 3) := by decide +kernel
theorem dX9_ask_24 : decode cX9_ask 24 = .ok (.goto 9, 3) := by decide +kernel
theorem dX9_ask_27 : decode cX9_ask 27 = .ok (.aload_n 0, 1) := by decide +kernel
theorem dX9_ask_28 : decode cX9_ask 28 = .ok (.bipush (-6), 2) := by decide +kernel
theorem dX9_ask_30 : decode cX9_ask 30 = .ok (.invokevirtual 105, 3) := by decide +kernel
theorem dX9_ask_33 : decode cX9_ask 33 = .ok (.ireturn, 1) := by decide +kernel
theorem dX9_wrong_0 : decode cX9_wrong 0 = .ok (.aload_n 0, 1) := by decide +kernel
theorem dX9_wrong_1 : decode cX9_wrong 1 = .ok (.iload_n 1, 1) := by decide +kernel
theorem dX9_wrong_2 : decode cX9_wrong 2 = .ok (.putfield 144, 3) := by decide +kernel
theorem dX9_wrong_5 : decode cX9_wrong 5 = .ok (.iconst 0, 1) := by decide +kernel
theorem dX9_wrong_6 : decode cX9_wrong 6 = .ok (.ireturn, 1) := by decide +kernel
theorem dX9_stands_0 : decode cX9_stands 0 = .ok (.iconst 0, 1) := by decide +kernel
theorem dX9_stands_1 : decode cX9_stands 1 = .ok (.istore_n 2, 1) := by decide +kernel
theorem dX9_stands_2 : decode cX9_stands 2 = .ok (.iconst 0, 1) := by decide +kernel
theorem dX9_stands_3 : decode cX9_stands 3 = .ok (.istore_n 3, 1) := by decide +kernel
theorem dX9_stands_4 : decode cX9_stands 4 = .ok (.iload_n 3, 1) := by decide +kernel
theorem dX9_stands_5 : decode cX9_stands 5 = .ok (.iload_n 1, 1) := by decide +kernel
theorem dX9_stands_6 : decode cX9_stands 6 = .ok (.if_icmp .ge 26, 3) := by decide +kernel
theorem dX9_stands_9 : decode cX9_stands 9 = .ok (.iload_n 3, 1) := by decide +kernel
theorem dX9_stands_10 : decode cX9_stands 10 = .ok (.aload_n 0, 1) := by decide +kernel
theorem dX9_stands_11 : decode cX9_stands 11 = .ok (.getfield 69, 3) := by decide +kernel
theorem dX9_stands_14 : decode cX9_stands 14 = .ok (.iload_n 2, 1) := by decide +kernel
theorem dX9_stands_15 : decode cX9_stands 15 = .ok (.iaload, 1) := by decide +kernel
theorem dX9_stands_16 : decode cX9_stands 16 = .ok (.ifCond .ne 7, 3) := by decide +kernel
theorem dX9_stands_19 : decode cX9_stands 19 = .ok (.iconst 1, 1) := by decide +kernel
theorem dX9_stands_20 : decode cX9_stands 20 = .ok (.goto 4, 3) := by decide +kernel
theorem dX9_stands_23 : decode cX9_stands 23 = .ok (.iconst 0, 1) := by decide +kernel
theorem dX9_stands_24 : decode cX9_stands 24 = .ok (.iadd, 1) := by decide +kernel
theorem dX9_stands_25 : decode cX9_stands 25 = .ok (.istore_n 3, 1) := by decide +kernel
theorem dX9_stands_26 : decode cX9_stands 26 = .ok (.iinc 2 1, 3) := by decide +kernel
theorem dX9_stands_29 : decode cX9_stands 29 = .ok (.goto (-25), 3) := by decide +kernel
theorem dX9_stands_32 : decode cX9_stands 32 = .ok (.aload_n 0, 1) := by decide +kernel
theorem dX9_stands_33 : decode cX9_stands 33 = .ok (.getfield 147, 3) := by decide +kernel
theorem dX9_stands_36 : decode cX9_stands 36 = .ok (.istore_n 3, 1) := by decide +kernel
theorem dX9_stands_37 : decode cX9_stands 37 = .ok (.aload_n 0, 1) := by decide +kernel
theorem dX9_stands_38 : decode cX9_stands 38 = .ok (.getfield 69, 3) := by decide +kernel
theorem dX9_stands_41 : decode cX9_stands 41 = .ok (.iload_n 2, 1) := by decide +kernel
theorem dX9_stands_42 : decode cX9_stands 42 = .ok (.iaload, 1) := by decide +kernel
theorem dX9_stands_43 : decode cX9_stands 43 = .ok (.bipush 32, 2) := by decide +kernel
theorem dX9_stands_45 : decode cX9_stands 45 = .ok (.if_icmp .le 41, 3) := by decide +kernel
theorem dX9_stands_48 : decode cX9_stands 48 = .ok (.iload_n 3, 1) := by decide +kernel
theorem dX9_stands_49 : decode cX9_stands 49 = .ok (.aload_n 0, 1) := by decide +kernel
theorem dX9_stands_50 : decode cX9_stands 50 = .ok (.getfield 150, 3) := by decide +kernel
theorem dX9_stands_53 : decode cX9_stands 53 = .ok (.if_icmp .ge 33, 3) := by decide +kernel
theorem dX9_stands_56 : decode cX9_stands 56 = .ok (.aload_n 0, 1) := by decide +kernel
theorem dX9_stands_57 : decode cX9_stands 57 = .ok (.getfield 62, 3) := by decide +kernel
theorem dX9_stands_60 : decode cX9_stands 60 = .ok (.aload_n 0, 1) := by decide +kernel
theorem dX9_stands_61 : decode cX9_stands 61 = .ok (.getfield 153, 3) := by decide +kernel
theorem dX9_stands_64 : decode cX9_stands 64 = .ok (.iload_n 3, 1) := by decide +kernel
theorem dX9_stands_65 : decode cX9_stands 65 = .ok (.iadd, 1) := by decide +kernel
theorem dX9_stands_66 : decode cX9_stands 66 = .ok (.laload, 1) := by decide +kernel
theorem dX9_stands_67 : decode cX9_stands 67 = .ok (.l2i, 1) := by decide +kernel
theorem dX9_stands_68 : decode cX9_stands 68 = .ok (.aload_n 0, 1) := by decide +kernel
theorem dX9_stands_69 : decode cX9_stands 69 = .ok (.getfield 69, 3) := by decide +kernel
theorem dX9_stands_72 : decode cX9_stands 72 = .ok (.iload_n 2, 1) := by decide +kernel
theorem dX9_stands_73 : decode cX9_stands 73 = .ok (.iaload, 1) := by decide +kernel
theorem dX9_stands_74 : decode cX9_stands 74 = .ok (.if_icmp .ne 12, 3) := by decide +kernel
theorem dX9_stands_77 : decode cX9_stands 77 = .ok (.iinc 3 1, 3) := by decide +kernel
theorem dX9_stands_80 : decode cX9_stands 80 = .ok (.iinc 2 1, 3) := by decide +kernel
theorem dX9_stands_83 : decode cX9_stands 83 = .ok (.goto (-46), 3) := by decide +kernel
theorem dX9_stands_86 : decode cX9_stands 86 = .ok (.aload_n 0, 1) := by decide +kernel
theorem dX9_stands_87 : decode cX9_stands 87 = .ok (.getfield 69, 3) := by decide +kernel
theorem dX9_stands_90 : decode cX9_stands 90 = .ok (.iload_n 2, 1) := by decide +kernel
theorem dX9_stands_91 : decode cX9_stands 91 = .ok (.iaload, 1) := by decide +kernel
theorem dX9_stands_92 : decode cX9_stands 92 = .ok (.bipush 32, 2) := by decide +kernel
theorem dX9_stands_94 : decode cX9_stands 94 = .ok (.if_icmp .gt 7, 3) := by decide +kernel
theorem dX9_stands_97 : decode cX9_stands 97 = .ok (.iconst 1, 1) := by decide +kernel
theorem dX9_stands_98 : decode cX9_stands 98 = .ok (.goto 4, 3) := by decide +kernel
theorem dX9_stands_101 : decode cX9_stands 101 = .ok (.iconst 0, 1) := by decide +kernel
theorem dX9_stands_102 : decode cX9_stands 102 = .ok (.ireturn, 1) := by decide +kernel
theorem dX9_word_0 : decode cX9_word 0 = .ok (.iconst 0, 1) := by decide +kernel
theorem dX9_word_1 : decode cX9_word 1 = .ok (.istore_n 1, 1) := by decide +kernel
theorem dX9_word_2 : decode cX9_word 2 = .ok (.aload_n 0, 1) := by decide +kernel
theorem dX9_word_3 : decode cX9_word 3 = .ok (.getfield 147, 3) := by decide +kernel
theorem dX9_word_6 : decode cX9_word 6 = .ok (.istore_n 2, 1) := by decide +kernel
theorem dX9_word_7 : decode cX9_word 7 = .ok (.iconst 0, 1) := by decide +kernel
theorem dX9_word_8 : decode cX9_word 8 = .ok (.istore_n 3, 1) := by decide +kernel
theorem dX9_word_9 : decode cX9_word 9 = .ok (.iload_n 3, 1) := by decide +kernel
theorem dX9_word_10 : decode cX9_word 10 = .ok (.bipush 7, 2) := by decide +kernel
theorem dX9_word_12 : decode cX9_word 12 = .ok (.if_icmp .ge 118, 3) := by decide +kernel
theorem dX9_word_15 : decode cX9_word 15 = .ok (.aload_n 0, 1) := by decide +kernel
theorem dX9_word_16 : decode cX9_word 16 = .ok (.getfield 147, 3) := by decide +kernel
theorem dX9_word_19 : decode cX9_word 19 = .ok (.istore 4, 2) := by decide +kernel
theorem dX9_word_21 : decode cX9_word 21 = .ok (.iload_n 1, 1) := by decide +kernel
theorem dX9_word_22 : decode cX9_word 22 = .ok (.istore 5, 2) := by decide +kernel
theorem dX9_word_24 : decode cX9_word 24 = .ok (.aload_n 0, 1) := by decide +kernel
theorem dX9_word_25 : decode cX9_word 25 = .ok (.getfield 69, 3) := by decide +kernel
theorem dX9_word_28 : decode cX9_word 28 = .ok (.iload 5, 2) := by decide +kernel
theorem dX9_word_30 : decode cX9_word 30 = .ok (.iaload, 1) := by decide +kernel
theorem dX9_word_31 : decode cX9_word 31 = .ok (.ifCond .eq 44, 3) := by decide +kernel
theorem dX9_word_34 : decode cX9_word 34 = .ok (.iload 4, 2) := by decide +kernel
theorem dX9_word_36 : decode cX9_word 36 = .ok (.aload_n 0, 1) := by decide +kernel
theorem dX9_word_37 : decode cX9_word 37 = .ok (.getfield 150, 3) := by decide +kernel
theorem dX9_word_40 : decode cX9_word 40 = .ok (.if_icmp .ge 35, 3) := by decide +kernel
theorem dX9_word_43 : decode cX9_word 43 = .ok (.aload_n 0, 1) := by decide +kernel
theorem dX9_word_44 : decode cX9_word 44 = .ok (.getfield 62, 3) := by decide +kernel
theorem dX9_word_47 : decode cX9_word 47 = .ok (.aload_n 0, 1) := by decide +kernel
theorem dX9_word_48 : decode cX9_word 48 = .ok (.getfield 153, 3) := by decide +kernel
theorem dX9_word_51 : decode cX9_word 51 = .ok (.iload 4, 2) := by decide +kernel
theorem dX9_word_53 : decode cX9_word 53 = .ok (.iadd, 1) := by decide +kernel
theorem dX9_word_54 : decode cX9_word 54 = .ok (.laload, 1) := by decide +kernel
theorem dX9_word_55 : decode cX9_word 55 = .ok (.l2i, 1) := by decide +kernel
theorem dX9_word_56 : decode cX9_word 56 = .ok (.aload_n 0, 1) := by decide +kernel
theorem dX9_word_57 : decode cX9_word 57 = .ok (.getfield 69, 3) := by decide +kernel
theorem dX9_word_60 : decode cX9_word 60 = .ok (.iload 5, 2) := by decide +kernel
theorem dX9_word_62 : decode cX9_word 62 = .ok (.iaload, 1) := by decide +kernel
theorem dX9_word_63 : decode cX9_word 63 = .ok (.if_icmp .ne 12, 3) := by decide +kernel
theorem dX9_word_66 : decode cX9_word 66 = .ok (.iinc 4 1, 3) := by decide +kernel
theorem dX9_word_69 : decode cX9_word 69 = .ok (.iinc 5 1, 3) := by decide +kernel
theorem dX9_word_72 : decode cX9_word 72 = .ok (.goto (-48), 3) := by decide +kernel
theorem dX9_word_75 : decode cX9_word 75 = .ok (.aload_n 0, 1) := by decide +kernel
theorem dX9_word_76 : decode cX9_word 76 = .ok (.getfield 69, 3) := by decide +kernel
theorem dX9_word_79 : decode cX9_word 79 = .ok (.iload 5, 2) := by decide +kernel
theorem dX9_word_81 : decode cX9_word 81 = .ok (.iaload, 1) := by decide +kernel
theorem dX9_word_82 : decode cX9_word 82 = .ok (.ifCond .ne 11, 3) := by decide +kernel
theorem dX9_word_85 : decode cX9_word 85 = .ok (.aload_n 0, 1) := by decide +kernel
theorem dX9_word_86 : decode cX9_word 86 = .ok (.iload 4, 2) := by decide +kernel
theorem dX9_word_88 : decode cX9_word 88 = .ok (.putfield 147, 3) := by decide +kernel
theorem dX9_word_91 : decode cX9_word 91 = .ok (.iload_n 3, 1) := by decide +kernel
theorem dX9_word_92 : decode cX9_word 92 = .ok (.ireturn, 1) := by decide +kernel
theorem dX9_word_93 : decode cX9_word 93 = .ok (.iload 4, 2) := by decide +kernel
theorem dX9_word_95 : decode cX9_word 95 = .ok (.iload_n 2, 1) := by decide +kernel
theorem dX9_word_96 : decode cX9_word 96 = .ok (.if_icmp .le 8, 3) := by decide +kernel
theorem dX9_word_99 : decode cX9_word 99 = .ok (.iload 4, 2) := by decide +kernel
theorem dX9_word_101 : decode cX9_word 101 = .ok (.goto 4, 3) := by decide +kernel
theorem dX9_word_104 : decode cX9_word 104 = .ok (.iload_n 2, 1) := by decide +kernel
theorem dX9_word_105 : decode cX9_word 105 = .ok (.istore_n 2, 1) := by decide +kernel
theorem dX9_word_106 : decode cX9_word 106 = .ok (.aload_n 0, 1) := by decide +kernel
theorem dX9_word_107 : decode cX9_word 107 = .ok (.getfield 69, 3) := by decide +kernel
theorem dX9_word_110 : decode cX9_word 110 = .ok (.iload_n 1, 1) := by decide +kernel
theorem dX9_word_111 : decode cX9_word 111 = .ok (.iaload, 1) := by decide +kernel
theorem dX9_word_112 : decode cX9_word 112 = .ok (.ifCond .eq 9, 3) := by decide +kernel
theorem dX9_word_115 : decode cX9_word 115 = .ok (.iinc 1 1, 3) := by decide +kernel
theorem dX9_word_118 : decode cX9_word 118 = .ok (.goto (-12), 3) := by decide +kernel
theorem dX9_word_121 : decode cX9_word 121 = .ok (.iinc 1 1, 3) := by decide +kernel
theorem dX9_word_124 : decode cX9_word 124 = .ok (.iinc 3 1, 3) := by decide +kernel
theorem dX9_word_127 : decode cX9_word 127 = .ok (.goto (-118), 3) := by decide +kernel
theorem dX9_word_130 : decode cX9_word 130 = .ok (.aload_n 0, 1) := by decide +kernel
theorem dX9_word_131 : decode cX9_word 131 = .ok (.iload_n 2, 1) := by decide +kernel
theorem dX9_word_132 : decode cX9_word 132 = .ok (.putfield 144, 3) := by decide +kernel
theorem dX9_word_135 : decode cX9_word 135 = .ok (.iconst (-1), 1) := by decide +kernel
theorem dX9_word_136 : decode cX9_word 136 = .ok (.ireturn, 1) := by decide +kernel
theorem dX9_isDigit_0 : decode cX9_isDigit 0 = .ok (.aload_n 0, 1) := by decide +kernel
theorem dX9_isDigit_1 : decode cX9_isDigit 1 = .ok (.getfield 147, 3) := by decide +kernel
theorem dX9_isDigit_4 : decode cX9_isDigit 4 = .ok (.aload_n 0, 1) := by decide +kernel
theorem dX9_isDigit_5 : decode cX9_isDigit 5 = .ok (.getfield 150, 3) := by decide +kernel
theorem dX9_isDigit_8 : decode cX9_isDigit 8 = .ok (.if_icmp .ge 47, 3) := by decide +kernel
theorem dX9_isDigit_11 : decode cX9_isDigit 11 = .ok (.aload_n 0, 1) := by decide +kernel
theorem dX9_isDigit_12 : decode cX9_isDigit 12 = .ok (.getfield 62, 3) := by decide +kernel
theorem dX9_isDigit_15 : decode cX9_isDigit 15 = .ok (.aload_n 0, 1) := by decide +kernel
theorem dX9_isDigit_16 : decode cX9_isDigit 16 = .ok (.getfield 153, 3) := by decide +kernel
theorem dX9_isDigit_19 : decode cX9_isDigit 19 = .ok (.aload_n 0, 1) := by decide +kernel
theorem dX9_isDigit_20 : decode cX9_isDigit 20 = .ok (.getfield 147, 3) := by decide +kernel
theorem dX9_isDigit_23 : decode cX9_isDigit 23 = .ok (.iadd, 1) := by decide +kernel
theorem dX9_isDigit_24 : decode cX9_isDigit 24 = .ok (.laload, 1) := by decide +kernel
theorem dX9_isDigit_25 : decode cX9_isDigit 25 = .ok (.l2i, 1) := by decide +kernel
theorem dX9_isDigit_26 : decode cX9_isDigit 26 = .ok (.bipush 48, 2) := by decide +kernel
theorem dX9_isDigit_28 : decode cX9_isDigit 28 = .ok (.if_icmp .lt 27, 3) := by decide +kernel
theorem dX9_isDigit_31 : decode cX9_isDigit 31 = .ok (.aload_n 0, 1) := by decide +kernel
theorem dX9_isDigit_32 : decode cX9_isDigit 32 = .ok (.getfield 62, 3) := by decide +kernel
theorem dX9_isDigit_35 : decode cX9_isDigit 35 = .ok (.aload_n 0, 1) := by decide +kernel
theorem dX9_isDigit_36 : decode cX9_isDigit 36 = .ok (.getfield 153, 3) := by decide +kernel
theorem dX9_isDigit_39 : decode cX9_isDigit 39 = .ok (.aload_n 0, 1) := by decide +kernel
theorem dX9_isDigit_40 : decode cX9_isDigit 40 = .ok (.getfield 147, 3) := by decide +kernel
theorem dX9_isDigit_43 : decode cX9_isDigit 43 = .ok (.iadd, 1) := by decide +kernel
theorem dX9_isDigit_44 : decode cX9_isDigit 44 = .ok (.laload, 1) := by decide +kernel
theorem dX9_isDigit_45 : decode cX9_isDigit 45 = .ok (.l2i, 1) := by decide +kernel
theorem dX9_isDigit_46 : decode cX9_isDigit 46 = .ok (.bipush 57, 2) := by decide +kernel
theorem dX9_isDigit_48 : decode cX9_isDigit 48 = .ok (.if_icmp .gt 7, 3) := by decide +kernel
theorem dX9_isDigit_51 : decode cX9_isDigit 51 = .ok (.iconst 1, 1) := by decide +kernel
theorem dX9_isDigit_52 : decode cX9_isDigit 52 = .ok (.goto 4, 3) := by decide +kernel
theorem dX9_isDigit_55 : decode cX9_isDigit 55 = .ok (.iconst 0, 1) := by decide +kernel
theorem dX9_isDigit_56 : decode cX9_isDigit 56 = .ok (.ireturn, 1) := by decide +kernel
set_option maxRecDepth 20000 in
theorem ggX9_reads_X9_isDigit : GoodIn wsX9_reads wsX9_isDigit := goodIn_r _ [9, 2, 10, 3, 4, 16, 17, 18, 19, 20, 21, 22, 23, 24, 25, 26, 27, 28, 29, 30, 31, 32, 33, 34, 35, 36, 37, 38, 39, 40, 41, 42, 43, 44, 45, 46, 47, 48, 49, 50, 51, 52, 53, 54, 55] (by decide +kernel) (by decide +kernel)
set_option maxRecDepth 20000 in
theorem gX9_reads_X9_isDigit : GoodIn wsX9_reads (wsV RX9 159 RX9 yX9_isDigit wsX9_isDigit) := goodIn_app (goodIn_of _ (by decide +kernel)) ggX9_reads_X9_isDigit
set_option maxRecDepth 20000 in
theorem ggX9_reads_X9_wrong : GoodIn wsX9_reads wsX9_wrong := goodIn_r _ [14, 15, 16, 17, 18, 19, 20, 21, 22, 23, 24, 25, 26, 27, 28, 29, 30, 31, 32, 33, 34, 35, 36, 37, 38, 39, 40, 41, 42, 43, 44, 45, 46, 47, 48, 49, 50, 51, 52, 53, 54, 55] (by decide +kernel) (by decide +kernel)
set_option maxRecDepth 20000 in
theorem gX9_reads_X9_wrong : GoodIn wsX9_reads (wsV RX9 163 RX9 yX9_wrong wsX9_wrong) := goodIn_app (goodIn_of _ (by decide +kernel)) ggX9_reads_X9_wrong
theorem dX9_reads_0 : decode cX9_reads 0 = .ok (.aload_n 0, 1) := by decide +kernel
theorem dX9_reads_1 : decode cX9_reads 1 = .ok (.iconst 0, 1) := by decide +kernel
theorem dX9_reads_2 : decode cX9_reads 2 = .ok (.putfield 156, 3) := by decide +kernel
theorem dX9_reads_5 : decode cX9_reads 5 = .ok (.aload_n 0, 1) := by decide +kernel
theorem dX9_reads_6 : decode cX9_reads 6 = .ok (.invokevirtual 159, 3) := by decide +kernel
theorem dX9_reads_9 : decode cX9_reads 9 = .ok (.ifCond .ne 12, 3) := by decide +kernel
theorem dX9_reads_12 : decode cX9_reads 12 = .ok (.aload_n 0, 1) := by decide +kernel
theorem dX9_reads_13 : decode cX9_reads 13 = .ok (.aload_n 0, 1) := by decide +kernel
theorem dX9_reads_14 : decode cX9_reads 14 = .ok (.getfield 147, 3) := by decide +kernel
theorem dX9_reads_17 : decode cX9_reads 17 = .ok (.invokevirtual 163, 3) := by decide +kernel
theorem dX9_reads_20 : decode cX9_reads 20 = .ok (.ireturn, 1) := by decide +kernel
theorem dX9_reads_21 : decode cX9_reads 21 = .ok (.iconst 0, 1) := by decide +kernel
theorem dX9_reads_22 : decode cX9_reads 22 = .ok (.istore_n 1, 1) := by decide +kernel
theorem dX9_reads_23 : decode cX9_reads 23 = .ok (.iload_n 1, 1) := by decide +kernel
theorem dX9_reads_24 : decode cX9_reads 24 = .ok (.iconst 4, 1) := by decide +kernel
theorem dX9_reads_25 : decode cX9_reads 25 = .ok (.if_icmp .ge 56, 3) := by decide +kernel
theorem dX9_reads_28 : decode cX9_reads 28 = .ok (.aload_n 0, 1) := by decide +kernel
theorem dX9_reads_29 : decode cX9_reads 29 = .ok (.invokevirtual 159, 3) := by decide +kernel
theorem dX9_reads_32 : decode cX9_reads 32 = .ok (.ifCond .eq 49, 3) := by decide +kernel
theorem dX9_reads_35 : decode cX9_reads 35 = .ok (.aload_n 0, 1) := by decide +kernel
theorem dX9_reads_36 : decode cX9_reads 36 = .ok (.bipush 10, 2) := by decide +kernel
theorem dX9_reads_38 : decode cX9_reads 38 = .ok (.aload_n 0, 1) := by decide +kernel
theorem dX9_reads_39 : decode cX9_reads 39 = .ok (.getfield 156, 3) := by decide +kernel
theorem dX9_reads_42 : decode cX9_reads 42 = .ok (.imul, 1) := by decide +kernel
theorem dX9_reads_43 : decode cX9_reads 43 = .ok (.aload_n 0, 1) := by decide +kernel
theorem dX9_reads_44 : decode cX9_reads 44 = .ok (.getfield 62, 3) := by decide +kernel
theorem dX9_reads_47 : decode cX9_reads 47 = .ok (.aload_n 0, 1) := by decide +kernel
theorem dX9_reads_48 : decode cX9_reads 48 = .ok (.getfield 153, 3) := by decide +kernel
theorem dX9_reads_51 : decode cX9_reads 51 = .ok (.aload_n 0, 1) := by decide +kernel
theorem dX9_reads_52 : decode cX9_reads 52 = .ok (.getfield 147, 3) := by decide +kernel
theorem dX9_reads_55 : decode cX9_reads 55 = .ok (.iadd, 1) := by decide +kernel
theorem dX9_reads_56 : decode cX9_reads 56 = .ok (.laload, 1) := by decide +kernel
theorem dX9_reads_57 : decode cX9_reads 57 = .ok (.l2i, 1) := by decide +kernel
theorem dX9_reads_58 : decode cX9_reads 58 = .ok (.iadd, 1) := by decide +kernel
theorem dX9_reads_59 : decode cX9_reads 59 = .ok (.bipush 48, 2) := by decide +kernel
theorem dX9_reads_61 : decode cX9_reads 61 = .ok (.isub, 1) := by decide +kernel
theorem dX9_reads_62 : decode cX9_reads 62 = .ok (.putfield 156, 3) := by decide +kernel
theorem dX9_reads_65 : decode cX9_reads 65 = .ok (.aload_n 0, 1) := by decide +kernel
theorem dX9_reads_66 : decode cX9_reads 66 = .ok (.dup, 1) := by decide +kernel
theorem dX9_reads_67 : decode cX9_reads 67 = .ok (.getfield 147, 3) := by decide +kernel
theorem dX9_reads_70 : decode cX9_reads 70 = .ok (.iconst 1, 1) := by decide +kernel
theorem dX9_reads_71 : decode cX9_reads 71 = .ok (.iadd, 1) := by decide +kernel
theorem dX9_reads_72 : decode cX9_reads 72 = .ok (.putfield 147, 3) := by decide +kernel
theorem dX9_reads_75 : decode cX9_reads 75 = .ok (.iinc 1 1, 3) := by decide +kernel
theorem dX9_reads_78 : decode cX9_reads 78 = .ok (.goto (-55), 3) := by decide +kernel
theorem dX9_reads_81 : decode cX9_reads 81 = .ok (.iconst 1, 1) := by decide +kernel
theorem dX9_reads_82 : decode cX9_reads 82 = .ok (.ireturn, 1) := by decide +kernel
set_option maxRecDepth 20000 in
theorem ggX9_isSo_X9_isYards : GoodIn wsX9_isSo wsX9_isYards := goodIn_r _ [7] (by decide +kernel) (by decide +kernel)
set_option maxRecDepth 20000 in
theorem gX9_isSo_X9_isYards : GoodIn wsX9_isSo (wsV RX9 114 RX9 yX9_isYards wsX9_isYards) := goodIn_app (goodIn_of _ (by decide +kernel)) ggX9_isSo_X9_isYards
set_option maxRecDepth 20000 in
theorem ggX9_isSo_X9_isTold : GoodIn wsX9_isSo wsX9_isTold := goodIn_r _ [11, 12, 13, 14, 6, 15] (by decide +kernel) (by decide +kernel)
set_option maxRecDepth 20000 in
theorem gX9_isSo_X9_isTold : GoodIn wsX9_isSo (wsV RX9 130 RX9 yX9_isTold wsX9_isTold) := goodIn_app (goodIn_of _ (by decide +kernel)) ggX9_isSo_X9_isTold
set_option maxRecDepth 20000 in
theorem ggX9_isSo_X9_isAsked : GoodIn wsX9_isSo wsX9_isAsked := goodIn_r _ [19] (by decide +kernel) (by decide +kernel)
set_option maxRecDepth 20000 in
theorem gX9_isSo_X9_isAsked : GoodIn wsX9_isSo (wsV RX9 137 RX9 yX9_isAsked wsX9_isAsked) := goodIn_app (goodIn_of _ (by decide +kernel)) ggX9_isSo_X9_isAsked
theorem dX9_isSo_0 : decode cX9_isSo 0 = .ok (.iload_n 1, 1) := by decide +kernel
theorem dX9_isSo_1 : decode cX9_isSo 1 = .ok (.tableswitch 164 0 6 #[43, 108, 108, 164, 164, 164, 143], 43) := by decide +kernel
theorem dX9_isSo_44 : decode cX9_isSo 44 = .ok (.iload_n 2, 1) := by decide +kernel
theorem dX9_isSo_45 : decode cX9_isSo 45 = .ok (.ifCond .ne 20, 3) := by decide +kernel
theorem dX9_isSo_48 : decode cX9_isSo 48 = .ok (.aload_n 0, 1) := by decide +kernel
theorem dX9_isSo_49 : decode cX9_isSo 49 = .ok (.getfield 156, 3) := by decide +kernel
theorem dX9_isSo_52 : decode cX9_isSo 52 = .ok (.bipush 6, 2) := by decide +kernel
theorem dX9_isSo_54 : decode cX9_isSo 54 = .ok (.if_icmp .gt 7, 3) := by decide +kernel
theorem dX9_isSo_57 : decode cX9_isSo 57 = .ok (.iconst 1, 1) := by decide +kernel
theorem dX9_isSo_58 : decode cX9_isSo 58 = .ok (.goto 50, 3) := by decide +kernel
theorem dX9_isSo_61 : decode cX9_isSo 61 = .ok (.iconst 0, 1) := by decide +kernel
theorem dX9_isSo_62 : decode cX9_isSo 62 = .ok (.goto 46, 3) := by decide +kernel
theorem dX9_isSo_65 : decode cX9_isSo 65 = .ok (.iload_n 2, 1) := by decide +kernel
theorem dX9_isSo_66 : decode cX9_isSo 66 = .ok (.iconst 1, 1) := by decide +kernel
theorem dX9_isSo_67 : decode cX9_isSo 67 = .ok (.if_icmp .ne 20, 3) := by decide +kernel
theorem dX9_isSo_70 : decode cX9_isSo 70 = .ok (.aload_n 0, 1) := by decide +kernel
theorem dX9_isSo_71 : decode cX9_isSo 71 = .ok (.getfield 156, 3) := by decide +kernel
theorem dX9_isSo_74 : decode cX9_isSo 74 = .ok (.bipush 9, 2) := by decide +kernel
theorem dX9_isSo_76 : decode cX9_isSo 76 = .ok (.if_icmp .gt 7, 3) := by decide +kernel
theorem dX9_isSo_79 : decode cX9_isSo 79 = .ok (.iconst 1, 1) := by decide +kernel
theorem dX9_isSo_80 : decode cX9_isSo 80 = .ok (.goto 28, 3) := by decide +kernel
theorem dX9_isSo_83 : decode cX9_isSo 83 = .ok (.iconst 0, 1) := by decide +kernel
theorem dX9_isSo_84 : decode cX9_isSo 84 = .ok (.goto 24, 3) := by decide +kernel
theorem dX9_isSo_87 : decode cX9_isSo 87 = .ok (.iload_n 2, 1) := by decide +kernel
theorem dX9_isSo_88 : decode cX9_isSo 88 = .ok (.iconst 4, 1) := by decide +kernel
theorem dX9_isSo_89 : decode cX9_isSo 89 = .ok (.if_icmp .lt 14, 3) := by decide +kernel
theorem dX9_isSo_92 : decode cX9_isSo 92 = .ok (.aload_n 0, 1) := by decide +kernel
theorem dX9_isSo_93 : decode cX9_isSo 93 = .ok (.aload_n 0, 1) := by decide +kernel
theorem dX9_isSo_94 : decode cX9_isSo 94 = .ok (.getfield 156, 3) := by decide +kernel
theorem dX9_isSo_97 : decode cX9_isSo 97 = .ok (.invokevirtual 114, 3) := by decide +kernel
theorem dX9_isSo_100 : decode cX9_isSo 100 = .ok (.ifCond .eq 7, 3) := by decide +kernel
theorem dX9_isSo_103 : decode cX9_isSo 103 = .ok (.iconst 1, 1) := by decide +kernel
theorem dX9_isSo_104 : decode cX9_isSo 104 = .ok (.goto 4, 3) := by decide +kernel
theorem dX9_isSo_107 : decode cX9_isSo 107 = .ok (.iconst 0, 1) := by decide +kernel
theorem dX9_isSo_108 : decode cX9_isSo 108 = .ok (.ireturn, 1) := by decide +kernel
theorem dX9_isSo_109 : decode cX9_isSo 109 = .ok (.iload_n 2, 1) := by decide +kernel
theorem dX9_isSo_110 : decode cX9_isSo 110 = .ok (.ifCond .ne 22, 3) := by decide +kernel
theorem dX9_isSo_113 : decode cX9_isSo 113 = .ok (.aload_n 0, 1) := by decide +kernel
theorem dX9_isSo_114 : decode cX9_isSo 114 = .ok (.getfield 156, 3) := by decide +kernel
theorem dX9_isSo_117 : decode cX9_isSo 117 = .ok (.aload_n 0, 1) := by decide +kernel
theorem dX9_isSo_118 : decode cX9_isSo 118 = .ok (.getfield 91, 3) := by decide +kernel
theorem dX9_isSo_121 : decode cX9_isSo 121 = .ok (.if_icmp .ge 7, 3) := by decide +kernel
theorem dX9_isSo_124 : decode cX9_isSo 124 = .ok (.iconst 1, 1) := by decide +kernel
theorem dX9_isSo_125 : decode cX9_isSo 125 = .ok (.goto 18, 3) := by decide +kernel
theorem dX9_isSo_128 : decode cX9_isSo 128 = .ok (.iconst 0, 1) := by decide +kernel
theorem dX9_isSo_129 : decode cX9_isSo 129 = .ok (.goto 14, 3) := by decide +kernel
theorem dX9_isSo_132 : decode cX9_isSo 132 = .ok (.aload_n 0, 1) := by decide +kernel
theorem dX9_isSo_133 : decode cX9_isSo 133 = .ok (.iload_n 1, 1) := by decide +kernel
theorem dX9_isSo_134 : decode cX9_isSo 134 = .ok (.iconst 1, 1) := by decide +kernel
theorem dX9_isSo_135 : decode cX9_isSo 135 = .ok (.iadd, 1) := by decide +kernel
theorem dX9_isSo_136 : decode cX9_isSo 136 = .ok (.aload_n 0, 1) := by decide +kernel
theorem dX9_isSo_137 : decode cX9_isSo 137 = .ok (.getfield 156, 3) := by decide +kernel
theorem dX9_isSo_140 : decode cX9_isSo 140 = .ok (.invokevirtual 130, 3) := by decide +kernel
theorem dX9_isSo_143 : decode cX9_isSo 143 = .ok (.ireturn, 1) := by decide +kernel
theorem dX9_isSo_144 : decode cX9_isSo 144 = .ok (.iload_n 2, 1) := by decide +kernel
theorem dX9_isSo_145 : decode cX9_isSo 145 = .ok (.ifCond .gt 14, 3) := by decide +kernel
theorem dX9_isSo_148 : decode cX9_isSo 148 = .ok (.aload_n 0, 1) := by decide +kernel
theorem dX9_isSo_149 : decode cX9_isSo 149 = .ok (.getfield 156, 3) := by decide +kernel
theorem dX9_isSo_152 : decode cX9_isSo 152 = .ok (.aload_n 0, 1) := by decide +kernel
theorem dX9_isSo_153 : decode cX9_isSo 153 = .ok (.getfield 91, 3) := by decide +kernel
theorem dX9_isSo_156 : decode cX9_isSo 156 = .ok (.if_icmp .ge 7, 3) := by decide +kernel
theorem dX9_isSo_159 : decode cX9_isSo 159 = .ok (.iconst 1, 1) := by decide +kernel
theorem dX9_isSo_160 : decode cX9_isSo 160 = .ok (.goto 4, 3) := by decide +kernel
theorem dX9_isSo_163 : decode cX9_isSo 163 = .ok (.iconst 0, 1) := by decide +kernel
theorem dX9_isSo_164 : decode cX9_isSo 164 = .ok (.ireturn, 1) := by decide +kernel
theorem dX9_isSo_165 : decode cX9_isSo 165 = .ok (.aload_n 0, 1) := by decide +kernel
theorem dX9_isSo_166 : decode cX9_isSo 166 = .ok (.iload_n 1, 1) := by decide +kernel
theorem dX9_isSo_167 : decode cX9_isSo 167 = .ok (.iconst 3, 1) := by decide +kernel
theorem dX9_isSo_168 : decode cX9_isSo 168 = .ok (.isub, 1) := by decide +kernel
theorem dX9_isSo_169 : decode cX9_isSo 169 = .ok (.aload_n 0, 1) := by decide +kernel
theorem dX9_isSo_170 : decode cX9_isSo 170 = .ok (.getfield 156, 3) := by decide +kernel
theorem dX9_isSo_173 : decode cX9_isSo 173 = .ok (.invokevirtual 137, 3) := by decide +kernel
theorem dX9_isSo_176 : decode cX9_isSo 176 = .ok (.ireturn, 1) := by decide +kernel
set_option maxRecDepth 20000 in
theorem ggX9_item_X9_stands : GoodIn wsX9_item wsX9_stands := goodIn_r _ [17, 18, 2, 4, 5, 6, 71, 72, 73, 74, 75, 76, 77, 78, 79, 80, 81, 82, 83, 84, 85, 86, 87, 88, 89, 90, 91, 92, 93, 94, 95, 96, 97, 98, 99, 100, 101, 102, 103, 104, 105, 106, 107, 108, 109, 110] (by decide +kernel) (by decide +kernel)
set_option maxRecDepth 20000 in
theorem gX9_item_X9_stands : GoodIn wsX9_item (wsV RX9 166 RX9 yX9_stands wsX9_stands) := goodIn_app (goodIn_of _ (by decide +kernel)) ggX9_item_X9_stands
set_option maxRecDepth 20000 in
theorem ggX9_item_X9_wrong : GoodIn wsX9_item wsX9_wrong := goodIn_r _ [22, 23, 71, 72, 73, 74, 75, 76, 77, 78, 79, 80, 81, 82, 83, 84, 85, 86, 87, 88, 89, 90, 91, 92, 93, 94, 95, 96, 97, 98, 99, 100, 101, 102, 103, 104, 105, 106, 107, 108, 109, 110] (by decide +kernel) (by decide +kernel)
set_option maxRecDepth 20000 in
theorem gX9_item_X9_wrong : GoodIn wsX9_item (wsV RX9 163 RX9 yX9_wrong wsX9_wrong) := goodIn_app (goodIn_of _ (by decide +kernel)) ggX9_item_X9_wrong
set_option maxRecDepth 20000 in
theorem ggX9_item_X9_word : GoodIn wsX9_item wsX9_word := goodIn_r _ [27, 2, 18, 4, 5, 6, 23, 71, 72, 73, 74, 75, 76, 77, 78, 79, 80, 81, 82, 83, 84, 85, 86, 87, 88, 89, 90, 91, 92, 93, 94, 95, 96, 97, 98, 99, 100, 101, 102, 103, 104, 105, 106, 107, 108, 109, 110] (by decide +kernel) (by decide +kernel)
set_option maxRecDepth 20000 in
theorem gX9_item_X9_word : GoodIn wsX9_item (wsV RX9 169 RX9 yX9_word wsX9_word) := goodIn_app (goodIn_of _ (by decide +kernel)) ggX9_item_X9_word
set_option maxRecDepth 20000 in
theorem ggX9_item_X9_reads : GoodIn wsX9_item wsX9_reads := goodIn_r _ [31, 8, 2, 5, 6, 32, 33, 34, 16, 35, 4, 19, 20, 21, 22, 23, 71, 72, 73, 74, 75, 76, 77, 78, 79, 80, 81, 82, 83, 84, 85, 86, 87, 88, 89, 90, 91, 92, 93, 94, 95, 96, 97, 98, 99, 100, 101, 102, 103, 104, 105, 106, 107, 108, 109, 110] (by decide +kernel) (by decide +kernel)
set_option maxRecDepth 20000 in
theorem gX9_item_X9_reads : GoodIn wsX9_item (wsV RX9 173 RX9 yX9_reads wsX9_reads) := goodIn_app (goodIn_of _ (by decide +kernel)) ggX9_item_X9_reads
set_option maxRecDepth 20000 in
theorem ggX9_item_X9_isSo : GoodIn wsX9_item wsX9_isSo := goodIn_r _ [39, 8, 1, 40, 41, 42, 16, 43, 44, 45, 46, 47, 48, 49, 50, 51, 52, 53, 54, 55, 71, 72, 73, 74, 75, 76, 77, 78, 79, 80, 81, 82, 83, 84, 85, 86, 87, 88, 89, 90, 91, 92, 93, 94, 95, 96, 97, 98, 99, 100, 101, 102, 103, 104, 105, 106, 107, 108, 109, 110] (by decide +kernel) (by decide +kernel)
set_option maxRecDepth 20000 in
theorem gX9_item_X9_isSo : GoodIn wsX9_item (wsV RX9 176 RX9 yX9_isSo wsX9_isSo) := goodIn_app (goodIn_of _ (by decide +kernel)) ggX9_item_X9_isSo
set_option maxRecDepth 20000 in
theorem ggX9_item_X9_adds : GoodIn wsX9_item wsX9_adds := goodIn_r _ [59, 60, 1, 61, 11, 12, 62, 63, 9, 10, 71, 72, 73, 74, 75, 76, 77, 78, 79, 80, 81, 82, 83, 84, 85, 86, 87, 88, 89, 90, 91, 92, 93, 94, 95, 96, 97, 98, 99, 100, 101, 102, 103, 104, 105, 106, 107, 108, 109, 110] (by decide +kernel) (by decide +kernel)
set_option maxRecDepth 20000 in
theorem gX9_item_X9_adds : GoodIn wsX9_item (wsV RX9 117 RX9 yX9_adds wsX9_adds) := goodIn_app (goodIn_of _ (by decide +kernel)) ggX9_item_X9_adds
set_option maxRecDepth 20000 in
theorem ggX9_item_X9_asks : GoodIn wsX9_item wsX9_asks := goodIn_r _ [67, 68, 69, 70, 71, 72, 73, 74, 75, 76, 77, 78, 79, 80, 81, 82, 83, 84, 85, 86, 87, 88, 89, 90, 91, 92, 93, 94, 95, 96, 97, 98, 99, 100, 101, 102, 103, 104, 105, 106, 107, 108, 109, 110] (by decide +kernel) (by decide +kernel)
set_option maxRecDepth 20000 in
theorem gX9_item_X9_asks : GoodIn wsX9_item (wsV RX9 140 RX9 yX9_asks wsX9_asks) := goodIn_app (goodIn_of _ (by decide +kernel)) ggX9_item_X9_asks
theorem dX9_item_0 : decode cX9_item 0 = .ok (.aload_n 0, 1) := by decide +kernel
theorem dX9_item_1 : decode cX9_item 1 = .ok (.iconst 0, 1) := by decide +kernel
theorem dX9_item_2 : decode cX9_item 2 = .ok (.invokevirtual 166, 3) := by decide +kernel
theorem dX9_item_5 : decode cX9_item 5 = .ok (.ifCond .eq 21, 3) := by decide +kernel
theorem dX9_item_8 : decode cX9_item 8 = .ok (.aload_n 0, 1) := by decide +kernel
theorem dX9_item_9 : decode cX9_item 9 = .ok (.getfield 91, 3) := by decide +kernel
theorem dX9_item_12 : decode cX9_item 12 = .ok (.bipush 16, 2) := by decide +kernel
theorem dX9_item_14 : decode cX9_item 14 = .ok (.if_icmp .ne 12, 3) := by decide +kernel
theorem dX9_item_17 : decode cX9_item 17 = .ok (.aload_n 0, 1) := by decide +kernel
theorem dX9_item_18 : decode cX9_item 18 = .ok (.aload_n 0, 1) := by decide +kernel
theorem dX9_item_19 : decode cX9_item 19 = .ok (.getfield 147, 3) := by decide +kernel
theorem dX9_item_22 : decode cX9_item 22 = .ok (.invokevirtual 163, 3) := by decide +kernel
theorem dX9_item_25 : decode cX9_item 25 = .ok (.ireturn, 1) := by decide +kernel
theorem dX9_item_26 : decode cX9_item 26 = .ok (.aload_n 0, 1) := by decide +kernel
theorem dX9_item_27 : decode cX9_item 27 = .ok (.invokevirtual 169, 3) := by decide +kernel
theorem dX9_item_30 : decode cX9_item 30 = .ok (.istore_n 1, 1) := by decide +kernel
theorem dX9_item_31 : decode cX9_item 31 = .ok (.iload_n 1, 1) := by decide +kernel
theorem dX9_item_32 : decode cX9_item 32 = .ok (.iconst (-1), 1) := by decide +kernel
theorem dX9_item_33 : decode cX9_item 33 = .ok (.if_icmp .ne 5, 3) := by decide +kernel
theorem dX9_item_36 : decode cX9_item 36 = .ok (.iconst 0, 1) := by decide +kernel
theorem dX9_item_37 : decode cX9_item 37 = .ok (.ireturn, 1) := by decide +kernel
theorem dX9_item_38 : decode cX9_item 38 = .ok (.iconst 0, 1) := by decide +kernel
theorem dX9_item_39 : decode cX9_item 39 = .ok (.istore_n 2, 1) := by decide +kernel
theorem dX9_item_40 : decode cX9_item 40 = .ok (.iload_n 2, 1) := by decide +kernel
theorem dX9_item_41 : decode cX9_item 41 = .ok (.aload_n 0, 1) := by decide +kernel
theorem dX9_item_42 : decode cX9_item 42 = .ok (.getfield 72, 3) := by decide +kernel
theorem dX9_item_45 : decode cX9_item 45 = .ok (.iload_n 1, 1) := by decide +kernel
theorem dX9_item_46 : decode cX9_item 46 = .ok (.iaload, 1) := by decide +kernel
theorem dX9_item_47 : decode cX9_item 47 = .ok (.if_icmp .ge 102, 3) := by decide +kernel
theorem dX9_item_50 : decode cX9_item 50 = .ok (.iload_n 2, 1) := by decide +kernel
theorem dX9_item_51 : decode cX9_item 51 = .ok (.ifCond .le 53, 3) := by decide +kernel
theorem dX9_item_54 : decode cX9_item 54 = .ok (.aload_n 0, 1) := by decide +kernel
theorem dX9_item_55 : decode cX9_item 55 = .ok (.getfield 147, 3) := by decide +kernel
theorem dX9_item_58 : decode cX9_item 58 = .ok (.aload_n 0, 1) := by decide +kernel
theorem dX9_item_59 : decode cX9_item 59 = .ok (.getfield 150, 3) := by decide +kernel
theorem dX9_item_62 : decode cX9_item 62 = .ok (.if_icmp .ge 23, 3) := by decide +kernel
theorem dX9_item_65 : decode cX9_item 65 = .ok (.aload_n 0, 1) := by decide +kernel
theorem dX9_item_66 : decode cX9_item 66 = .ok (.getfield 62, 3) := by decide +kernel
theorem dX9_item_69 : decode cX9_item 69 = .ok (.aload_n 0, 1) := by decide +kernel
theorem dX9_item_70 : decode cX9_item 70 = .ok (.getfield 153, 3) := by decide +kernel
theorem dX9_item_73 : decode cX9_item 73 = .ok (.aload_n 0, 1) := by decide +kernel
theorem dX9_item_74 : decode cX9_item 74 = .ok (.getfield 147, 3) := by decide +kernel
theorem dX9_item_77 : decode cX9_item 77 = .ok (.iadd, 1) := by decide +kernel
theorem dX9_item_78 : decode cX9_item 78 = .ok (.laload, 1) := by decide +kernel
theorem dX9_item_79 : decode cX9_item 79 = .ok (.l2i, 1) := by decide +kernel
theorem dX9_item_80 : decode cX9_item 80 = .ok (.bipush 32, 2) := by decide +kernel
theorem dX9_item_82 : decode cX9_item 82 = .ok (.if_icmp .eq 12, 3) := by decide +kernel
theorem dX9_item_85 : decode cX9_item 85 = .ok (.aload_n 0, 1) := by decide +kernel
theorem dX9_item_86 : decode cX9_item 86 = .ok (.aload_n 0, 1) := by decide +kernel
theorem dX9_item_87 : decode cX9_item 87 = .ok (.getfield 147, 3) := by decide +kernel
theorem dX9_item_90 : decode cX9_item 90 = .ok (.invokevirtual 163, 3) := by decide +kernel
theorem dX9_item_93 : decode cX9_item 93 = .ok (.ireturn, 1) := by decide +kernel
theorem dX9_item_94 : decode cX9_item 94 = .ok (.aload_n 0, 1) := by decide +kernel
theorem dX9_item_95 : decode cX9_item 95 = .ok (.dup, 1) := by decide +kernel
theorem dX9_item_96 : decode cX9_item 96 = .ok (.getfield 147, 3) := by decide +kernel
theorem dX9_item_99 : decode cX9_item 99 = .ok (.iconst 1, 1) := by decide +kernel
theorem dX9_item_100 : decode cX9_item 100 = .ok (.iadd, 1) := by decide +kernel
theorem dX9_item_101 : decode cX9_item 101 = .ok (.putfield 147, 3) := by decide +kernel
theorem dX9_item_104 : decode cX9_item 104 = .ok (.aload_n 0, 1) := by decide +kernel
theorem dX9_item_105 : decode cX9_item 105 = .ok (.getfield 147, 3) := by decide +kernel
theorem dX9_item_108 : decode cX9_item 108 = .ok (.istore_n 3, 1) := by decide +kernel
theorem dX9_item_109 : decode cX9_item 109 = .ok (.aload_n 0, 1) := by decide +kernel
theorem dX9_item_110 : decode cX9_item 110 = .ok (.invokevirtual 173, 3) := by decide +kernel
theorem dX9_item_113 : decode cX9_item 113 = .ok (.ifCond .ne 5, 3) := by decide +kernel
theorem dX9_item_116 : decode cX9_item 116 = .ok (.iconst 0, 1) := by decide +kernel
theorem dX9_item_117 : decode cX9_item 117 = .ok (.ireturn, 1) := by decide +kernel
theorem dX9_item_118 : decode cX9_item 118 = .ok (.aload_n 0, 1) := by decide +kernel
theorem dX9_item_119 : decode cX9_item 119 = .ok (.iload_n 1, 1) := by decide +kernel
theorem dX9_item_120 : decode cX9_item 120 = .ok (.iload_n 2, 1) := by decide +kernel
theorem dX9_item_121 : decode cX9_item 121 = .ok (.invokevirtual 176, 3) := by decide +kernel
theorem dX9_item_124 : decode cX9_item 124 = .ok (.ifCond .ne 9, 3) := by decide +kernel
theorem dX9_item_127 : decode cX9_item 127 = .ok (.aload_n 0, 1) := by decide +kernel
theorem dX9_item_128 : decode cX9_item 128 = .ok (.iload_n 3, 1) := by decide +kernel
theorem dX9_item_129 : decode cX9_item 129 = .ok (.invokevirtual 163, 3) := by decide +kernel
theorem dX9_item_132 : decode cX9_item 132 = .ok (.ireturn, 1) := by decide +kernel
theorem dX9_item_133 : decode cX9_item 133 = .ok (.aload_n 0, 1) := by decide +kernel
theorem dX9_item_134 : decode cX9_item 134 = .ok (.getfield 75, 3) := by decide +kernel
theorem dX9_item_137 : decode cX9_item 137 = .ok (.iload_n 2, 1) := by decide +kernel
theorem dX9_item_138 : decode cX9_item 138 = .ok (.aload_n 0, 1) := by decide +kernel
theorem dX9_item_139 : decode cX9_item 139 = .ok (.getfield 156, 3) := by decide +kernel
theorem dX9_item_142 : decode cX9_item 142 = .ok (.iastore, 1) := by decide +kernel
theorem dX9_item_143 : decode cX9_item 143 = .ok (.iinc 2 1, 3) := by decide +kernel
theorem dX9_item_146 : decode cX9_item 146 = .ok (.goto (-106), 3) := by decide +kernel
theorem dX9_item_149 : decode cX9_item 149 = .ok (.iload_n 1, 1) := by decide +kernel
theorem dX9_item_150 : decode cX9_item 150 = .ok (.tableswitch 163 0 6 #[42, 86, 106, 163, 163, 163, 126], 42) := by decide +kernel
theorem dX9_item_192 : decode cX9_item 192 = .ok (.aload_n 0, 1) := by decide +kernel
theorem dX9_item_193 : decode cX9_item 193 = .ok (.aload_n 0, 1) := by decide +kernel
theorem dX9_item_194 : decode cX9_item 194 = .ok (.getfield 75, 3) := by decide +kernel
theorem dX9_item_197 : decode cX9_item 197 = .ok (.iconst 0, 1) := by decide +kernel
theorem dX9_item_198 : decode cX9_item 198 = .ok (.iaload, 1) := by decide +kernel
theorem dX9_item_199 : decode cX9_item 199 = .ok (.aload_n 0, 1) := by decide +kernel
theorem dX9_item_200 : decode cX9_item 200 = .ok (.getfield 75, 3) := by decide +kernel
theorem dX9_item_203 : decode cX9_item 203 = .ok (.iconst 1, 1) := by decide +kernel
theorem dX9_item_204 : decode cX9_item 204 = .ok (.iaload, 1) := by decide +kernel
theorem dX9_item_205 : decode cX9_item 205 = .ok (.aload_n 0, 1) := by decide +kernel
theorem dX9_item_206 : decode cX9_item 206 = .ok (.getfield 75, 3) := by decide +kernel
theorem dX9_item_209 : decode cX9_item 209 = .ok (.iconst 2, 1) := by decide +kernel
theorem dX9_item_210 : decode cX9_item 210 = .ok (.iaload, 1) := by decide +kernel
theorem dX9_item_211 : decode cX9_item 211 = .ok (.aload_n 0, 1) := by decide +kernel
theorem dX9_item_212 : decode cX9_item 212 = .ok (.getfield 75, 3) := by decide +kernel
theorem dX9_item_215 : decode cX9_item 215 = .ok (.iconst 3, 1) := by decide +kernel
theorem dX9_item_216 : decode cX9_item 216 = .ok (.iaload, 1) := by decide +kernel
theorem dX9_item_217 : decode cX9_item 217 = .ok (.aload_n 0, 1) := by decide +kernel
theorem dX9_item_218 : decode cX9_item 218 = .ok (.getfield 75, 3) := by decide +kernel
theorem dX9_item_221 : decode cX9_item 221 = .ok (.iconst 4, 1) := by decide +kernel
theorem dX9_item_222 : decode cX9_item 222 = .ok (.iaload, 1) := by decide +kernel
theorem dX9_item_223 : decode cX9_item 223 = .ok (.aload_n 0, 1) := by decide +kernel
theorem dX9_item_224 : decode cX9_item 224 = .ok (.getfield 75, 3) := by decide +kernel
theorem dX9_item_227 : decode cX9_item 227 = .ok (.iconst 5, 1) := by decide +kernel
theorem dX9_item_228 : decode cX9_item 228 = .ok (.iaload, 1) := by decide +kernel
theorem dX9_item_229 : decode cX9_item 229 = .ok (.invokevirtual 117, 3) := by decide +kernel
theorem dX9_item_232 : decode cX9_item 232 = .ok (.pop, 1) := by decide +kernel
theorem dX9_item_233 : decode cX9_item 233 = .ok (.goto 94, 3) := by decide +kernel
theorem dX9_item_236 : decode cX9_item 236 = .ok (.aload_n 0, 1) := by decide +kernel
theorem dX9_item_237 : decode cX9_item 237 = .ok (.getfield 44, 3) := by decide +kernel
theorem dX9_item_240 : decode cX9_item 240 = .ok (.aload_n 0, 1) := by decide +kernel
theorem dX9_item_241 : decode cX9_item 241 = .ok (.getfield 75, 3) := by decide +kernel
theorem dX9_item_244 : decode cX9_item 244 = .ok (.iconst 0, 1) := by decide +kernel
theorem dX9_item_245 : decode cX9_item 245 = .ok (.iaload, 1) := by decide +kernel
theorem dX9_item_246 : decode cX9_item 246 = .ok (.aload_n 0, 1) := by decide +kernel
theorem dX9_item_247 : decode cX9_item 247 = .ok (.getfield 75, 3) := by decide +kernel
theorem dX9_item_250 : decode cX9_item 250 = .ok (.iconst 1, 1) := by decide +kernel
theorem dX9_item_251 : decode cX9_item 251 = .ok (.iaload, 1) := by decide +kernel
theorem dX9_item_252 : decode cX9_item 252 = .ok (.iastore, 1) := by decide +kernel
theorem dX9_item_253 : decode cX9_item 253 = .ok (.goto 74, 3) := by decide +kernel
theorem dX9_item_256 : decode cX9_item 256 = .ok (.aload_n 0, 1) := by decide +kernel
theorem dX9_item_257 : decode cX9_item 257 = .ok (.getfield 47, 3) := by decide +kernel
theorem dX9_item_260 : decode cX9_item 260 = .ok (.aload_n 0, 1) := by decide +kernel
theorem dX9_item_261 : decode cX9_item 261 = .ok (.getfield 75, 3) := by decide +kernel
theorem dX9_item_264 : decode cX9_item 264 = .ok (.iconst 0, 1) := by decide +kernel
theorem dX9_item_265 : decode cX9_item 265 = .ok (.iaload, 1) := by decide +kernel
theorem dX9_item_266 : decode cX9_item 266 = .ok (.aload_n 0, 1) := by decide +kernel
theorem dX9_item_267 : decode cX9_item 267 = .ok (.getfield 75, 3) := by decide +kernel
theorem dX9_item_270 : decode cX9_item 270 = .ok (.iconst 1, 1) := by decide +kernel
theorem dX9_item_271 : decode cX9_item 271 = .ok (.iaload, 1) := by decide +kernel
theorem dX9_item_272 : decode cX9_item 272 = .ok (.iastore, 1) := by decide +kernel
theorem dX9_item_273 : decode cX9_item 273 = .ok (.goto 54, 3) := by decide +kernel
theorem dX9_item_276 : decode cX9_item 276 = .ok (.aload_n 0, 1) := by decide +kernel
theorem dX9_item_277 : decode cX9_item 277 = .ok (.getfield 32, 3) := by decide +kernel
theorem dX9_item_280 : decode cX9_item 280 = .ok (.aload_n 0, 1) := by decide +kernel
theorem dX9_item_281 : decode cX9_item 281 = .ok (.getfield 75, 3) := by decide +kernel
theorem dX9_item_284 : decode cX9_item 284 = .ok (.iconst 0, 1) := by decide +kernel
theorem dX9_item_285 : decode cX9_item 285 = .ok (.iaload, 1) := by decide +kernel
theorem dX9_item_286 : decode cX9_item 286 = .ok (.aload_n 0, 1) := by decide +kernel
theorem dX9_item_287 : decode cX9_item 287 = .ok (.getfield 75, 3) := by decide +kernel
theorem dX9_item_290 : decode cX9_item 290 = .ok (.iconst 1, 1) := by decide +kernel
theorem dX9_item_291 : decode cX9_item 291 = .ok (.iaload, 1) := by decide +kernel
theorem dX9_item_292 : decode cX9_item 292 = .ok (.iastore, 1) := by decide +kernel
theorem dX9_item_293 : decode cX9_item 293 = .ok (.aload_n 0, 1) := by decide +kernel
theorem dX9_item_294 : decode cX9_item 294 = .ok (.getfield 35, 3) := by decide +kernel
theorem dX9_item_297 : decode cX9_item 297 = .ok (.aload_n 0, 1) := by decide +kernel
theorem dX9_item_298 : decode cX9_item 298 = .ok (.getfield 75, 3) := by decide +kernel
theorem dX9_item_301 : decode cX9_item 301 = .ok (.iconst 0, 1) := by decide +kernel
theorem dX9_item_302 : decode cX9_item 302 = .ok (.iaload, 1) := by decide +kernel
theorem dX9_item_303 : decode cX9_item 303 = .ok (.aload_n 0, 1) := by decide +kernel
theorem dX9_item_304 : decode cX9_item 304 = .ok (.getfield 75, 3) := by decide +kernel
theorem dX9_item_307 : decode cX9_item 307 = .ok (.iconst 2, 1) := by decide +kernel
theorem dX9_item_308 : decode cX9_item 308 = .ok (.iaload, 1) := by decide +kernel
theorem dX9_item_309 : decode cX9_item 309 = .ok (.iastore, 1) := by decide +kernel
theorem dX9_item_310 : decode cX9_item 310 = .ok (.goto 17, 3) := by decide +kernel
theorem dX9_item_313 : decode cX9_item 313 = .ok (.aload_n 0, 1) := by decide +kernel
theorem dX9_item_314 : decode cX9_item 314 = .ok (.iload_n 1, 1) := by decide +kernel
theorem dX9_item_315 : decode cX9_item 315 = .ok (.iconst 3, 1) := by decide +kernel
theorem dX9_item_316 : decode cX9_item 316 = .ok (.isub, 1) := by decide +kernel
theorem dX9_item_317 : decode cX9_item 317 = .ok (.aload_n 0, 1) := by decide +kernel
theorem dX9_item_318 : decode cX9_item 318 = .ok (.getfield 75, 3) := by decide +kernel
theorem dX9_item_321 : decode cX9_item 321 = .ok (.iconst 0, 1) := by decide +kernel
theorem dX9_item_322 : decode cX9_item 322 = .ok (.iaload, 1) := by decide +kernel
theorem dX9_item_323 : decode cX9_item 323 = .ok (.invokevirtual 140, 3) := by decide +kernel
theorem dX9_item_326 : decode cX9_item 326 = .ok (.pop, 1) := by decide +kernel
theorem dX9_item_327 : decode cX9_item 327 = .ok (.iconst 1, 1) := by decide +kernel
theorem dX9_item_328 : decode cX9_item 328 = .ok (.ireturn, 1) := by decide +kernel
theorem dX9_carries_0 : decode cX9_carries 0 = .ok (.iconst 0, 1) := by decide +kernel
theorem dX9_carries_1 : decode cX9_carries 1 = .ok (.istore 5, 2) := by decide +kernel
theorem dX9_carries_3 : decode cX9_carries 3 = .ok (.iload 5, 2) := by decide +kernel
theorem dX9_carries_5 : decode cX9_carries 5 = .ok (.bipush 16, 2) := by decide +kernel
theorem dX9_carries_7 : decode cX9_carries 7 = .ok (.if_icmp .ge 37, 3) := by decide +kernel
theorem dX9_carries_10 : decode cX9_carries 10 = .ok (.iload 4, 2) := by decide +kernel
theorem dX9_carries_12 : decode cX9_carries 12 = .ok (.ifCond .eq 16, 3) := by decide +kernel
theorem dX9_carries_15 : decode cX9_carries 15 = .ok (.aload_n 1, 1) := by decide +kernel
theorem dX9_carries_16 : decode cX9_carries 16 = .ok (.iload 5, 2) := by decide +kernel
theorem dX9_carries_18 : decode cX9_carries 18 = .ok (.aload_n 2, 1) := by decide +kernel
theorem dX9_carries_19 : decode cX9_carries 19 = .ok (.iload_n 3, 1) := by decide +kernel
theorem dX9_carries_20 : decode cX9_carries 20 = .ok (.iload 5, 2) := by decide +kernel
theorem dX9_carries_22 : decode cX9_carries 22 = .ok (.iadd, 1) := by decide +kernel
theorem dX9_carries_23 : decode cX9_carries 23 = .ok (.iaload, 1) := by decide +kernel
theorem dX9_carries_24 : decode cX9_carries 24 = .ok (.iastore, 1) := by decide +kernel
theorem dX9_carries_25 : decode cX9_carries 25 = .ok (.goto 13, 3) := by decide +kernel
theorem dX9_carries_28 : decode cX9_carries 28 = .ok (.aload_n 2, 1) := by decide +kernel
theorem dX9_carries_29 : decode cX9_carries 29 = .ok (.iload_n 3, 1) := by decide +kernel
theorem dX9_carries_30 : decode cX9_carries 30 = .ok (.iload 5, 2) := by decide +kernel
theorem dX9_carries_32 : decode cX9_carries 32 = .ok (.iadd, 1) := by decide +kernel
theorem dX9_carries_33 : decode cX9_carries 33 = .ok (.aload_n 1, 1) := by decide +kernel
theorem dX9_carries_34 : decode cX9_carries 34 = .ok (.iload 5, 2) := by decide +kernel
theorem dX9_carries_36 : decode cX9_carries 36 = .ok (.iaload, 1) := by decide +kernel
theorem dX9_carries_37 : decode cX9_carries 37 = .ok (.iastore, 1) := by decide +kernel
theorem dX9_carries_38 : decode cX9_carries 38 = .ok (.iinc 5 1, 3) := by decide +kernel
theorem dX9_carries_41 : decode cX9_carries 41 = .ok (.goto (-38), 3) := by decide +kernel
theorem dX9_carries_44 : decode cX9_carries 44 = .ok (.iload_n 3, 1) := by decide +kernel
theorem dX9_carries_45 : decode cX9_carries 45 = .ok (.bipush 16, 2) := by decide +kernel
theorem dX9_carries_47 : decode cX9_carries 47 = .ok (.iadd, 1) := by decide +kernel
theorem dX9_carries_48 : decode cX9_carries 48 = .ok (.ireturn, 1) := by decide +kernel
set_option maxRecDepth 20000 in
theorem ggX9_all_X9_carries : GoodIn wsX9_all wsX9_carries := goodIn_r _ [18] (by decide +kernel) (by decide +kernel)
set_option maxRecDepth 20000 in
theorem gX9_all_X9_carries : GoodIn wsX9_all (wsV RX9 179 RX9 yX9_carries wsX9_carries) := goodIn_app (goodIn_of _ (by decide +kernel)) ggX9_all_X9_carries
theorem dX9_all_0 : decode cX9_all 0 = .ok (.aload_n 0, 1) := by decide +kernel
theorem dX9_all_1 : decode cX9_all 1 = .ok (.aload_n 0, 1) := by decide +kernel
theorem dX9_all_2 : decode cX9_all 2 = .ok (.getfield 26, 3) := by decide +kernel
theorem dX9_all_5 : decode cX9_all 5 = .ok (.aload_n 1, 1) := by decide +kernel
theorem dX9_all_6 : decode cX9_all 6 = .ok (.iconst 0, 1) := by decide +kernel
theorem dX9_all_7 : decode cX9_all 7 = .ok (.iload_n 2, 1) := by decide +kernel
theorem dX9_all_8 : decode cX9_all 8 = .ok (.invokevirtual 179, 3) := by decide +kernel
theorem dX9_all_11 : decode cX9_all 11 = .ok (.istore_n 3, 1) := by decide +kernel
theorem dX9_all_12 : decode cX9_all 12 = .ok (.aload_n 0, 1) := by decide +kernel
theorem dX9_all_13 : decode cX9_all 13 = .ok (.aload_n 0, 1) := by decide +kernel
theorem dX9_all_14 : decode cX9_all 14 = .ok (.getfield 29, 3) := by decide +kernel
theorem dX9_all_17 : decode cX9_all 17 = .ok (.aload_n 1, 1) := by decide +kernel
theorem dX9_all_18 : decode cX9_all 18 = .ok (.iload_n 3, 1) := by decide +kernel
theorem dX9_all_19 : decode cX9_all 19 = .ok (.iload_n 2, 1) := by decide +kernel
theorem dX9_all_20 : decode cX9_all 20 = .ok (.invokevirtual 179, 3) := by decide +kernel
theorem dX9_all_23 : decode cX9_all 23 = .ok (.istore_n 3, 1) := by decide +kernel
theorem dX9_all_24 : decode cX9_all 24 = .ok (.aload_n 0, 1) := by decide +kernel
theorem dX9_all_25 : decode cX9_all 25 = .ok (.aload_n 0, 1) := by decide +kernel
theorem dX9_all_26 : decode cX9_all 26 = .ok (.getfield 32, 3) := by decide +kernel
theorem dX9_all_29 : decode cX9_all 29 = .ok (.aload_n 1, 1) := by decide +kernel
theorem dX9_all_30 : decode cX9_all 30 = .ok (.iload_n 3, 1) := by decide +kernel
theorem dX9_all_31 : decode cX9_all 31 = .ok (.iload_n 2, 1) := by decide +kernel
theorem dX9_all_32 : decode cX9_all 32 = .ok (.invokevirtual 179, 3) := by decide +kernel
theorem dX9_all_35 : decode cX9_all 35 = .ok (.istore_n 3, 1) := by decide +kernel
theorem dX9_all_36 : decode cX9_all 36 = .ok (.aload_n 0, 1) := by decide +kernel
theorem dX9_all_37 : decode cX9_all 37 = .ok (.aload_n 0, 1) := by decide +kernel
theorem dX9_all_38 : decode cX9_all 38 = .ok (.getfield 35, 3) := by decide +kernel
theorem dX9_all_41 : decode cX9_all 41 = .ok (.aload_n 1, 1) := by decide +kernel
theorem dX9_all_42 : decode cX9_all 42 = .ok (.iload_n 3, 1) := by decide +kernel
theorem dX9_all_43 : decode cX9_all 43 = .ok (.iload_n 2, 1) := by decide +kernel
theorem dX9_all_44 : decode cX9_all 44 = .ok (.invokevirtual 179, 3) := by decide +kernel
theorem dX9_all_47 : decode cX9_all 47 = .ok (.istore_n 3, 1) := by decide +kernel
theorem dX9_all_48 : decode cX9_all 48 = .ok (.aload_n 0, 1) := by decide +kernel
theorem dX9_all_49 : decode cX9_all 49 = .ok (.aload_n 0, 1) := by decide +kernel
theorem dX9_all_50 : decode cX9_all 50 = .ok (.getfield 38, 3) := by decide +kernel
theorem dX9_all_53 : decode cX9_all 53 = .ok (.aload_n 1, 1) := by decide +kernel
theorem dX9_all_54 : decode cX9_all 54 = .ok (.iload_n 3, 1) := by decide +kernel
theorem dX9_all_55 : decode cX9_all 55 = .ok (.iload_n 2, 1) := by decide +kernel
theorem dX9_all_56 : decode cX9_all 56 = .ok (.invokevirtual 179, 3) := by decide +kernel
theorem dX9_all_59 : decode cX9_all 59 = .ok (.istore_n 3, 1) := by decide +kernel
theorem dX9_all_60 : decode cX9_all 60 = .ok (.aload_n 0, 1) := by decide +kernel
theorem dX9_all_61 : decode cX9_all 61 = .ok (.aload_n 0, 1) := by decide +kernel
theorem dX9_all_62 : decode cX9_all 62 = .ok (.getfield 41, 3) := by decide +kernel
theorem dX9_all_65 : decode cX9_all 65 = .ok (.aload_n 1, 1) := by decide +kernel
theorem dX9_all_66 : decode cX9_all 66 = .ok (.iload_n 3, 1) := by decide +kernel
theorem dX9_all_67 : decode cX9_all 67 = .ok (.iload_n 2, 1) := by decide +kernel
theorem dX9_all_68 : decode cX9_all 68 = .ok (.invokevirtual 179, 3) := by decide +kernel
theorem dX9_all_71 : decode cX9_all 71 = .ok (.istore_n 3, 1) := by decide +kernel
theorem dX9_all_72 : decode cX9_all 72 = .ok (.aload_n 0, 1) := by decide +kernel
theorem dX9_all_73 : decode cX9_all 73 = .ok (.aload_n 0, 1) := by decide +kernel
theorem dX9_all_74 : decode cX9_all 74 = .ok (.getfield 44, 3) := by decide +kernel
theorem dX9_all_77 : decode cX9_all 77 = .ok (.aload_n 1, 1) := by decide +kernel
theorem dX9_all_78 : decode cX9_all 78 = .ok (.iload_n 3, 1) := by decide +kernel
theorem dX9_all_79 : decode cX9_all 79 = .ok (.iload_n 2, 1) := by decide +kernel
theorem dX9_all_80 : decode cX9_all 80 = .ok (.invokevirtual 179, 3) := by decide +kernel
theorem dX9_all_83 : decode cX9_all 83 = .ok (.istore_n 3, 1) := by decide +kernel
theorem dX9_all_84 : decode cX9_all 84 = .ok (.aload_n 0, 1) := by decide +kernel
theorem dX9_all_85 : decode cX9_all 85 = .ok (.aload_n 0, 1) := by decide +kernel
theorem dX9_all_86 : decode cX9_all 86 = .ok (.getfield 47, 3) := by decide +kernel
theorem dX9_all_89 : decode cX9_all 89 = .ok (.aload_n 1, 1) := by decide +kernel
theorem dX9_all_90 : decode cX9_all 90 = .ok (.iload_n 3, 1) := by decide +kernel
theorem dX9_all_91 : decode cX9_all 91 = .ok (.iload_n 2, 1) := by decide +kernel
theorem dX9_all_92 : decode cX9_all 92 = .ok (.invokevirtual 179, 3) := by decide +kernel
theorem dX9_all_95 : decode cX9_all 95 = .ok (.istore_n 3, 1) := by decide +kernel
theorem dX9_all_96 : decode cX9_all 96 = .ok (.iload_n 2, 1) := by decide +kernel
theorem dX9_all_97 : decode cX9_all 97 = .ok (.ifCond .eq 49, 3) := by decide +kernel
theorem dX9_all_100 : decode cX9_all 100 = .ok (.aload_n 0, 1) := by decide +kernel
theorem dX9_all_101 : decode cX9_all 101 = .ok (.aload_n 1, 1) := by decide +kernel
theorem dX9_all_102 : decode cX9_all 102 = .ok (.iload_n 3, 1) := by decide +kernel
theorem dX9_all_103 : decode cX9_all 103 = .ok (.iaload, 1) := by decide +kernel
theorem dX9_all_104 : decode cX9_all 104 = .ok (.putfield 91, 3) := by decide +kernel
theorem dX9_all_107 : decode cX9_all 107 = .ok (.aload_n 0, 1) := by decide +kernel
theorem dX9_all_108 : decode cX9_all 108 = .ok (.aload_n 1, 1) := by decide +kernel
theorem dX9_all_109 : decode cX9_all 109 = .ok (.iload_n 3, 1) := by decide +kernel
theorem dX9_all_110 : decode cX9_all 110 = .ok (.iconst 1, 1) := by decide +kernel
theorem dX9_all_111 : decode cX9_all 111 = .ok (.iadd, 1) := by decide +kernel
theorem dX9_all_112 : decode cX9_all 112 = .ok (.iaload, 1) := by decide +kernel
theorem dX9_all_113 : decode cX9_all 113 = .ok (.putfield 134, 3) := by decide +kernel
theorem dX9_all_116 : decode cX9_all 116 = .ok (.aload_n 0, 1) := by decide +kernel
theorem dX9_all_117 : decode cX9_all 117 = .ok (.aload_n 1, 1) := by decide +kernel
theorem dX9_all_118 : decode cX9_all 118 = .ok (.iload_n 3, 1) := by decide +kernel
theorem dX9_all_119 : decode cX9_all 119 = .ok (.iconst 2, 1) := by decide +kernel
theorem dX9_all_120 : decode cX9_all 120 = .ok (.iadd, 1) := by decide +kernel
theorem dX9_all_121 : decode cX9_all 121 = .ok (.iaload, 1) := by decide +kernel
theorem dX9_all_122 : decode cX9_all 122 = .ok (.putfield 7, 3) := by decide +kernel
theorem dX9_all_125 : decode cX9_all 125 = .ok (.aload_n 0, 1) := by decide +kernel
theorem dX9_all_126 : decode cX9_all 126 = .ok (.aload_n 1, 1) := by decide +kernel
theorem dX9_all_127 : decode cX9_all 127 = .ok (.iload_n 3, 1) := by decide +kernel
theorem dX9_all_128 : decode cX9_all 128 = .ok (.iconst 3, 1) := by decide +kernel
theorem dX9_all_129 : decode cX9_all 129 = .ok (.iadd, 1) := by decide +kernel
theorem dX9_all_130 : decode cX9_all 130 = .ok (.iaload, 1) := by decide +kernel
theorem dX9_all_131 : decode cX9_all 131 = .ok (.putfield 13, 3) := by decide +kernel
theorem dX9_all_134 : decode cX9_all 134 = .ok (.aload_n 0, 1) := by decide +kernel
theorem dX9_all_135 : decode cX9_all 135 = .ok (.aload_n 1, 1) := by decide +kernel
theorem dX9_all_136 : decode cX9_all 136 = .ok (.iload_n 3, 1) := by decide +kernel
theorem dX9_all_137 : decode cX9_all 137 = .ok (.iconst 4, 1) := by decide +kernel
theorem dX9_all_138 : decode cX9_all 138 = .ok (.iadd, 1) := by decide +kernel
theorem dX9_all_139 : decode cX9_all 139 = .ok (.iaload, 1) := by decide +kernel
theorem dX9_all_140 : decode cX9_all 140 = .ok (.putfield 16, 3) := by decide +kernel
theorem dX9_all_143 : decode cX9_all 143 = .ok (.goto 46, 3) := by decide +kernel
theorem dX9_all_146 : decode cX9_all 146 = .ok (.aload_n 1, 1) := by decide +kernel
theorem dX9_all_147 : decode cX9_all 147 = .ok (.iload_n 3, 1) := by decide +kernel
theorem dX9_all_148 : decode cX9_all 148 = .ok (.aload_n 0, 1) := by decide +kernel
theorem dX9_all_149 : decode cX9_all 149 = .ok (.getfield 91, 3) := by decide +kernel
theorem dX9_all_152 : decode cX9_all 152 = .ok (.iastore, 1) := by decide +kernel
theorem dX9_all_153 : decode cX9_all 153 = .ok (.aload_n 1, 1) := by decide +kernel
theorem dX9_all_154 : decode cX9_all 154 = .ok (.iload_n 3, 1) := by decide +kernel
theorem dX9_all_155 : decode cX9_all 155 = .ok (.iconst 1, 1) := by decide +kernel
theorem dX9_all_156 : decode cX9_all 156 = .ok (.iadd, 1) := by decide +kernel
theorem dX9_all_157 : decode cX9_all 157 = .ok (.aload_n 0, 1) := by decide +kernel
theorem dX9_all_158 : decode cX9_all 158 = .ok (.getfield 134, 3) := by decide +kernel
theorem dX9_all_161 : decode cX9_all 161 = .ok (.iastore, 1) := by decide +kernel
theorem dX9_all_162 : decode cX9_all 162 = .ok (.aload_n 1, 1) := by decide +kernel
theorem dX9_all_163 : decode cX9_all 163 = .ok (.iload_n 3, 1) := by decide +kernel
theorem dX9_all_164 : decode cX9_all 164 = .ok (.iconst 2, 1) := by decide +kernel
theorem dX9_all_165 : decode cX9_all 165 = .ok (.iadd, 1) := by decide +kernel
theorem dX9_all_166 : decode cX9_all 166 = .ok (.aload_n 0, 1) := by decide +kernel
theorem dX9_all_167 : decode cX9_all 167 = .ok (.getfield 7, 3) := by decide +kernel
theorem dX9_all_170 : decode cX9_all 170 = .ok (.iastore, 1) := by decide +kernel
theorem dX9_all_171 : decode cX9_all 171 = .ok (.aload_n 1, 1) := by decide +kernel
theorem dX9_all_172 : decode cX9_all 172 = .ok (.iload_n 3, 1) := by decide +kernel
theorem dX9_all_173 : decode cX9_all 173 = .ok (.iconst 3, 1) := by decide +kernel
theorem dX9_all_174 : decode cX9_all 174 = .ok (.iadd, 1) := by decide +kernel
theorem dX9_all_175 : decode cX9_all 175 = .ok (.aload_n 0, 1) := by decide +kernel
theorem dX9_all_176 : decode cX9_all 176 = .ok (.getfield 13, 3) := by decide +kernel
theorem dX9_all_179 : decode cX9_all 179 = .ok (.iastore, 1) := by decide +kernel
theorem dX9_all_180 : decode cX9_all 180 = .ok (.aload_n 1, 1) := by decide +kernel
theorem dX9_all_181 : decode cX9_all 181 = .ok (.iload_n 3, 1) := by decide +kernel
theorem dX9_all_182 : decode cX9_all 182 = .ok (.iconst 4, 1) := by decide +kernel
theorem dX9_all_183 : decode cX9_all 183 = .ok (.iadd, 1) := by decide +kernel
theorem dX9_all_184 : decode cX9_all 184 = .ok (.aload_n 0, 1) := by decide +kernel
theorem dX9_all_185 : decode cX9_all 185 = .ok (.getfield 16, 3) := by decide +kernel
theorem dX9_all_188 : decode cX9_all 188 = .ok (.iastore, 1) := by decide +kernel
theorem dX9_all_189 : decode cX9_all 189 = .ok (.return_, 1) := by decide +kernel
set_option maxRecDepth 20000 in
theorem ggX9_loop_X9_wanted : GoodIn wsX9_loop wsX9_wanted := goodIn_r _ [13, 14, 15, 16, 17, 12, 18, 101, 102, 103, 104, 105, 106, 107, 108, 109, 110, 111, 112, 113, 114, 115, 116, 117, 118, 119, 120, 121, 122, 123, 124, 125, 126, 127, 128, 129, 130, 131, 132, 133, 134, 135, 136, 137, 138, 139, 140] (by decide +kernel) (by decide +kernel)
set_option maxRecDepth 20000 in
theorem gX9_loop_X9_wanted : GoodIn wsX9_loop (wsV RX9 183 RX9 yX9_wanted wsX9_wanted) := goodIn_app (goodIn_of _ (by decide +kernel)) ggX9_loop_X9_wanted
set_option maxRecDepth 20000 in
theorem ggX9_loop_X9_no : GoodIn wsX9_loop wsX9_no := goodIn_r _ [22, 23, 101, 102, 103, 104, 105, 106, 107, 108, 109, 110, 111, 112, 113, 114, 115, 116, 117, 118, 119, 120, 121, 122, 123, 124, 125, 126, 127, 128, 129, 130, 131, 132, 133, 134, 135, 136, 137, 138, 139, 140] (by decide +kernel) (by decide +kernel)
set_option maxRecDepth 20000 in
theorem gX9_loop_X9_no : GoodIn wsX9_loop (wsV RX9 98 RX9 yX9_no wsX9_no) := goodIn_app (goodIn_of _ (by decide +kernel)) ggX9_loop_X9_no
set_option maxRecDepth 20000 in
theorem ggX9_loop_X9_all : GoodIn wsX9_loop wsX9_all := goodIn_r _ [27, 28, 29, 30, 31, 32, 33, 34, 35, 36, 37, 38, 39, 40, 41, 42, 43, 12, 44, 101, 102, 103, 104, 105, 106, 107, 108, 109, 110, 111, 112, 113, 114, 115, 116, 117, 118, 119, 120, 121, 122, 123, 124, 125, 126, 127, 128, 129, 130, 131, 132, 133, 134, 135, 136, 137, 138, 139, 140] (by decide +kernel) (by decide +kernel)
set_option maxRecDepth 20000 in
theorem gX9_loop_X9_all : GoodIn wsX9_loop (wsV RX9 186 RX9 yX9_all wsX9_all) := goodIn_app (goodIn_of _ (by decide +kernel)) ggX9_loop_X9_all
set_option maxRecDepth 20000 in
theorem ggX9_loop_X9_item : GoodIn wsX9_loop wsX9_item := goodIn_r _ [48, 36, 3, 49, 5, 7, 2, 50, 51, 34, 35, 30, 31, 52, 53, 54, 12, 55, 56, 57, 58, 59, 60, 8, 61, 62, 63, 64, 65, 66, 67, 68, 69, 70, 71, 72, 73, 74, 75, 76, 77, 78, 79, 80, 81, 82, 83, 84, 85, 86, 87, 88, 89, 90, 91, 92, 93, 94, 95, 96, 28, 29, 32, 33, 97, 98, 99, 100, 37, 38, 39, 101, 102, 103, 104, 105, 106, 107, 108, 109, 110, 111, 112, 113, 114, 115, 116, 117, 118, 119, 120, 121, 122, 123, 124, 125, 126, 127, 128, 129, 130, 131, 132, 133, 134, 135, 136, 137, 138, 139, 140] (by decide +kernel) (by decide +kernel)
set_option maxRecDepth 20000 in
theorem gX9_loop_X9_item : GoodIn wsX9_loop (wsV RX9 190 RX9 yX9_item wsX9_item) := goodIn_app (goodIn_of _ (by decide +kernel)) ggX9_loop_X9_item
set_option maxRecDepth 20000 in
theorem ggX9_loop_X9_wrong : GoodIn wsX9_loop wsX9_wrong := goodIn_r _ [60, 8, 101, 102, 103, 104, 105, 106, 107, 108, 109, 110, 111, 112, 113, 114, 115, 116, 117, 118, 119, 120, 121, 122, 123, 124, 125, 126, 127, 128, 129, 130, 131, 132, 133, 134, 135, 136, 137, 138, 139, 140] (by decide +kernel) (by decide +kernel)
set_option maxRecDepth 20000 in
theorem gX9_loop_X9_wrong : GoodIn wsX9_loop (wsV RX9 163 RX9 yX9_wrong wsX9_wrong) := goodIn_app (goodIn_of _ (by decide +kernel)) ggX9_loop_X9_wrong
theorem dX9_loop_0 : decode cX9_loop 0 = .ok (.aload_n 0, 1) := by decide +kernel
theorem dX9_loop_1 : decode cX9_loop 1 = .ok (.iload_n 1, 1) := by decide +kernel
theorem dX9_loop_2 : decode cX9_loop 2 = .ok (.invokevirtual 183, 3) := by decide +kernel
theorem dX9_loop_5 : decode cX9_loop 5 = .ok (.istore_n 2, 1) := by decide +kernel
theorem dX9_loop_6 : decode cX9_loop 6 = .ok (.iload_n 2, 1) := by decide +kernel
theorem dX9_loop_7 : decode cX9_loop 7 = .ok (.ifCond .eq 9, 3) := by decide +kernel
theorem dX9_loop_10 : decode cX9_loop 10 = .ok (.aload_n 0, 1) := by decide +kernel
theorem dX9_loop_11 : decode cX9_loop 11 = .ok (.iload_n 2, 1) := by decide +kernel
theorem dX9_loop_12 : decode cX9_loop 12 = .ok (.invokevirtual 98, 3) := by decide +kernel
theorem dX9_loop_15 : decode cX9_loop 15 = .ok (.ireturn, 1) := by decide +kernel
theorem dX9_loop_16 : decode cX9_loop 16 = .ok (.aload_n 0, 1) := by decide +kernel
theorem dX9_loop_17 : decode cX9_loop 17 = .ok (.aload_n 0, 1) := by decide +kernel
theorem dX9_loop_18 : decode cX9_loop 18 = .ok (.getfield 78, 3) := by decide +kernel
theorem dX9_loop_21 : decode cX9_loop 21 = .ok (.iconst 0, 1) := by decide +kernel
theorem dX9_loop_22 : decode cX9_loop 22 = .ok (.invokevirtual 186, 3) := by decide +kernel
theorem dX9_loop_25 : decode cX9_loop 25 = .ok (.aload_n 0, 1) := by decide +kernel
theorem dX9_loop_26 : decode cX9_loop 26 = .ok (.sipush 160, 3) := by decide +kernel
theorem dX9_loop_29 : decode cX9_loop 29 = .ok (.iload_n 1, 1) := by decide +kernel
theorem dX9_loop_30 : decode cX9_loop 30 = .ok (.imul, 1) := by decide +kernel
theorem dX9_loop_31 : decode cX9_loop 31 = .ok (.putfield 153, 3) := by decide +kernel
theorem dX9_loop_34 : decode cX9_loop 34 = .ok (.aload_n 0, 1) := by decide +kernel
theorem dX9_loop_35 : decode cX9_loop 35 = .ok (.iconst 0, 1) := by decide +kernel
theorem dX9_loop_36 : decode cX9_loop 36 = .ok (.putfield 147, 3) := by decide +kernel
theorem dX9_loop_39 : decode cX9_loop 39 = .ok (.aload_n 0, 1) := by decide +kernel
theorem dX9_loop_40 : decode cX9_loop 40 = .ok (.aload_n 0, 1) := by decide +kernel
theorem dX9_loop_41 : decode cX9_loop 41 = .ok (.getfield 56, 3) := by decide +kernel
theorem dX9_loop_44 : decode cX9_loop 44 = .ok (.iload_n 1, 1) := by decide +kernel
theorem dX9_loop_45 : decode cX9_loop 45 = .ok (.iaload, 1) := by decide +kernel
theorem dX9_loop_46 : decode cX9_loop 46 = .ok (.putfield 150, 3) := by decide +kernel
theorem dX9_loop_49 : decode cX9_loop 49 = .ok (.aload_n 0, 1) := by decide +kernel
theorem dX9_loop_50 : decode cX9_loop 50 = .ok (.iconst (-1), 1) := by decide +kernel
theorem dX9_loop_51 : decode cX9_loop 51 = .ok (.putfield 19, 3) := by decide +kernel
theorem dX9_loop_54 : decode cX9_loop 54 = .ok (.iconst 1, 1) := by decide +kernel
theorem dX9_loop_55 : decode cX9_loop 55 = .ok (.istore_n 3, 1) := by decide +kernel
theorem dX9_loop_56 : decode cX9_loop 56 = .ok (.aload_n 0, 1) := by decide +kernel
theorem dX9_loop_57 : decode cX9_loop 57 = .ok (.invokevirtual 190, 3) := by decide +kernel
theorem dX9_loop_60 : decode cX9_loop 60 = .ok (.istore 4, 2) := by decide +kernel
theorem dX9_loop_62 : decode cX9_loop 62 = .ok (.iload 4, 2) := by decide +kernel
theorem dX9_loop_64 : decode cX9_loop 64 = .ok (.ifCond .eq 69, 3) := by decide +kernel
theorem dX9_loop_67 : decode cX9_loop 67 = .ok (.aload_n 0, 1) := by decide +kernel
theorem dX9_loop_68 : decode cX9_loop 68 = .ok (.getfield 147, 3) := by decide +kernel
theorem dX9_loop_71 : decode cX9_loop 71 = .ok (.aload_n 0, 1) := by decide +kernel
theorem dX9_loop_72 : decode cX9_loop 72 = .ok (.getfield 150, 3) := by decide +kernel
theorem dX9_loop_75 : decode cX9_loop 75 = .ok (.if_icmp .ge 58, 3) := by decide +kernel
theorem dX9_loop_78 : decode cX9_loop 78 = .ok (.aload_n 0, 1) := by decide +kernel
theorem dX9_loop_79 : decode cX9_loop 79 = .ok (.getfield 62, 3) := by decide +kernel
theorem dX9_loop_82 : decode cX9_loop 82 = .ok (.aload_n 0, 1) := by decide +kernel
theorem dX9_loop_83 : decode cX9_loop 83 = .ok (.getfield 153, 3) := by decide +kernel
theorem dX9_loop_86 : decode cX9_loop 86 = .ok (.aload_n 0, 1) := by decide +kernel
theorem dX9_loop_87 : decode cX9_loop 87 = .ok (.getfield 147, 3) := by decide +kernel
theorem dX9_loop_90 : decode cX9_loop 90 = .ok (.iadd, 1) := by decide +kernel
theorem dX9_loop_91 : decode cX9_loop 91 = .ok (.laload, 1) := by decide +kernel
theorem dX9_loop_92 : decode cX9_loop 92 = .ok (.l2i, 1) := by decide +kernel
theorem dX9_loop_93 : decode cX9_loop 93 = .ok (.bipush 59, 2) := by decide +kernel
theorem dX9_loop_95 : decode cX9_loop 95 = .ok (.if_icmp .eq 16, 3) := by decide +kernel
theorem dX9_loop_98 : decode cX9_loop 98 = .ok (.aload_n 0, 1) := by decide +kernel
theorem dX9_loop_99 : decode cX9_loop 99 = .ok (.aload_n 0, 1) := by decide +kernel
theorem dX9_loop_100 : decode cX9_loop 100 = .ok (.getfield 147, 3) := by decide +kernel
theorem dX9_loop_103 : decode cX9_loop 103 = .ok (.invokevirtual 163, 3) := by decide +kernel
theorem dX9_loop_106 : decode cX9_loop 106 = .ok (.istore 4, 2) := by decide +kernel
theorem dX9_loop_108 : decode cX9_loop 108 = .ok (.goto (-46), 3) := by decide +kernel
theorem dX9_loop_111 : decode cX9_loop 111 = .ok (.aload_n 0, 1) := by decide +kernel
theorem dX9_loop_112 : decode cX9_loop 112 = .ok (.dup, 1) := by decide +kernel
theorem dX9_loop_113 : decode cX9_loop 113 = .ok (.getfield 147, 3) := by decide +kernel
theorem dX9_loop_116 : decode cX9_loop 116 = .ok (.iconst 1, 1) := by decide +kernel
theorem dX9_loop_117 : decode cX9_loop 117 = .ok (.iadd, 1) := by decide +kernel
theorem dX9_loop_118 : decode cX9_loop 118 = .ok (.putfield 147, 3) := by decide +kernel
theorem dX9_loop_121 : decode cX9_loop 121 = .ok (.iinc 3 1, 3) := by decide +kernel
theorem dX9_loop_124 : decode cX9_loop 124 = .ok (.aload_n 0, 1) := by decide +kernel
theorem dX9_loop_125 : decode cX9_loop 125 = .ok (.invokevirtual 190, 3) := by decide +kernel
theorem dX9_loop_128 : decode cX9_loop 128 = .ok (.istore 4, 2) := by decide +kernel
theorem dX9_loop_130 : decode cX9_loop 130 = .ok (.goto (-68), 3) := by decide +kernel
theorem dX9_loop_133 : decode cX9_loop 133 = .ok (.iload 4, 2) := by decide +kernel
theorem dX9_loop_135 : decode cX9_loop 135 = .ok (.ifCond .eq 5, 3) := by decide +kernel
theorem dX9_loop_138 : decode cX9_loop 138 = .ok (.iload_n 3, 1) := by decide +kernel
theorem dX9_loop_139 : decode cX9_loop 139 = .ok (.ireturn, 1) := by decide +kernel
theorem dX9_loop_140 : decode cX9_loop 140 = .ok (.aload_n 0, 1) := by decide +kernel
theorem dX9_loop_141 : decode cX9_loop 141 = .ok (.aload_n 0, 1) := by decide +kernel
theorem dX9_loop_142 : decode cX9_loop 142 = .ok (.getfield 78, 3) := by decide +kernel
theorem dX9_loop_145 : decode cX9_loop 145 = .ok (.iconst 1, 1) := by decide +kernel
theorem dX9_loop_146 : decode cX9_loop 146 = .ok (.invokevirtual 186, 3) := by decide +kernel
theorem dX9_loop_149 : decode cX9_loop 149 = .ok (.aload_n 0, 1) := by decide +kernel
theorem dX9_loop_150 : decode cX9_loop 150 = .ok (.aload_n 0, 1) := by decide +kernel
theorem dX9_loop_151 : decode cX9_loop 151 = .ok (.getfield 144, 3) := by decide +kernel
theorem dX9_loop_154 : decode cX9_loop 154 = .ok (.putfield 19, 3) := by decide +kernel
theorem dX9_loop_157 : decode cX9_loop 157 = .ok (.aload_n 0, 1) := by decide +kernel
theorem dX9_loop_158 : decode cX9_loop 158 = .ok (.bipush (-6), 2) := by decide +kernel
theorem dX9_loop_160 : decode cX9_loop 160 = .ok (.invokevirtual 98, 3) := by decide +kernel
theorem dX9_loop_163 : decode cX9_loop 163 = .ok (.ireturn, 1) := by decide +kernel
theorem dX9_fault_0 : decode cX9_fault 0 = .ok (.aload_n 0, 1) := by decide +kernel
theorem dX9_fault_1 : decode cX9_fault 1 = .ok (.getfield 19, 3) := by decide +kernel
theorem dX9_fault_4 : decode cX9_fault 4 = .ok (.ireturn, 1) := by decide +kernel
theorem dX9_booked_0 : decode cX9_booked 0 = .ok (.aload_n 0, 1) := by decide +kernel
theorem dX9_booked_1 : decode cX9_booked 1 = .ok (.getfield 32, 3) := by decide +kernel
theorem dX9_booked_4 : decode cX9_booked 4 = .ok (.iload_n 1, 1) := by decide +kernel
theorem dX9_booked_5 : decode cX9_booked 5 = .ok (.iaload, 1) := by decide +kernel
theorem dX9_booked_6 : decode cX9_booked 6 = .ok (.aload_n 0, 1) := by decide +kernel
theorem dX9_booked_7 : decode cX9_booked 7 = .ok (.getfield 35, 3) := by decide +kernel
theorem dX9_booked_10 : decode cX9_booked 10 = .ok (.iload_n 1, 1) := by decide +kernel
theorem dX9_booked_11 : decode cX9_booked 11 = .ok (.iaload, 1) := by decide +kernel
theorem dX9_booked_12 : decode cX9_booked 12 = .ok (.isub, 1) := by decide +kernel
theorem dX9_booked_13 : decode cX9_booked 13 = .ok (.ireturn, 1) := by decide +kernel
theorem dX9_sinks_0 : decode cX9_sinks 0 = .ok (.aload_n 0, 1) := by decide +kernel
theorem dX9_sinks_1 : decode cX9_sinks 1 = .ok (.getfield 26, 3) := by decide +kernel
theorem dX9_sinks_4 : decode cX9_sinks 4 = .ok (.iload_n 1, 1) := by decide +kernel
theorem dX9_sinks_5 : decode cX9_sinks 5 = .ok (.iaload, 1) := by decide +kernel
theorem dX9_sinks_6 : decode cX9_sinks 6 = .ok (.iconst 5, 1) := by decide +kernel
theorem dX9_sinks_7 : decode cX9_sinks 7 = .ok (.if_icmp .ne 14, 3) := by decide +kernel
theorem dX9_sinks_10 : decode cX9_sinks 10 = .ok (.iconst 2, 1) := by decide +kernel
theorem dX9_sinks_11 : decode cX9_sinks 11 = .ok (.aload_n 0, 1) := by decide +kernel
theorem dX9_sinks_12 : decode cX9_sinks 12 = .ok (.getfield 29, 3) := by decide +kernel
theorem dX9_sinks_15 : decode cX9_sinks 15 = .ok (.iload_n 1, 1) := by decide +kernel
theorem dX9_sinks_16 : decode cX9_sinks 16 = .ok (.iaload, 1) := by decide +kernel
theorem dX9_sinks_17 : decode cX9_sinks 17 = .ok (.imul, 1) := by decide +kernel
theorem dX9_sinks_18 : decode cX9_sinks 18 = .ok (.goto 9, 3) := by decide +kernel
theorem dX9_sinks_21 : decode cX9_sinks 21 = .ok (.aload_n 0, 1) := by decide +kernel
theorem dX9_sinks_22 : decode cX9_sinks 22 = .ok (.getfield 29, 3) := by decide +kernel
theorem dX9_sinks_25 : decode cX9_sinks 25 = .ok (.iload_n 1, 1) := by decide +kernel
theorem dX9_sinks_26 : decode cX9_sinks 26 = .ok (.iaload, 1) := by decide +kernel
theorem dX9_sinks_27 : decode cX9_sinks 27 = .ok (.ireturn, 1) := by decide +kernel
theorem dX9_signed_0 : decode cX9_signed 0 = .ok (.iload_n 2, 1) := by decide +kernel
theorem dX9_signed_1 : decode cX9_signed 1 = .ok (.ifCond .le 7, 3) := by decide +kernel
theorem dX9_signed_4 : decode cX9_signed 4 = .ok (.iload_n 1, 1) := by decide +kernel
theorem dX9_signed_5 : decode cX9_signed 5 = .ok (.goto 13, 3) := by decide +kernel
theorem dX9_signed_8 : decode cX9_signed 8 = .ok (.iload_n 2, 1) := by decide +kernel
theorem dX9_signed_9 : decode cX9_signed 9 = .ok (.ifCond .ge 8, 3) := by decide +kernel
theorem dX9_signed_12 : decode cX9_signed 12 = .ok (.iload_n 1, 1) := by decide +kernel
theorem dX9_signed_13 : decode cX9_signed 13 = .ok (.ineg, 1) := by decide +kernel
theorem dX9_signed_14 : decode cX9_signed 14 = .ok (.goto 4, 3) := by decide +kernel
theorem dX9_signed_17 : decode cX9_signed 17 = .ok (.iconst 0, 1) := by decide +kernel
theorem dX9_signed_18 : decode cX9_signed 18 = .ok (.ireturn, 1) := by decide +kernel
set_option maxRecDepth 20000 in
theorem ggX9_error_X9_sinks : GoodIn wsX9_error wsX9_sinks := goodIn_r _ [11, 1, 6, 22, 23, 24, 25, 26, 27, 28, 29, 30, 31, 32, 33, 34, 35, 36, 37, 38, 39, 40, 41, 42, 43, 44, 45, 46, 47, 48, 49, 50, 51, 52, 53, 54, 55, 56, 57, 58, 59, 60, 61] (by decide +kernel) (by decide +kernel)
set_option maxRecDepth 20000 in
theorem gX9_error_X9_sinks : GoodIn wsX9_error (wsV RX9 108 RX9 yX9_sinks wsX9_sinks) := goodIn_app (goodIn_of _ (by decide +kernel)) ggX9_error_X9_sinks
set_option maxRecDepth 20000 in
theorem ggX9_error_X9_booked : GoodIn wsX9_error wsX9_booked := goodIn_r _ [15, 16, 17, 22, 23, 24, 25, 26, 27, 28, 29, 30, 31, 32, 33, 34, 35, 36, 37, 38, 39, 40, 41, 42, 43, 44, 45, 46, 47, 48, 49, 50, 51, 52, 53, 54, 55, 56, 57, 58, 59, 60, 61] (by decide +kernel) (by decide +kernel)
set_option maxRecDepth 20000 in
theorem gX9_error_X9_booked : GoodIn wsX9_error (wsV RX9 121 RX9 yX9_booked wsX9_booked) := goodIn_app (goodIn_of _ (by decide +kernel)) ggX9_error_X9_booked
set_option maxRecDepth 20000 in
theorem ggX9_error_X9_signed : GoodIn wsX9_error wsX9_signed := goodIn_r _ [21] (by decide +kernel) (by decide +kernel)
set_option maxRecDepth 20000 in
theorem gX9_error_X9_signed : GoodIn wsX9_error (wsV RX9 193 RX9 yX9_signed wsX9_signed) := goodIn_app (goodIn_of _ (by decide +kernel)) ggX9_error_X9_signed
theorem dX9_error_0 : decode cX9_error 0 = .ok (.aload_n 0, 1) := by decide +kernel
theorem dX9_error_1 : decode cX9_error 1 = .ok (.getfield 26, 3) := by decide +kernel
theorem dX9_error_4 : decode cX9_error 4 = .ok (.iload_n 1, 1) := by decide +kernel
theorem dX9_error_5 : decode cX9_error 5 = .ok (.iaload, 1) := by decide +kernel
theorem dX9_error_6 : decode cX9_error 6 = .ok (.tableswitch 170 1 6 #[38, 84, 60, 109, 84, 125], 38) := by decide +kernel
theorem dX9_error_44 : decode cX9_error 44 = .ok (.aload_n 0, 1) := by decide +kernel
theorem dX9_error_45 : decode cX9_error 45 = .ok (.getfield 7, 3) := by decide +kernel
theorem dX9_error_48 : decode cX9_error 48 = .ok (.aload_n 0, 1) := by decide +kernel
theorem dX9_error_49 : decode cX9_error 49 = .ok (.getfield 38, 3) := by decide +kernel
theorem dX9_error_52 : decode cX9_error 52 = .ok (.iload_n 1, 1) := by decide +kernel
theorem dX9_error_53 : decode cX9_error 53 = .ok (.iaload, 1) := by decide +kernel
theorem dX9_error_54 : decode cX9_error 54 = .ok (.aload_n 0, 1) := by decide +kernel
theorem dX9_error_55 : decode cX9_error 55 = .ok (.getfield 41, 3) := by decide +kernel
theorem dX9_error_58 : decode cX9_error 58 = .ok (.iload_n 1, 1) := by decide +kernel
theorem dX9_error_59 : decode cX9_error 59 = .ok (.iaload, 1) := by decide +kernel
theorem dX9_error_60 : decode cX9_error 60 = .ok (.isub, 1) := by decide +kernel
theorem dX9_error_61 : decode cX9_error 61 = .ok (.imul, 1) := by decide +kernel
theorem dX9_error_62 : decode cX9_error 62 = .ok (.bipush 10, 2) := by decide +kernel
theorem dX9_error_64 : decode cX9_error 64 = .ok (.idiv, 1) := by decide +kernel
theorem dX9_error_65 : decode cX9_error 65 = .ok (.ireturn, 1) := by decide +kernel
theorem dX9_error_66 : decode cX9_error 66 = .ok (.iconst 2, 1) := by decide +kernel
theorem dX9_error_67 : decode cX9_error 67 = .ok (.aload_n 0, 1) := by decide +kernel
theorem dX9_error_68 : decode cX9_error 68 = .ok (.getfield 7, 3) := by decide +kernel
theorem dX9_error_71 : decode cX9_error 71 = .ok (.aload_n 0, 1) := by decide +kernel
theorem dX9_error_72 : decode cX9_error 72 = .ok (.getfield 38, 3) := by decide +kernel
theorem dX9_error_75 : decode cX9_error 75 = .ok (.iload_n 1, 1) := by decide +kernel
theorem dX9_error_76 : decode cX9_error 76 = .ok (.iaload, 1) := by decide +kernel
theorem dX9_error_77 : decode cX9_error 77 = .ok (.aload_n 0, 1) := by decide +kernel
theorem dX9_error_78 : decode cX9_error 78 = .ok (.getfield 41, 3) := by decide +kernel
theorem dX9_error_81 : decode cX9_error 81 = .ok (.iload_n 1, 1) := by decide +kernel
theorem dX9_error_82 : decode cX9_error 82 = .ok (.iaload, 1) := by decide +kernel
theorem dX9_error_83 : decode cX9_error 83 = .ok (.isub, 1) := by decide +kernel
theorem dX9_error_84 : decode cX9_error 84 = .ok (.imul, 1) := by decide +kernel
theorem dX9_error_85 : decode cX9_error 85 = .ok (.bipush 10, 2) := by decide +kernel
theorem dX9_error_87 : decode cX9_error 87 = .ok (.idiv, 1) := by decide +kernel
theorem dX9_error_88 : decode cX9_error 88 = .ok (.imul, 1) := by decide +kernel
theorem dX9_error_89 : decode cX9_error 89 = .ok (.ireturn, 1) := by decide +kernel
theorem dX9_error_90 : decode cX9_error 90 = .ok (.aload_n 0, 1) := by decide +kernel
theorem dX9_error_91 : decode cX9_error 91 = .ok (.getfield 47, 3) := by decide +kernel
theorem dX9_error_94 : decode cX9_error 94 = .ok (.iload_n 1, 1) := by decide +kernel
theorem dX9_error_95 : decode cX9_error 95 = .ok (.iaload, 1) := by decide +kernel
theorem dX9_error_96 : decode cX9_error 96 = .ok (.iconst 1, 1) := by decide +kernel
theorem dX9_error_97 : decode cX9_error 97 = .ok (.if_icmp .ne 12, 3) := by decide +kernel
theorem dX9_error_100 : decode cX9_error 100 = .ok (.aload_n 0, 1) := by decide +kernel
theorem dX9_error_101 : decode cX9_error 101 = .ok (.iload_n 1, 1) := by decide +kernel
theorem dX9_error_102 : decode cX9_error 102 = .ok (.invokevirtual 108, 3) := by decide +kernel
theorem dX9_error_105 : decode cX9_error 105 = .ok (.ineg, 1) := by decide +kernel
theorem dX9_error_106 : decode cX9_error 106 = .ok (.goto 8, 3) := by decide +kernel
theorem dX9_error_109 : decode cX9_error 109 = .ok (.aload_n 0, 1) := by decide +kernel
theorem dX9_error_110 : decode cX9_error 110 = .ok (.iload_n 1, 1) := by decide +kernel
theorem dX9_error_111 : decode cX9_error 111 = .ok (.invokevirtual 108, 3) := by decide +kernel
theorem dX9_error_114 : decode cX9_error 114 = .ok (.ireturn, 1) := by decide +kernel
theorem dX9_error_115 : decode cX9_error 115 = .ok (.aload_n 0, 1) := by decide +kernel
theorem dX9_error_116 : decode cX9_error 116 = .ok (.aload_n 0, 1) := by decide +kernel
theorem dX9_error_117 : decode cX9_error 117 = .ok (.getfield 29, 3) := by decide +kernel
theorem dX9_error_120 : decode cX9_error 120 = .ok (.iload_n 1, 1) := by decide +kernel
theorem dX9_error_121 : decode cX9_error 121 = .ok (.iaload, 1) := by decide +kernel
theorem dX9_error_122 : decode cX9_error 122 = .ok (.aload_n 0, 1) := by decide +kernel
theorem dX9_error_123 : decode cX9_error 123 = .ok (.iload_n 1, 1) := by decide +kernel
theorem dX9_error_124 : decode cX9_error 124 = .ok (.invokevirtual 121, 3) := by decide +kernel
theorem dX9_error_127 : decode cX9_error 127 = .ok (.invokevirtual 193, 3) := by decide +kernel
theorem dX9_error_130 : decode cX9_error 130 = .ok (.ireturn, 1) := by decide +kernel
theorem dX9_error_131 : decode cX9_error 131 = .ok (.aload_n 0, 1) := by decide +kernel
theorem dX9_error_132 : decode cX9_error 132 = .ok (.aload_n 0, 1) := by decide +kernel
theorem dX9_error_133 : decode cX9_error 133 = .ok (.getfield 38, 3) := by decide +kernel
theorem dX9_error_136 : decode cX9_error 136 = .ok (.iload_n 1, 1) := by decide +kernel
theorem dX9_error_137 : decode cX9_error 137 = .ok (.iaload, 1) := by decide +kernel
theorem dX9_error_138 : decode cX9_error 138 = .ok (.aload_n 0, 1) := by decide +kernel
theorem dX9_error_139 : decode cX9_error 139 = .ok (.getfield 41, 3) := by decide +kernel
theorem dX9_error_142 : decode cX9_error 142 = .ok (.iload_n 1, 1) := by decide +kernel
theorem dX9_error_143 : decode cX9_error 143 = .ok (.iaload, 1) := by decide +kernel
theorem dX9_error_144 : decode cX9_error 144 = .ok (.iadd, 1) := by decide +kernel
theorem dX9_error_145 : decode cX9_error 145 = .ok (.bipush 100, 2) := by decide +kernel
theorem dX9_error_147 : decode cX9_error 147 = .ok (.if_icmp .lt 14, 3) := by decide +kernel
theorem dX9_error_150 : decode cX9_error 150 = .ok (.aload_n 0, 1) := by decide +kernel
theorem dX9_error_151 : decode cX9_error 151 = .ok (.getfield 29, 3) := by decide +kernel
theorem dX9_error_154 : decode cX9_error 154 = .ok (.iload_n 1, 1) := by decide +kernel
theorem dX9_error_155 : decode cX9_error 155 = .ok (.iaload, 1) := by decide +kernel
theorem dX9_error_156 : decode cX9_error 156 = .ok (.iconst 1, 1) := by decide +kernel
theorem dX9_error_157 : decode cX9_error 157 = .ok (.iadd, 1) := by decide +kernel
theorem dX9_error_158 : decode cX9_error 158 = .ok (.goto 9, 3) := by decide +kernel
theorem dX9_error_161 : decode cX9_error 161 = .ok (.aload_n 0, 1) := by decide +kernel
theorem dX9_error_162 : decode cX9_error 162 = .ok (.getfield 29, 3) := by decide +kernel
theorem dX9_error_165 : decode cX9_error 165 = .ok (.iload_n 1, 1) := by decide +kernel
theorem dX9_error_166 : decode cX9_error 166 = .ok (.iaload, 1) := by decide +kernel
theorem dX9_error_167 : decode cX9_error 167 = .ok (.aload_n 0, 1) := by decide +kernel
theorem dX9_error_168 : decode cX9_error 168 = .ok (.iload_n 1, 1) := by decide +kernel
theorem dX9_error_169 : decode cX9_error 169 = .ok (.invokevirtual 121, 3) := by decide +kernel
theorem dX9_error_172 : decode cX9_error 172 = .ok (.invokevirtual 193, 3) := by decide +kernel
theorem dX9_error_175 : decode cX9_error 175 = .ok (.ireturn, 1) := by decide +kernel
theorem dX9_error_176 : decode cX9_error 176 = .ok (.iconst 0, 1) := by decide +kernel
theorem dX9_error_177 : decode cX9_error 177 = .ok (.ireturn, 1) := by decide +kernel
set_option maxRecDepth 20000 in
theorem ggX9_rise_X9_booked : GoodIn wsX9_rise wsX9_booked := goodIn_r _ [5, 6, 7, 26, 27, 28, 29, 30, 31, 32, 33, 34, 35, 36, 37, 38, 39, 40, 41, 42, 43, 44, 45, 46, 47, 48, 49, 50, 51, 52, 53, 54, 55, 56, 57, 58, 59, 60, 61, 62, 63, 64, 65] (by decide +kernel) (by decide +kernel)
set_option maxRecDepth 20000 in
theorem gX9_rise_X9_booked : GoodIn wsX9_rise (wsV RX9 121 RX9 yX9_booked wsX9_booked) := goodIn_app (goodIn_of _ (by decide +kernel)) ggX9_rise_X9_booked
set_option maxRecDepth 20000 in
theorem ggX9_rise_X9_error : GoodIn wsX9_rise wsX9_error := goodIn_r _ [11, 12, 13, 14, 15, 16, 17, 18, 19, 20, 4, 21, 1, 2, 3, 5, 6, 7, 22, 23, 24, 25, 26, 27, 28, 29, 30, 31, 32, 33, 34, 35, 36, 37, 38, 39, 40, 41, 42, 43, 44, 45, 46, 47, 48, 49, 50, 51, 52, 53, 54, 55, 56, 57, 58, 59, 60, 61, 62, 63, 64, 65] (by decide +kernel) (by decide +kernel)
set_option maxRecDepth 20000 in
theorem gX9_rise_X9_error : GoodIn wsX9_rise (wsV RX9 124 RX9 yX9_error wsX9_error) := goodIn_app (goodIn_of _ (by decide +kernel)) ggX9_rise_X9_error
theorem dX9_rise_0 : decode cX9_rise 0 = .ok (.aload_n 0, 1) := by decide +kernel
theorem dX9_rise_1 : decode cX9_rise 1 = .ok (.iload_n 1, 1) := by decide +kernel
theorem dX9_rise_2 : decode cX9_rise 2 = .ok (.invokevirtual 121, 3) := by decide +kernel
theorem dX9_rise_5 : decode cX9_rise 5 = .ok (.aload_n 0, 1) := by decide +kernel
theorem dX9_rise_6 : decode cX9_rise 6 = .ok (.iload_n 1, 1) := by decide +kernel
theorem dX9_rise_7 : decode cX9_rise 7 = .ok (.invokevirtual 124, 3) := by decide +kernel
theorem dX9_rise_10 : decode cX9_rise 10 = .ok (.isub, 1) := by decide +kernel
theorem dX9_rise_11 : decode cX9_rise 11 = .ok (.ireturn, 1) := by decide +kernel
set_option maxRecDepth 20000 in
theorem ggX9_rises_X9_rise : GoodIn wsX9_rises wsX9_rise := goodIn_r _ [5, 6, 7, 8, 4, 9, 10, 11, 12, 13, 14, 15, 16, 17, 18, 19, 20, 21, 22, 23, 24, 25, 26, 27, 28, 29, 30, 31, 32, 33, 34, 35, 36, 37, 38, 39, 40, 41, 42, 43, 44, 45, 46, 47, 48, 49, 50, 51, 52, 53, 54, 55, 56, 57, 58, 59, 60, 61, 62, 63, 64, 65, 66, 67, 68, 69] (by decide +kernel) (by decide +kernel)
set_option maxRecDepth 20000 in
theorem gX9_rises_X9_rise : GoodIn wsX9_rises (wsV RX9 127 RX9 yX9_rise wsX9_rise) := goodIn_app (goodIn_of _ (by decide +kernel)) ggX9_rises_X9_rise
theorem dX9_rises_0 : decode cX9_rises 0 = .ok (.iconst 0, 1) := by decide +kernel
theorem dX9_rises_1 : decode cX9_rises 1 = .ok (.istore_n 3, 1) := by decide +kernel
theorem dX9_rises_2 : decode cX9_rises 2 = .ok (.iload_n 1, 1) := by decide +kernel
theorem dX9_rises_3 : decode cX9_rises 3 = .ok (.istore 4, 2) := by decide +kernel
theorem dX9_rises_5 : decode cX9_rises 5 = .ok (.iload 4, 2) := by decide +kernel
theorem dX9_rises_7 : decode cX9_rises 7 = .ok (.iload_n 2, 1) := by decide +kernel
theorem dX9_rises_8 : decode cX9_rises 8 = .ok (.if_icmp .ge 18, 3) := by decide +kernel
theorem dX9_rises_11 : decode cX9_rises 11 = .ok (.iload_n 3, 1) := by decide +kernel
theorem dX9_rises_12 : decode cX9_rises 12 = .ok (.aload_n 0, 1) := by decide +kernel
theorem dX9_rises_13 : decode cX9_rises 13 = .ok (.iload 4, 2) := by decide +kernel
theorem dX9_rises_15 : decode cX9_rises 15 = .ok (.invokevirtual 127, 3) := by decide +kernel
theorem dX9_rises_18 : decode cX9_rises 18 = .ok (.iadd, 1) := by decide +kernel
theorem dX9_rises_19 : decode cX9_rises 19 = .ok (.istore_n 3, 1) := by decide +kernel
theorem dX9_rises_20 : decode cX9_rises 20 = .ok (.iinc 4 1, 3) := by decide +kernel
theorem dX9_rises_23 : decode cX9_rises 23 = .ok (.goto (-18), 3) := by decide +kernel
theorem dX9_rises_26 : decode cX9_rises 26 = .ok (.iload_n 3, 1) := by decide +kernel
theorem dX9_rises_27 : decode cX9_rises 27 = .ok (.ireturn, 1) := by decide +kernel
set_option maxRecDepth 20000 in
theorem ggX9_offAll_X9_rises : GoodIn wsX9_offAll wsX9_rises := goodIn_r _ [6, 7, 8, 9, 5, 10, 11, 12, 13, 14, 15, 16, 17, 18, 19, 20, 21, 22, 23, 24, 25, 26, 27, 28, 29, 30, 31, 32, 33, 34, 35, 36, 37, 38, 39, 40, 41, 42, 43, 44, 45, 46, 47, 48, 49, 50, 51, 52, 53, 54, 55, 56, 57, 58, 59, 60, 61, 62, 63, 64, 65, 66, 67, 68, 69, 70, 71, 72, 73, 74] (by decide +kernel) (by decide +kernel)
set_option maxRecDepth 20000 in
theorem gX9_offAll_X9_rises : GoodIn wsX9_offAll (wsV RX9 196 RX9 yX9_rises wsX9_rises) := goodIn_app (goodIn_of _ (by decide +kernel)) ggX9_offAll_X9_rises
theorem dX9_offAll_0 : decode cX9_offAll 0 = .ok (.aload_n 0, 1) := by decide +kernel
theorem dX9_offAll_1 : decode cX9_offAll 1 = .ok (.iconst 0, 1) := by decide +kernel
theorem dX9_offAll_2 : decode cX9_offAll 2 = .ok (.aload_n 0, 1) := by decide +kernel
theorem dX9_offAll_3 : decode cX9_offAll 3 = .ok (.getfield 91, 3) := by decide +kernel
theorem dX9_offAll_6 : decode cX9_offAll 6 = .ok (.invokevirtual 196, 3) := by decide +kernel
theorem dX9_offAll_9 : decode cX9_offAll 9 = .ok (.ireturn, 1) := by decide +kernel
theorem dX9_yards_0 : decode cX9_yards 0 = .ok (.iconst 0, 1) := by decide +kernel
theorem dX9_yards_1 : decode cX9_yards 1 = .ok (.istore_n 3, 1) := by decide +kernel
theorem dX9_yards_2 : decode cX9_yards 2 = .ok (.iload_n 1, 1) := by decide +kernel
theorem dX9_yards_3 : decode cX9_yards 3 = .ok (.istore 4, 2) := by decide +kernel
theorem dX9_yards_5 : decode cX9_yards 5 = .ok (.iload 4, 2) := by decide +kernel
theorem dX9_yards_7 : decode cX9_yards 7 = .ok (.iload_n 2, 1) := by decide +kernel
theorem dX9_yards_8 : decode cX9_yards 8 = .ok (.if_icmp .ge 27, 3) := by decide +kernel
theorem dX9_yards_11 : decode cX9_yards 11 = .ok (.iload_n 3, 1) := by decide +kernel
theorem dX9_yards_12 : decode cX9_yards 12 = .ok (.aload_n 0, 1) := by decide +kernel
theorem dX9_yards_13 : decode cX9_yards 13 = .ok (.getfield 38, 3) := by decide +kernel
theorem dX9_yards_16 : decode cX9_yards 16 = .ok (.iload 4, 2) := by decide +kernel
theorem dX9_yards_18 : decode cX9_yards 18 = .ok (.iaload, 1) := by decide +kernel
theorem dX9_yards_19 : decode cX9_yards 19 = .ok (.aload_n 0, 1) := by decide +kernel
theorem dX9_yards_20 : decode cX9_yards 20 = .ok (.getfield 41, 3) := by decide +kernel
theorem dX9_yards_23 : decode cX9_yards 23 = .ok (.iload 4, 2) := by decide +kernel
theorem dX9_yards_25 : decode cX9_yards 25 = .ok (.iaload, 1) := by decide +kernel
theorem dX9_yards_26 : decode cX9_yards 26 = .ok (.iadd, 1) := by decide +kernel
theorem dX9_yards_27 : decode cX9_yards 27 = .ok (.iadd, 1) := by decide +kernel
theorem dX9_yards_28 : decode cX9_yards 28 = .ok (.istore_n 3, 1) := by decide +kernel
theorem dX9_yards_29 : decode cX9_yards 29 = .ok (.iinc 4 1, 3) := by decide +kernel
theorem dX9_yards_32 : decode cX9_yards 32 = .ok (.goto (-27), 3) := by decide +kernel
theorem dX9_yards_35 : decode cX9_yards 35 = .ok (.iload_n 3, 1) := by decide +kernel
theorem dX9_yards_36 : decode cX9_yards 36 = .ok (.ireturn, 1) := by decide +kernel
set_option maxRecDepth 20000 in
theorem ggX9_height_X9_rises : GoodIn wsX9_height wsX9_rises := goodIn_r _ [7, 8, 9, 10, 6, 11, 12, 13, 14, 15, 16, 17, 18, 19, 20, 21, 22, 23, 24, 25, 26, 27, 28, 29, 30, 31, 32, 33, 34, 35, 42, 43, 44, 45, 46, 47, 48, 49, 50, 51, 52, 53, 54, 55, 56, 57, 58, 59, 60, 61, 62, 63, 64, 65, 66, 67, 68, 69, 70, 71, 72, 73, 74, 75, 76, 77, 78, 79, 80, 81] (by decide +kernel) (by decide +kernel)
set_option maxRecDepth 20000 in
theorem gX9_height_X9_rises : GoodIn wsX9_height (wsV RX9 196 RX9 yX9_rises wsX9_rises) := goodIn_app (goodIn_of _ (by decide +kernel)) ggX9_height_X9_rises
set_option maxRecDepth 20000 in
theorem ggX9_height_X9_noFar : GoodIn wsX9_height wsX9_noFar := goodIn_r _ [39, 40, 41, 42, 43, 44, 45, 46, 47, 48, 49, 50, 51, 52, 53, 54, 55, 56, 57, 58, 59, 60, 61, 62, 63, 64, 65, 66, 67, 68, 69, 70, 71, 72, 73, 74, 75, 76, 77, 78, 79, 80, 81] (by decide +kernel) (by decide +kernel)
set_option maxRecDepth 20000 in
theorem gX9_height_X9_noFar : GoodIn wsX9_height (wsV RX9 105 RX9 yX9_noFar wsX9_noFar) := goodIn_app (goodIn_of _ (by decide +kernel)) ggX9_height_X9_noFar
theorem dX9_height_0 : decode cX9_height 0 = .ok (.iload_n 1, 1) := by decide +kernel
theorem dX9_height_1 : decode cX9_height 1 = .ok (.ifCond .lt 25, 3) := by decide +kernel
theorem dX9_height_4 : decode cX9_height 4 = .ok (.iload_n 1, 1) := by decide +kernel
theorem dX9_height_5 : decode cX9_height 5 = .ok (.aload_n 0, 1) := by decide +kernel
theorem dX9_height_6 : decode cX9_height 6 = .ok (.getfield 91, 3) := by decide +kernel
theorem dX9_height_9 : decode cX9_height 9 = .ok (.if_icmp .gt 17, 3) := by decide +kernel
theorem dX9_height_12 : decode cX9_height 12 = .ok (.aload_n 0, 1) := by decide +kernel
theorem dX9_height_13 : decode cX9_height 13 = .ok (.getfield 134, 3) := by decide +kernel
theorem dX9_height_16 : decode cX9_height 16 = .ok (.aload_n 0, 1) := by decide +kernel
theorem dX9_height_17 : decode cX9_height 17 = .ok (.iconst 0, 1) := by decide +kernel
theorem dX9_height_18 : decode cX9_height 18 = .ok (.iload_n 1, 1) := by decide +kernel
theorem dX9_height_19 : decode cX9_height 19 = .ok (.invokevirtual 196, 3) := by decide +kernel
theorem dX9_height_22 : decode cX9_height 22 = .ok (.iadd, 1) := by decide +kernel
theorem dX9_height_23 : decode cX9_height 23 = .ok (.goto 9, 3) := by decide +kernel
theorem dX9_height_26 : decode cX9_height 26 = .ok (.aload_n 0, 1) := by decide +kernel
theorem dX9_height_27 : decode cX9_height 27 = .ok (.bipush (-5), 2) := by decide +kernel
theorem dX9_height_29 : decode cX9_height 29 = .ok (.invokevirtual 105, 3) := by decide +kernel
theorem dX9_height_32 : decode cX9_height 32 = .ok (.ireturn, 1) := by decide +kernel
theorem dX9_mayBe_0 : decode cX9_mayBe 0 = .ok (.iconst 0, 1) := by decide +kernel
theorem dX9_mayBe_1 : decode cX9_mayBe 1 = .ok (.istore_n 1, 1) := by decide +kernel
theorem dX9_mayBe_2 : decode cX9_mayBe 2 = .ok (.iload_n 1, 1) := by decide +kernel
theorem dX9_mayBe_3 : decode cX9_mayBe 3 = .ok (.iconst 1, 1) := by decide +kernel
theorem dX9_mayBe_4 : decode cX9_mayBe 4 = .ok (.iadd, 1) := by decide +kernel
theorem dX9_mayBe_5 : decode cX9_mayBe 5 = .ok (.iload_n 1, 1) := by decide +kernel
theorem dX9_mayBe_6 : decode cX9_mayBe 6 = .ok (.iconst 1, 1) := by decide +kernel
theorem dX9_mayBe_7 : decode cX9_mayBe 7 = .ok (.iadd, 1) := by decide +kernel
theorem dX9_mayBe_8 : decode cX9_mayBe 8 = .ok (.imul, 1) := by decide +kernel
theorem dX9_mayBe_9 : decode cX9_mayBe 9 = .ok (.aload_n 0, 1) := by decide +kernel
theorem dX9_mayBe_10 : decode cX9_mayBe 10 = .ok (.getfield 91, 3) := by decide +kernel
theorem dX9_mayBe_13 : decode cX9_mayBe 13 = .ok (.if_icmp .gt 9, 3) := by decide +kernel
theorem dX9_mayBe_16 : decode cX9_mayBe 16 = .ok (.iinc 1 1, 3) := by decide +kernel
theorem dX9_mayBe_19 : decode cX9_mayBe 19 = .ok (.goto (-17), 3) := by decide +kernel
theorem dX9_mayBe_22 : decode cX9_mayBe 22 = .ok (.aload_n 0, 1) := by decide +kernel
theorem dX9_mayBe_23 : decode cX9_mayBe 23 = .ok (.getfield 13, 3) := by decide +kernel
theorem dX9_mayBe_26 : decode cX9_mayBe 26 = .ok (.iload_n 1, 1) := by decide +kernel
theorem dX9_mayBe_27 : decode cX9_mayBe 27 = .ok (.imul, 1) := by decide +kernel
theorem dX9_mayBe_28 : decode cX9_mayBe 28 = .ok (.ireturn, 1) := by decide +kernel
set_option maxRecDepth 20000 in
theorem ggX9_off_X9_offAll : GoodIn wsX9_off wsX9_offAll := goodIn_r _ [6, 1, 7, 8, 9, 5, 10, 11, 12, 13, 14, 15, 16, 17, 18, 19, 20, 21, 22, 23, 24, 25, 26, 27, 28, 29, 30, 31, 32, 33, 34, 35, 36, 37, 38, 54, 55, 56, 57, 58, 59, 60, 61, 62, 63, 64, 65, 66, 67, 68, 69, 70, 71, 72, 73, 74, 75, 76, 77, 78, 79, 80, 81, 82, 83, 84, 85, 86, 87, 88, 89, 90, 91, 92, 93] (by decide +kernel) (by decide +kernel)
set_option maxRecDepth 20000 in
theorem gX9_off_X9_offAll : GoodIn wsX9_off (wsV RX9 199 RX9 yX9_offAll wsX9_offAll) := goodIn_app (goodIn_of _ (by decide +kernel)) ggX9_off_X9_offAll
set_option maxRecDepth 20000 in
theorem ggX9_off_X9_booked : GoodIn wsX9_off wsX9_booked := goodIn_r _ [18, 19, 20, 54, 55, 56, 57, 58, 59, 60, 61, 62, 63, 64, 65, 66, 67, 68, 69, 70, 71, 72, 73, 74, 75, 76, 77, 78, 79, 80, 81, 82, 83, 84, 85, 86, 87, 88, 89, 90, 91, 92, 93] (by decide +kernel) (by decide +kernel)
set_option maxRecDepth 20000 in
theorem gX9_off_X9_booked : GoodIn wsX9_off (wsV RX9 121 RX9 yX9_booked wsX9_booked) := goodIn_app (goodIn_of _ (by decide +kernel)) ggX9_off_X9_booked
set_option maxRecDepth 20000 in
theorem ggX9_off_X9_mayBe : GoodIn wsX9_off wsX9_mayBe := goodIn_r _ [42, 1, 43, 54, 55, 56, 57, 58, 59, 60, 61, 62, 63, 64, 65, 66, 67, 68, 69, 70, 71, 72, 73, 74, 75, 76, 77, 78, 79, 80, 81, 82, 83, 84, 85, 86, 87, 88, 89, 90, 91, 92, 93] (by decide +kernel) (by decide +kernel)
set_option maxRecDepth 20000 in
theorem gX9_off_X9_mayBe : GoodIn wsX9_off (wsV RX9 202 RX9 yX9_mayBe wsX9_mayBe) := goodIn_app (goodIn_of _ (by decide +kernel)) ggX9_off_X9_mayBe
set_option maxRecDepth 20000 in
theorem ggX9_off_X9_abs : GoodIn wsX9_off wsX9_abs := goodIn_r _ [47] (by decide +kernel) (by decide +kernel)
set_option maxRecDepth 20000 in
theorem gX9_off_X9_abs : GoodIn wsX9_off (wsV RX9 205 RX9 yX9_abs wsX9_abs) := goodIn_app (goodIn_of _ (by decide +kernel)) ggX9_off_X9_abs
set_option maxRecDepth 20000 in
theorem ggX9_off_X9_noFar : GoodIn wsX9_off wsX9_noFar := goodIn_r _ [51, 52, 53, 54, 55, 56, 57, 58, 59, 60, 61, 62, 63, 64, 65, 66, 67, 68, 69, 70, 71, 72, 73, 74, 75, 76, 77, 78, 79, 80, 81, 82, 83, 84, 85, 86, 87, 88, 89, 90, 91, 92, 93] (by decide +kernel) (by decide +kernel)
set_option maxRecDepth 20000 in
theorem gX9_off_X9_noFar : GoodIn wsX9_off (wsV RX9 105 RX9 yX9_noFar wsX9_noFar) := goodIn_app (goodIn_of _ (by decide +kernel)) ggX9_off_X9_noFar
theorem dX9_off_0 : decode cX9_off 0 = .ok (.iconst 0, 1) := by decide +kernel
theorem dX9_off_1 : decode cX9_off 1 = .ok (.istore_n 2, 1) := by decide +kernel
theorem dX9_off_2 : decode cX9_off 2 = .ok (.iload_n 1, 1) := by decide +kernel
theorem dX9_off_3 : decode cX9_off 3 = .ok (.tableswitch 86 0 3 #[29, 34, 60, 65], 29) := by decide +kernel
theorem dX9_off_32 : decode cX9_off 32 = .ok (.aload_n 0, 1) := by decide +kernel
theorem dX9_off_33 : decode cX9_off 33 = .ok (.invokevirtual 199, 3) := by decide +kernel
theorem dX9_off_36 : decode cX9_off 36 = .ok (.ireturn, 1) := by decide +kernel
theorem dX9_off_37 : decode cX9_off 37 = .ok (.iconst 0, 1) := by decide +kernel
theorem dX9_off_38 : decode cX9_off 38 = .ok (.istore_n 3, 1) := by decide +kernel
theorem dX9_off_39 : decode cX9_off 39 = .ok (.iload_n 3, 1) := by decide +kernel
theorem dX9_off_40 : decode cX9_off 40 = .ok (.aload_n 0, 1) := by decide +kernel
theorem dX9_off_41 : decode cX9_off 41 = .ok (.getfield 91, 3) := by decide +kernel
theorem dX9_off_44 : decode cX9_off 44 = .ok (.if_icmp .ge 17, 3) := by decide +kernel
theorem dX9_off_47 : decode cX9_off 47 = .ok (.iload_n 2, 1) := by decide +kernel
theorem dX9_off_48 : decode cX9_off 48 = .ok (.aload_n 0, 1) := by decide +kernel
theorem dX9_off_49 : decode cX9_off 49 = .ok (.iload_n 3, 1) := by decide +kernel
theorem dX9_off_50 : decode cX9_off 50 = .ok (.invokevirtual 121, 3) := by decide +kernel
theorem dX9_off_53 : decode cX9_off 53 = .ok (.iadd, 1) := by decide +kernel
theorem dX9_off_54 : decode cX9_off 54 = .ok (.istore_n 2, 1) := by decide +kernel
theorem dX9_off_55 : decode cX9_off 55 = .ok (.iinc 3 1, 3) := by decide +kernel
theorem dX9_off_58 : decode cX9_off 58 = .ok (.goto (-19), 3) := by decide +kernel
theorem dX9_off_61 : decode cX9_off 61 = .ok (.iload_n 2, 1) := by decide +kernel
theorem dX9_off_62 : decode cX9_off 62 = .ok (.ireturn, 1) := by decide +kernel
theorem dX9_off_63 : decode cX9_off 63 = .ok (.aload_n 0, 1) := by decide +kernel
theorem dX9_off_64 : decode cX9_off 64 = .ok (.invokevirtual 202, 3) := by decide +kernel
theorem dX9_off_67 : decode cX9_off 67 = .ok (.ireturn, 1) := by decide +kernel
theorem dX9_off_68 : decode cX9_off 68 = .ok (.aload_n 0, 1) := by decide +kernel
theorem dX9_off_69 : decode cX9_off 69 = .ok (.aload_n 0, 1) := by decide +kernel
theorem dX9_off_70 : decode cX9_off 70 = .ok (.invokevirtual 199, 3) := by decide +kernel
theorem dX9_off_73 : decode cX9_off 73 = .ok (.invokevirtual 205, 3) := by decide +kernel
theorem dX9_off_76 : decode cX9_off 76 = .ok (.aload_n 0, 1) := by decide +kernel
theorem dX9_off_77 : decode cX9_off 77 = .ok (.invokevirtual 202, 3) := by decide +kernel
theorem dX9_off_80 : decode cX9_off 80 = .ok (.if_icmp .le 7, 3) := by decide +kernel
theorem dX9_off_83 : decode cX9_off 83 = .ok (.iconst 1, 1) := by decide +kernel
theorem dX9_off_84 : decode cX9_off 84 = .ok (.goto 4, 3) := by decide +kernel
theorem dX9_off_87 : decode cX9_off 87 = .ok (.iconst 0, 1) := by decide +kernel
theorem dX9_off_88 : decode cX9_off 88 = .ok (.ireturn, 1) := by decide +kernel
theorem dX9_off_89 : decode cX9_off 89 = .ok (.aload_n 0, 1) := by decide +kernel
theorem dX9_off_90 : decode cX9_off 90 = .ok (.bipush (-5), 2) := by decide +kernel
theorem dX9_off_92 : decode cX9_off 92 = .ok (.invokevirtual 105, 3) := by decide +kernel
theorem dX9_off_95 : decode cX9_off 95 = .ok (.ireturn, 1) := by decide +kernel
theorem dX9_weights_0 : decode cX9_weights 0 = .ok (.lconst 0, 1) := by decide +kernel
theorem dX9_weights_1 : decode cX9_weights 1 = .ok (.lstore_n 3, 1) := by decide +kernel
theorem dX9_weights_2 : decode cX9_weights 2 = .ok (.iconst 0, 1) := by decide +kernel
theorem dX9_weights_3 : decode cX9_weights 3 = .ok (.istore 5, 2) := by decide +kernel
theorem dX9_weights_5 : decode cX9_weights 5 = .ok (.iload 5, 2) := by decide +kernel
theorem dX9_weights_7 : decode cX9_weights 7 = .ok (.iload_n 2, 1) := by decide +kernel
theorem dX9_weights_8 : decode cX9_weights 8 = .ok (.if_icmp .ge 53, 3) := by decide +kernel
theorem dX9_weights_11 : decode cX9_weights 11 = .ok (.aload_n 0, 1) := by decide +kernel
theorem dX9_weights_12 : decode cX9_weights 12 = .ok (.getfield 38, 3) := by decide +kernel
theorem dX9_weights_15 : decode cX9_weights 15 = .ok (.iload 5, 2) := by decide +kernel
theorem dX9_weights_17 : decode cX9_weights 17 = .ok (.iaload, 1) := by decide +kernel
theorem dX9_weights_18 : decode cX9_weights 18 = .ok (.aload_n 0, 1) := by decide +kernel
theorem dX9_weights_19 : decode cX9_weights 19 = .ok (.getfield 41, 3) := by decide +kernel
theorem dX9_weights_22 : decode cX9_weights 22 = .ok (.iload 5, 2) := by decide +kernel
theorem dX9_weights_24 : decode cX9_weights 24 = .ok (.iaload, 1) := by decide +kernel
theorem dX9_weights_25 : decode cX9_weights 25 = .ok (.iadd, 1) := by decide +kernel
theorem dX9_weights_26 : decode cX9_weights 26 = .ok (.i2l, 1) := by decide +kernel
theorem dX9_weights_27 : decode cX9_weights 27 = .ok (.lstore 6, 2) := by decide +kernel
theorem dX9_weights_29 : decode cX9_weights 29 = .ok (.lload_n 3, 1) := by decide +kernel
theorem dX9_weights_30 : decode cX9_weights 30 = .ok (.iload_n 1, 1) := by decide +kernel
theorem dX9_weights_31 : decode cX9_weights 31 = .ok (.ifCond .ne 7, 3) := by decide +kernel
theorem dX9_weights_34 : decode cX9_weights 34 = .ok (.lconst 1, 1) := by decide +kernel
theorem dX9_weights_35 : decode cX9_weights 35 = .ok (.goto 18, 3) := by decide +kernel
theorem dX9_weights_38 : decode cX9_weights 38 = .ok (.iload_n 1, 1) := by decide +kernel
theorem dX9_weights_39 : decode cX9_weights 39 = .ok (.iconst 1, 1) := by decide +kernel
theorem dX9_weights_40 : decode cX9_weights 40 = .ok (.if_icmp .ne 8, 3) := by decide +kernel
theorem dX9_weights_43 : decode cX9_weights 43 = .ok (.lload 6, 2) := by decide +kernel
theorem dX9_weights_45 : decode cX9_weights 45 = .ok (.goto 8, 3) := by decide +kernel
theorem dX9_weights_48 : decode cX9_weights 48 = .ok (.lload 6, 2) := by decide +kernel
theorem dX9_weights_50 : decode cX9_weights 50 = .ok (.lload 6, 2) := by decide +kernel
theorem dX9_weights_52 : decode cX9_weights 52 = .ok (.lmul, 1) := by decide +kernel
theorem dX9_weights_53 : decode cX9_weights 53 = .ok (.ladd, 1) := by decide +kernel
theorem dX9_weights_54 : decode cX9_weights 54 = .ok (.lstore_n 3, 1) := by decide +kernel
theorem dX9_weights_55 : decode cX9_weights 55 = .ok (.iinc 5 1, 3) := by decide +kernel
theorem dX9_weights_58 : decode cX9_weights 58 = .ok (.goto (-53), 3) := by decide +kernel
theorem dX9_weights_61 : decode cX9_weights 61 = .ok (.lload_n 3, 1) := by decide +kernel
theorem dX9_weights_62 : decode cX9_weights 62 = .ok (.lreturn, 1) := by decide +kernel
set_option maxRecDepth 20000 in
theorem ggX9_spread_X9_noFar : GoodIn wsX9_spread wsX9_noFar := goodIn_r _ [7, 8, 9, 50, 51, 52, 53, 54, 55, 56, 57, 58, 59, 60, 61, 62, 63, 64, 65, 66, 67, 68, 69, 70, 71, 72, 73, 74, 75, 76, 77, 78, 79, 80, 81, 82, 83, 84, 85, 86, 87, 88, 89] (by decide +kernel) (by decide +kernel)
set_option maxRecDepth 20000 in
theorem gX9_spread_X9_noFar : GoodIn wsX9_spread (wsV RX9 105 RX9 yX9_noFar wsX9_noFar) := goodIn_app (goodIn_of _ (by decide +kernel)) ggX9_spread_X9_noFar
set_option maxRecDepth 20000 in
theorem ggX9_spread_X9_rises : GoodIn wsX9_spread wsX9_rises := goodIn_r _ [13, 14, 15, 16, 6, 17, 18, 19, 20, 21, 22, 23, 24, 25, 26, 27, 28, 29, 30, 31, 32, 33, 34, 35, 36, 37, 38, 39, 40, 41, 50, 51, 52, 53, 54, 55, 56, 57, 58, 59, 60, 61, 62, 63, 64, 65, 66, 67, 68, 69, 70, 71, 72, 73, 74, 75, 76, 77, 78, 79, 80, 81, 82, 83, 84, 85, 86, 87, 88, 89] (by decide +kernel) (by decide +kernel)
set_option maxRecDepth 20000 in
theorem gX9_spread_X9_rises : GoodIn wsX9_spread (wsV RX9 196 RX9 yX9_rises wsX9_rises) := goodIn_app (goodIn_of _ (by decide +kernel)) ggX9_spread_X9_rises
set_option maxRecDepth 20000 in
theorem ggX9_spread_X9_offAll : GoodIn wsX9_spread wsX9_offAll := goodIn_r _ [45, 1, 10, 11, 12, 6, 13, 14, 15, 16, 17, 18, 19, 20, 21, 22, 23, 24, 25, 26, 27, 28, 29, 30, 31, 32, 33, 34, 35, 36, 37, 38, 39, 40, 41, 50, 51, 52, 53, 54, 55, 56, 57, 58, 59, 60, 61, 62, 63, 64, 65, 66, 67, 68, 69, 70, 71, 72, 73, 74, 75, 76, 77, 78, 79, 80, 81, 82, 83, 84, 85, 86, 87, 88, 89] (by decide +kernel) (by decide +kernel)
set_option maxRecDepth 20000 in
theorem gX9_spread_X9_offAll : GoodIn wsX9_spread (wsV RX9 199 RX9 yX9_offAll wsX9_offAll) := goodIn_app (goodIn_of _ (by decide +kernel)) ggX9_spread_X9_offAll
set_option maxRecDepth 20000 in
theorem ggX9_spread_X9_weights : GoodIn wsX9_spread wsX9_weights := goodIn_r _ [49, 30, 31, 50, 51, 52, 53, 54, 55, 56, 57, 58, 59, 60, 61, 62, 63, 64, 65, 66, 67, 68, 69, 70, 71, 72, 73, 74, 75, 76, 77, 78, 79, 80, 81, 82, 83, 84, 85, 86, 87, 88, 89] (by decide +kernel) (by decide +kernel)
set_option maxRecDepth 20000 in
theorem gX9_spread_X9_weights : GoodIn wsX9_spread (wsV RX9 208 RX9 yX9_weights wsX9_weights) := goodIn_app (goodIn_of _ (by decide +kernel)) ggX9_spread_X9_weights
theorem dX9_spread_0 : decode cX9_spread 0 = .ok (.iload_n 2, 1) := by decide +kernel
theorem dX9_spread_1 : decode cX9_spread 1 = .ok (.ifCond .lt 27, 3) := by decide +kernel
theorem dX9_spread_4 : decode cX9_spread 4 = .ok (.iload_n 2, 1) := by decide +kernel
theorem dX9_spread_5 : decode cX9_spread 5 = .ok (.aload_n 0, 1) := by decide +kernel
theorem dX9_spread_6 : decode cX9_spread 6 = .ok (.getfield 91, 3) := by decide +kernel
theorem dX9_spread_9 : decode cX9_spread 9 = .ok (.if_icmp .gt 19, 3) := by decide +kernel
theorem dX9_spread_12 : decode cX9_spread 12 = .ok (.iload_n 1, 1) := by decide +kernel
theorem dX9_spread_13 : decode cX9_spread 13 = .ok (.ifCond .lt 15, 3) := by decide +kernel
theorem dX9_spread_16 : decode cX9_spread 16 = .ok (.iload_n 1, 1) := by decide +kernel
theorem dX9_spread_17 : decode cX9_spread 17 = .ok (.iconst 2, 1) := by decide +kernel
theorem dX9_spread_18 : decode cX9_spread 18 = .ok (.if_icmp .gt 10, 3) := by decide +kernel
theorem dX9_spread_21 : decode cX9_spread 21 = .ok (.aload_n 0, 1) := by decide +kernel
theorem dX9_spread_22 : decode cX9_spread 22 = .ok (.getfield 91, 3) := by decide +kernel
theorem dX9_spread_25 : decode cX9_spread 25 = .ok (.ifCond .ne 10, 3) := by decide +kernel
theorem dX9_spread_28 : decode cX9_spread 28 = .ok (.aload_n 0, 1) := by decide +kernel
theorem dX9_spread_29 : decode cX9_spread 29 = .ok (.bipush (-5), 2) := by decide +kernel
theorem dX9_spread_31 : decode cX9_spread 31 = .ok (.invokevirtual 105, 3) := by decide +kernel
theorem dX9_spread_34 : decode cX9_spread 34 = .ok (.ireturn, 1) := by decide +kernel
theorem dX9_spread_35 : decode cX9_spread 35 = .ok (.aload_n 0, 1) := by decide +kernel
theorem dX9_spread_36 : decode cX9_spread 36 = .ok (.getfield 134, 3) := by decide +kernel
theorem dX9_spread_39 : decode cX9_spread 39 = .ok (.aload_n 0, 1) := by decide +kernel
theorem dX9_spread_40 : decode cX9_spread 40 = .ok (.iconst 0, 1) := by decide +kernel
theorem dX9_spread_41 : decode cX9_spread 41 = .ok (.iload_n 2, 1) := by decide +kernel
theorem dX9_spread_42 : decode cX9_spread 42 = .ok (.invokevirtual 196, 3) := by decide +kernel
theorem dX9_spread_45 : decode cX9_spread 45 = .ok (.iadd, 1) := by decide +kernel
theorem dX9_spread_46 : decode cX9_spread 46 = .ok (.aload_n 0, 1) := by decide +kernel
theorem dX9_spread_47 : decode cX9_spread 47 = .ok (.invokevirtual 199, 3) := by decide +kernel
theorem dX9_spread_50 : decode cX9_spread 50 = .ok (.i2l, 1) := by decide +kernel
theorem dX9_spread_51 : decode cX9_spread 51 = .ok (.aload_n 0, 1) := by decide +kernel
theorem dX9_spread_52 : decode cX9_spread 52 = .ok (.iload_n 1, 1) := by decide +kernel
theorem dX9_spread_53 : decode cX9_spread 53 = .ok (.iload_n 2, 1) := by decide +kernel
theorem dX9_spread_54 : decode cX9_spread 54 = .ok (.invokevirtual 208, 3) := by decide +kernel
theorem dX9_spread_57 : decode cX9_spread 57 = .ok (.lmul, 1) := by decide +kernel
theorem dX9_spread_58 : decode cX9_spread 58 = .ok (.aload_n 0, 1) := by decide +kernel
theorem dX9_spread_59 : decode cX9_spread 59 = .ok (.iload_n 1, 1) := by decide +kernel
theorem dX9_spread_60 : decode cX9_spread 60 = .ok (.aload_n 0, 1) := by decide +kernel
theorem dX9_spread_61 : decode cX9_spread 61 = .ok (.getfield 91, 3) := by decide +kernel
theorem dX9_spread_64 : decode cX9_spread 64 = .ok (.invokevirtual 208, 3) := by decide +kernel
theorem dX9_spread_67 : decode cX9_spread 67 = .ok (.ldiv, 1) := by decide +kernel
theorem dX9_spread_68 : decode cX9_spread 68 = .ok (.l2i, 1) := by decide +kernel
theorem dX9_spread_69 : decode cX9_spread 69 = .ok (.isub, 1) := by decide +kernel
theorem dX9_spread_70 : decode cX9_spread 70 = .ok (.ireturn, 1) := by decide +kernel
set_option maxRecDepth 20000 in
theorem ggX9_slips_X9_isReading : GoodIn wsX9_slips wsX9_isReading := goodIn_r _ [12] (by decide +kernel) (by decide +kernel)
set_option maxRecDepth 20000 in
theorem gX9_slips_X9_isReading : GoodIn wsX9_slips (wsV RX9 111 RX9 yX9_isReading wsX9_isReading) := goodIn_app (goodIn_of _ (by decide +kernel)) ggX9_slips_X9_isReading
set_option maxRecDepth 20000 in
theorem ggX9_slips_X9_offAll : GoodIn wsX9_slips wsX9_offAll := goodIn_r _ [16, 17, 18, 19, 20, 11, 21, 22, 23, 24, 25, 26, 27, 28, 29, 1, 2, 30, 31, 32, 33, 34, 35, 36, 37, 38, 39, 40, 41, 42, 43, 44, 45, 46, 47, 48, 49, 50, 51, 52, 53, 54, 55, 56, 57, 58, 59, 60, 61, 62, 63, 64, 65, 66, 67, 68, 69, 70, 71, 72, 73, 74, 75, 76, 77, 78, 79, 80, 81, 82, 83, 84, 85, 86, 87] (by decide +kernel) (by decide +kernel)
set_option maxRecDepth 20000 in
theorem gX9_slips_X9_offAll : GoodIn wsX9_slips (wsV RX9 199 RX9 yX9_offAll wsX9_offAll) := goodIn_app (goodIn_of _ (by decide +kernel)) ggX9_slips_X9_offAll
theorem dX9_slips_0 : decode cX9_slips 0 = .ok (.aload_n 0, 1) := by decide +kernel
theorem dX9_slips_1 : decode cX9_slips 1 = .ok (.iload 4, 2) := by decide +kernel
theorem dX9_slips_3 : decode cX9_slips 3 = .ok (.invokevirtual 111, 3) := by decide +kernel
theorem dX9_slips_6 : decode cX9_slips 6 = .ok (.ifCond .ne 4, 3) := by decide +kernel
theorem dX9_slips_9 : decode cX9_slips 9 = .ok (.return_, 1) := by decide +kernel
theorem dX9_slips_10 : decode cX9_slips 10 = .ok (.aload_n 0, 1) := by decide +kernel
theorem dX9_slips_11 : decode cX9_slips 11 = .ok (.getfield 32, 3) := by decide +kernel
theorem dX9_slips_14 : decode cX9_slips 14 = .ok (.iload_n 1, 1) := by decide +kernel
theorem dX9_slips_15 : decode cX9_slips 15 = .ok (.iaload, 1) := by decide +kernel
theorem dX9_slips_16 : decode cX9_slips 16 = .ok (.istore 5, 2) := by decide +kernel
theorem dX9_slips_18 : decode cX9_slips 18 = .ok (.aload_n 0, 1) := by decide +kernel
theorem dX9_slips_19 : decode cX9_slips 19 = .ok (.getfield 35, 3) := by decide +kernel
theorem dX9_slips_22 : decode cX9_slips 22 = .ok (.iload_n 1, 1) := by decide +kernel
theorem dX9_slips_23 : decode cX9_slips 23 = .ok (.iaload, 1) := by decide +kernel
theorem dX9_slips_24 : decode cX9_slips 24 = .ok (.istore 6, 2) := by decide +kernel
theorem dX9_slips_26 : decode cX9_slips 26 = .ok (.iload_n 3, 1) := by decide +kernel
theorem dX9_slips_27 : decode cX9_slips 27 = .ok (.iconst 5, 1) := by decide +kernel
theorem dX9_slips_28 : decode cX9_slips 28 = .ok (.if_icmp .ne 22, 3) := by decide +kernel
theorem dX9_slips_31 : decode cX9_slips 31 = .ok (.aload_n 0, 1) := by decide +kernel
theorem dX9_slips_32 : decode cX9_slips 32 = .ok (.getfield 32, 3) := by decide +kernel
theorem dX9_slips_35 : decode cX9_slips 35 = .ok (.iload_n 1, 1) := by decide +kernel
theorem dX9_slips_36 : decode cX9_slips 36 = .ok (.iload 6, 2) := by decide +kernel
theorem dX9_slips_38 : decode cX9_slips 38 = .ok (.iastore, 1) := by decide +kernel
theorem dX9_slips_39 : decode cX9_slips 39 = .ok (.aload_n 0, 1) := by decide +kernel
theorem dX9_slips_40 : decode cX9_slips 40 = .ok (.getfield 35, 3) := by decide +kernel
theorem dX9_slips_43 : decode cX9_slips 43 = .ok (.iload_n 1, 1) := by decide +kernel
theorem dX9_slips_44 : decode cX9_slips 44 = .ok (.iload 5, 2) := by decide +kernel
theorem dX9_slips_46 : decode cX9_slips 46 = .ok (.iastore, 1) := by decide +kernel
theorem dX9_slips_47 : decode cX9_slips 47 = .ok (.goto 26, 3) := by decide +kernel
theorem dX9_slips_50 : decode cX9_slips 50 = .ok (.iload_n 2, 1) := by decide +kernel
theorem dX9_slips_51 : decode cX9_slips 51 = .ok (.ifCond .ne 14, 3) := by decide +kernel
theorem dX9_slips_54 : decode cX9_slips 54 = .ok (.aload_n 0, 1) := by decide +kernel
theorem dX9_slips_55 : decode cX9_slips 55 = .ok (.getfield 32, 3) := by decide +kernel
theorem dX9_slips_58 : decode cX9_slips 58 = .ok (.iload_n 1, 1) := by decide +kernel
theorem dX9_slips_59 : decode cX9_slips 59 = .ok (.iload 4, 2) := by decide +kernel
theorem dX9_slips_61 : decode cX9_slips 61 = .ok (.iastore, 1) := by decide +kernel
theorem dX9_slips_62 : decode cX9_slips 62 = .ok (.goto 11, 3) := by decide +kernel
theorem dX9_slips_65 : decode cX9_slips 65 = .ok (.aload_n 0, 1) := by decide +kernel
theorem dX9_slips_66 : decode cX9_slips 66 = .ok (.getfield 35, 3) := by decide +kernel
theorem dX9_slips_69 : decode cX9_slips 69 = .ok (.iload_n 1, 1) := by decide +kernel
theorem dX9_slips_70 : decode cX9_slips 70 = .ok (.iload 4, 2) := by decide +kernel
theorem dX9_slips_72 : decode cX9_slips 72 = .ok (.iastore, 1) := by decide +kernel
theorem dX9_slips_73 : decode cX9_slips 73 = .ok (.aload_n 0, 1) := by decide +kernel
theorem dX9_slips_74 : decode cX9_slips 74 = .ok (.invokevirtual 199, 3) := by decide +kernel
theorem dX9_slips_77 : decode cX9_slips 77 = .ok (.istore 7, 2) := by decide +kernel
theorem dX9_slips_79 : decode cX9_slips 79 = .ok (.aload_n 0, 1) := by decide +kernel
theorem dX9_slips_80 : decode cX9_slips 80 = .ok (.getfield 32, 3) := by decide +kernel
theorem dX9_slips_83 : decode cX9_slips 83 = .ok (.iload_n 1, 1) := by decide +kernel
theorem dX9_slips_84 : decode cX9_slips 84 = .ok (.iload 5, 2) := by decide +kernel
theorem dX9_slips_86 : decode cX9_slips 86 = .ok (.iastore, 1) := by decide +kernel
theorem dX9_slips_87 : decode cX9_slips 87 = .ok (.aload_n 0, 1) := by decide +kernel
theorem dX9_slips_88 : decode cX9_slips 88 = .ok (.getfield 35, 3) := by decide +kernel
theorem dX9_slips_91 : decode cX9_slips 91 = .ok (.iload_n 1, 1) := by decide +kernel
theorem dX9_slips_92 : decode cX9_slips 92 = .ok (.iload 6, 2) := by decide +kernel
theorem dX9_slips_94 : decode cX9_slips 94 = .ok (.iastore, 1) := by decide +kernel
theorem dX9_slips_95 : decode cX9_slips 95 = .ok (.iload 7, 2) := by decide +kernel
theorem dX9_slips_97 : decode cX9_slips 97 = .ok (.ifCond .eq 4, 3) := by decide +kernel
theorem dX9_slips_100 : decode cX9_slips 100 = .ok (.return_, 1) := by decide +kernel
theorem dX9_slips_101 : decode cX9_slips 101 = .ok (.aload_n 0, 1) := by decide +kernel
theorem dX9_slips_102 : decode cX9_slips 102 = .ok (.dup, 1) := by decide +kernel
theorem dX9_slips_103 : decode cX9_slips 103 = .ok (.getfield 212, 3) := by decide +kernel
theorem dX9_slips_106 : decode cX9_slips 106 = .ok (.iconst 1, 1) := by decide +kernel
theorem dX9_slips_107 : decode cX9_slips 107 = .ok (.iadd, 1) := by decide +kernel
theorem dX9_slips_108 : decode cX9_slips 108 = .ok (.putfield 212, 3) := by decide +kernel
theorem dX9_slips_111 : decode cX9_slips 111 = .ok (.aload_n 0, 1) := by decide +kernel
theorem dX9_slips_112 : decode cX9_slips 112 = .ok (.getfield 212, 3) := by decide +kernel
theorem dX9_slips_115 : decode cX9_slips 115 = .ok (.iconst 1, 1) := by decide +kernel
theorem dX9_slips_116 : decode cX9_slips 116 = .ok (.if_icmp .le 4, 3) := by decide +kernel
theorem dX9_slips_119 : decode cX9_slips 119 = .ok (.return_, 1) := by decide +kernel
theorem dX9_slips_120 : decode cX9_slips 120 = .ok (.aload_n 0, 1) := by decide +kernel
theorem dX9_slips_121 : decode cX9_slips 121 = .ok (.iload_n 1, 1) := by decide +kernel
theorem dX9_slips_122 : decode cX9_slips 122 = .ok (.putfield 215, 3) := by decide +kernel
theorem dX9_slips_125 : decode cX9_slips 125 = .ok (.aload_n 0, 1) := by decide +kernel
theorem dX9_slips_126 : decode cX9_slips 126 = .ok (.iload_n 2, 1) := by decide +kernel
theorem dX9_slips_127 : decode cX9_slips 127 = .ok (.putfield 218, 3) := by decide +kernel
theorem dX9_slips_130 : decode cX9_slips 130 = .ok (.aload_n 0, 1) := by decide +kernel
theorem dX9_slips_131 : decode cX9_slips 131 = .ok (.iload_n 3, 1) := by decide +kernel
theorem dX9_slips_132 : decode cX9_slips 132 = .ok (.putfield 221, 3) := by decide +kernel
theorem dX9_slips_135 : decode cX9_slips 135 = .ok (.aload_n 0, 1) := by decide +kernel
theorem dX9_slips_136 : decode cX9_slips 136 = .ok (.iload 4, 2) := by decide +kernel
theorem dX9_slips_138 : decode cX9_slips 138 = .ok (.putfield 224, 3) := by decide +kernel
theorem dX9_slips_141 : decode cX9_slips 141 = .ok (.return_, 1) := by decide +kernel
set_option maxRecDepth 20000 in
theorem ggX9_slipsOf_X9_slips : GoodIn wsX9_slipsOf wsX9_slips := goodIn_r _ [7, 1, 2, 8, 9, 10, 11, 12, 13, 14, 15, 6, 16, 17, 18, 19, 20, 21, 22, 23, 24, 25, 26, 27, 28, 29, 30, 31, 32, 33, 34, 35, 36, 37, 38, 39, 40, 41, 42, 43, 44, 45, 46, 47, 48, 49, 50, 51, 52, 53, 54, 55, 56, 57, 58, 59, 60, 61, 62, 63, 64, 65, 66, 67, 68, 69, 70, 71, 72, 73, 74, 75, 76, 77, 78, 79, 80, 81, 82, 83, 84, 85, 86, 87, 88, 89, 90, 91] (by decide +kernel) (by decide +kernel)
set_option maxRecDepth 20000 in
theorem gX9_slipsOf_X9_slips : GoodIn wsX9_slipsOf (wsV RX9 227 RX9 yX9_slips wsX9_slips) := goodIn_app (goodIn_of _ (by decide +kernel)) ggX9_slipsOf_X9_slips
theorem dX9_slipsOf_0 : decode cX9_slipsOf 0 = .ok (.iload_n 2, 1) := by decide +kernel
theorem dX9_slipsOf_1 : decode cX9_slipsOf 1 = .ok (.ifCond .ne 12, 3) := by decide +kernel
theorem dX9_slipsOf_4 : decode cX9_slipsOf 4 = .ok (.aload_n 0, 1) := by decide +kernel
theorem dX9_slipsOf_5 : decode cX9_slipsOf 5 = .ok (.getfield 32, 3) := by decide +kernel
theorem dX9_slipsOf_8 : decode cX9_slipsOf 8 = .ok (.iload_n 1, 1) := by decide +kernel
theorem dX9_slipsOf_9 : decode cX9_slipsOf 9 = .ok (.iaload, 1) := by decide +kernel
theorem dX9_slipsOf_10 : decode cX9_slipsOf 10 = .ok (.goto 9, 3) := by decide +kernel
theorem dX9_slipsOf_13 : decode cX9_slipsOf 13 = .ok (.aload_n 0, 1) := by decide +kernel
theorem dX9_slipsOf_14 : decode cX9_slipsOf 14 = .ok (.getfield 35, 3) := by decide +kernel
theorem dX9_slipsOf_17 : decode cX9_slipsOf 17 = .ok (.iload_n 1, 1) := by decide +kernel
theorem dX9_slipsOf_18 : decode cX9_slipsOf 18 = .ok (.iaload, 1) := by decide +kernel
theorem dX9_slipsOf_19 : decode cX9_slipsOf 19 = .ok (.istore_n 3, 1) := by decide +kernel
theorem dX9_slipsOf_20 : decode cX9_slipsOf 20 = .ok (.iconst 0, 1) := by decide +kernel
theorem dX9_slipsOf_21 : decode cX9_slipsOf 21 = .ok (.istore 4, 2) := by decide +kernel
theorem dX9_slipsOf_23 : decode cX9_slipsOf 23 = .ok (.iload 4, 2) := by decide +kernel
theorem dX9_slipsOf_25 : decode cX9_slipsOf 25 = .ok (.iconst 2, 1) := by decide +kernel
theorem dX9_slipsOf_26 : decode cX9_slipsOf 26 = .ok (.if_icmp .ge 91, 3) := by decide +kernel
theorem dX9_slipsOf_29 : decode cX9_slipsOf 29 = .ok (.sipush 1000, 3) := by decide +kernel
theorem dX9_slipsOf_32 : decode cX9_slipsOf 32 = .ok (.istore 5, 2) := by decide +kernel
theorem dX9_slipsOf_34 : decode cX9_slipsOf 34 = .ok (.iload 5, 2) := by decide +kernel
theorem dX9_slipsOf_36 : decode cX9_slipsOf 36 = .ok (.ifCond .le 75, 3) := by decide +kernel
theorem dX9_slipsOf_39 : decode cX9_slipsOf 39 = .ok (.iload_n 3, 1) := by decide +kernel
theorem dX9_slipsOf_40 : decode cX9_slipsOf 40 = .ok (.iload 5, 2) := by decide +kernel
theorem dX9_slipsOf_42 : decode cX9_slipsOf 42 = .ok (.idiv, 1) := by decide +kernel
theorem dX9_slipsOf_43 : decode cX9_slipsOf 43 = .ok (.bipush 10, 2) := by decide +kernel
theorem dX9_slipsOf_45 : decode cX9_slipsOf 45 = .ok (.irem, 1) := by decide +kernel
theorem dX9_slipsOf_46 : decode cX9_slipsOf 46 = .ok (.istore 6, 2) := by decide +kernel
theorem dX9_slipsOf_48 : decode cX9_slipsOf 48 = .ok (.iload 4, 2) := by decide +kernel
theorem dX9_slipsOf_50 : decode cX9_slipsOf 50 = .ok (.ifCond .ne 24, 3) := by decide +kernel
theorem dX9_slipsOf_53 : decode cX9_slipsOf 53 = .ok (.iload 6, 2) := by decide +kernel
theorem dX9_slipsOf_55 : decode cX9_slipsOf 55 = .ok (.bipush 6, 2) := by decide +kernel
theorem dX9_slipsOf_57 : decode cX9_slipsOf 57 = .ok (.if_icmp .ne 17, 3) := by decide +kernel
theorem dX9_slipsOf_60 : decode cX9_slipsOf 60 = .ok (.aload_n 0, 1) := by decide +kernel
theorem dX9_slipsOf_61 : decode cX9_slipsOf 61 = .ok (.iload_n 1, 1) := by decide +kernel
theorem dX9_slipsOf_62 : decode cX9_slipsOf 62 = .ok (.iload_n 2, 1) := by decide +kernel
theorem dX9_slipsOf_63 : decode cX9_slipsOf 63 = .ok (.iload 4, 2) := by decide +kernel
theorem dX9_slipsOf_65 : decode cX9_slipsOf 65 = .ok (.iload_n 3, 1) := by decide +kernel
theorem dX9_slipsOf_66 : decode cX9_slipsOf 66 = .ok (.iconst 3, 1) := by decide +kernel
theorem dX9_slipsOf_67 : decode cX9_slipsOf 67 = .ok (.iload 5, 2) := by decide +kernel
theorem dX9_slipsOf_69 : decode cX9_slipsOf 69 = .ok (.imul, 1) := by decide +kernel
theorem dX9_slipsOf_70 : decode cX9_slipsOf 70 = .ok (.iadd, 1) := by decide +kernel
theorem dX9_slipsOf_71 : decode cX9_slipsOf 71 = .ok (.invokevirtual 227, 3) := by decide +kernel
theorem dX9_slipsOf_74 : decode cX9_slipsOf 74 = .ok (.iload 4, 2) := by decide +kernel
theorem dX9_slipsOf_76 : decode cX9_slipsOf 76 = .ok (.iconst 1, 1) := by decide +kernel
theorem dX9_slipsOf_77 : decode cX9_slipsOf 77 = .ok (.if_icmp .ne 24, 3) := by decide +kernel
theorem dX9_slipsOf_80 : decode cX9_slipsOf 80 = .ok (.iload 6, 2) := by decide +kernel
theorem dX9_slipsOf_82 : decode cX9_slipsOf 82 = .ok (.bipush 9, 2) := by decide +kernel
theorem dX9_slipsOf_84 : decode cX9_slipsOf 84 = .ok (.if_icmp .ne 17, 3) := by decide +kernel
theorem dX9_slipsOf_87 : decode cX9_slipsOf 87 = .ok (.aload_n 0, 1) := by decide +kernel
theorem dX9_slipsOf_88 : decode cX9_slipsOf 88 = .ok (.iload_n 1, 1) := by decide +kernel
theorem dX9_slipsOf_89 : decode cX9_slipsOf 89 = .ok (.iload_n 2, 1) := by decide +kernel
theorem dX9_slipsOf_90 : decode cX9_slipsOf 90 = .ok (.iload 4, 2) := by decide +kernel
theorem dX9_slipsOf_92 : decode cX9_slipsOf 92 = .ok (.iload_n 3, 1) := by decide +kernel
theorem dX9_slipsOf_93 : decode cX9_slipsOf 93 = .ok (.iconst 3, 1) := by decide +kernel
theorem dX9_slipsOf_94 : decode cX9_slipsOf 94 = .ok (.iload 5, 2) := by decide +kernel
theorem dX9_slipsOf_96 : decode cX9_slipsOf 96 = .ok (.imul, 1) := by decide +kernel
theorem dX9_slipsOf_97 : decode cX9_slipsOf 97 = .ok (.isub, 1) := by decide +kernel
theorem dX9_slipsOf_98 : decode cX9_slipsOf 98 = .ok (.invokevirtual 227, 3) := by decide +kernel
theorem dX9_slipsOf_101 : decode cX9_slipsOf 101 = .ok (.iload 5, 2) := by decide +kernel
theorem dX9_slipsOf_103 : decode cX9_slipsOf 103 = .ok (.bipush 10, 2) := by decide +kernel
theorem dX9_slipsOf_105 : decode cX9_slipsOf 105 = .ok (.idiv, 1) := by decide +kernel
theorem dX9_slipsOf_106 : decode cX9_slipsOf 106 = .ok (.istore 5, 2) := by decide +kernel
theorem dX9_slipsOf_108 : decode cX9_slipsOf 108 = .ok (.goto (-74), 3) := by decide +kernel
theorem dX9_slipsOf_111 : decode cX9_slipsOf 111 = .ok (.iinc 4 1, 3) := by decide +kernel
theorem dX9_slipsOf_114 : decode cX9_slipsOf 114 = .ok (.goto (-91), 3) := by decide +kernel
theorem dX9_slipsOf_117 : decode cX9_slipsOf 117 = .ok (.sipush 1000, 3) := by decide +kernel
theorem dX9_slipsOf_120 : decode cX9_slipsOf 120 = .ok (.istore 4, 2) := by decide +kernel
theorem dX9_slipsOf_122 : decode cX9_slipsOf 122 = .ok (.iload 4, 2) := by decide +kernel
theorem dX9_slipsOf_124 : decode cX9_slipsOf 124 = .ok (.iconst 1, 1) := by decide +kernel
theorem dX9_slipsOf_125 : decode cX9_slipsOf 125 = .ok (.if_icmp .le 70, 3) := by decide +kernel
theorem dX9_slipsOf_128 : decode cX9_slipsOf 128 = .ok (.iload_n 3, 1) := by decide +kernel
theorem dX9_slipsOf_129 : decode cX9_slipsOf 129 = .ok (.iload 4, 2) := by decide +kernel
theorem dX9_slipsOf_131 : decode cX9_slipsOf 131 = .ok (.idiv, 1) := by decide +kernel
theorem dX9_slipsOf_132 : decode cX9_slipsOf 132 = .ok (.bipush 10, 2) := by decide +kernel
theorem dX9_slipsOf_134 : decode cX9_slipsOf 134 = .ok (.irem, 1) := by decide +kernel
theorem dX9_slipsOf_135 : decode cX9_slipsOf 135 = .ok (.istore 5, 2) := by decide +kernel
theorem dX9_slipsOf_137 : decode cX9_slipsOf 137 = .ok (.iload_n 3, 1) := by decide +kernel
theorem dX9_slipsOf_138 : decode cX9_slipsOf 138 = .ok (.iload 4, 2) := by decide +kernel
theorem dX9_slipsOf_140 : decode cX9_slipsOf 140 = .ok (.bipush 10, 2) := by decide +kernel
theorem dX9_slipsOf_142 : decode cX9_slipsOf 142 = .ok (.idiv, 1) := by decide +kernel
theorem dX9_slipsOf_143 : decode cX9_slipsOf 143 = .ok (.idiv, 1) := by decide +kernel
theorem dX9_slipsOf_144 : decode cX9_slipsOf 144 = .ok (.bipush 10, 2) := by decide +kernel
theorem dX9_slipsOf_146 : decode cX9_slipsOf 146 = .ok (.irem, 1) := by decide +kernel
theorem dX9_slipsOf_147 : decode cX9_slipsOf 147 = .ok (.istore 6, 2) := by decide +kernel
theorem dX9_slipsOf_149 : decode cX9_slipsOf 149 = .ok (.iload 5, 2) := by decide +kernel
theorem dX9_slipsOf_151 : decode cX9_slipsOf 151 = .ok (.iload 6, 2) := by decide +kernel
theorem dX9_slipsOf_153 : decode cX9_slipsOf 153 = .ok (.if_icmp .eq 32, 3) := by decide +kernel
theorem dX9_slipsOf_156 : decode cX9_slipsOf 156 = .ok (.aload_n 0, 1) := by decide +kernel
theorem dX9_slipsOf_157 : decode cX9_slipsOf 157 = .ok (.iload_n 1, 1) := by decide +kernel
theorem dX9_slipsOf_158 : decode cX9_slipsOf 158 = .ok (.iload_n 2, 1) := by decide +kernel
theorem dX9_slipsOf_159 : decode cX9_slipsOf 159 = .ok (.iconst 2, 1) := by decide +kernel
theorem dX9_slipsOf_160 : decode cX9_slipsOf 160 = .ok (.iload_n 3, 1) := by decide +kernel
theorem dX9_slipsOf_161 : decode cX9_slipsOf 161 = .ok (.iload 6, 2) := by decide +kernel
theorem dX9_slipsOf_163 : decode cX9_slipsOf 163 = .ok (.iload 5, 2) := by decide +kernel
theorem dX9_slipsOf_165 : decode cX9_slipsOf 165 = .ok (.isub, 1) := by decide +kernel
theorem dX9_slipsOf_166 : decode cX9_slipsOf 166 = .ok (.iload 4, 2) := by decide +kernel
theorem dX9_slipsOf_168 : decode cX9_slipsOf 168 = .ok (.imul, 1) := by decide +kernel
theorem dX9_slipsOf_169 : decode cX9_slipsOf 169 = .ok (.iadd, 1) := by decide +kernel
theorem dX9_slipsOf_170 : decode cX9_slipsOf 170 = .ok (.iload 5, 2) := by decide +kernel
theorem dX9_slipsOf_172 : decode cX9_slipsOf 172 = .ok (.iload 6, 2) := by decide +kernel
theorem dX9_slipsOf_174 : decode cX9_slipsOf 174 = .ok (.isub, 1) := by decide +kernel
theorem dX9_slipsOf_175 : decode cX9_slipsOf 175 = .ok (.iload 4, 2) := by decide +kernel
theorem dX9_slipsOf_177 : decode cX9_slipsOf 177 = .ok (.bipush 10, 2) := by decide +kernel
theorem dX9_slipsOf_179 : decode cX9_slipsOf 179 = .ok (.idiv, 1) := by decide +kernel
theorem dX9_slipsOf_180 : decode cX9_slipsOf 180 = .ok (.imul, 1) := by decide +kernel
theorem dX9_slipsOf_181 : decode cX9_slipsOf 181 = .ok (.iadd, 1) := by decide +kernel
theorem dX9_slipsOf_182 : decode cX9_slipsOf 182 = .ok (.invokevirtual 227, 3) := by decide +kernel
theorem dX9_slipsOf_185 : decode cX9_slipsOf 185 = .ok (.iload 4, 2) := by decide +kernel
theorem dX9_slipsOf_187 : decode cX9_slipsOf 187 = .ok (.bipush 10, 2) := by decide +kernel
theorem dX9_slipsOf_189 : decode cX9_slipsOf 189 = .ok (.idiv, 1) := by decide +kernel
theorem dX9_slipsOf_190 : decode cX9_slipsOf 190 = .ok (.istore 4, 2) := by decide +kernel
theorem dX9_slipsOf_192 : decode cX9_slipsOf 192 = .ok (.goto (-70), 3) := by decide +kernel
theorem dX9_slipsOf_195 : decode cX9_slipsOf 195 = .ok (.aload_n 0, 1) := by decide +kernel
theorem dX9_slipsOf_196 : decode cX9_slipsOf 196 = .ok (.iload_n 1, 1) := by decide +kernel
theorem dX9_slipsOf_197 : decode cX9_slipsOf 197 = .ok (.iload_n 2, 1) := by decide +kernel
theorem dX9_slipsOf_198 : decode cX9_slipsOf 198 = .ok (.iconst 3, 1) := by decide +kernel
theorem dX9_slipsOf_199 : decode cX9_slipsOf 199 = .ok (.iload_n 3, 1) := by decide +kernel
theorem dX9_slipsOf_200 : decode cX9_slipsOf 200 = .ok (.bipush 100, 2) := by decide +kernel
theorem dX9_slipsOf_202 : decode cX9_slipsOf 202 = .ok (.isub, 1) := by decide +kernel
theorem dX9_slipsOf_203 : decode cX9_slipsOf 203 = .ok (.invokevirtual 227, 3) := by decide +kernel
theorem dX9_slipsOf_206 : decode cX9_slipsOf 206 = .ok (.aload_n 0, 1) := by decide +kernel
theorem dX9_slipsOf_207 : decode cX9_slipsOf 207 = .ok (.iload_n 1, 1) := by decide +kernel
theorem dX9_slipsOf_208 : decode cX9_slipsOf 208 = .ok (.iload_n 2, 1) := by decide +kernel
theorem dX9_slipsOf_209 : decode cX9_slipsOf 209 = .ok (.iconst 4, 1) := by decide +kernel
theorem dX9_slipsOf_210 : decode cX9_slipsOf 210 = .ok (.iload_n 3, 1) := by decide +kernel
theorem dX9_slipsOf_211 : decode cX9_slipsOf 211 = .ok (.bipush 100, 2) := by decide +kernel
theorem dX9_slipsOf_213 : decode cX9_slipsOf 213 = .ok (.iadd, 1) := by decide +kernel
theorem dX9_slipsOf_214 : decode cX9_slipsOf 214 = .ok (.invokevirtual 227, 3) := by decide +kernel
theorem dX9_slipsOf_217 : decode cX9_slipsOf 217 = .ok (.iload_n 2, 1) := by decide +kernel
theorem dX9_slipsOf_218 : decode cX9_slipsOf 218 = .ok (.ifCond .ne 16, 3) := by decide +kernel
theorem dX9_slipsOf_221 : decode cX9_slipsOf 221 = .ok (.aload_n 0, 1) := by decide +kernel
theorem dX9_slipsOf_222 : decode cX9_slipsOf 222 = .ok (.iload_n 1, 1) := by decide +kernel
theorem dX9_slipsOf_223 : decode cX9_slipsOf 223 = .ok (.iload_n 2, 1) := by decide +kernel
theorem dX9_slipsOf_224 : decode cX9_slipsOf 224 = .ok (.iconst 5, 1) := by decide +kernel
theorem dX9_slipsOf_225 : decode cX9_slipsOf 225 = .ok (.aload_n 0, 1) := by decide +kernel
theorem dX9_slipsOf_226 : decode cX9_slipsOf 226 = .ok (.getfield 35, 3) := by decide +kernel
theorem dX9_slipsOf_229 : decode cX9_slipsOf 229 = .ok (.iload_n 1, 1) := by decide +kernel
theorem dX9_slipsOf_230 : decode cX9_slipsOf 230 = .ok (.iaload, 1) := by decide +kernel
theorem dX9_slipsOf_231 : decode cX9_slipsOf 231 = .ok (.invokevirtual 227, 3) := by decide +kernel
theorem dX9_slipsOf_234 : decode cX9_slipsOf 234 = .ok (.return_, 1) := by decide +kernel
set_option maxRecDepth 20000 in
theorem ggX9_big_X9_no : GoodIn wsX9_big wsX9_no := goodIn_r _ [11, 12, 61, 62, 63, 64, 65, 66, 67, 68, 69, 70, 71, 72, 73, 74, 75, 76, 77, 78, 79, 80, 81, 82, 83, 84, 85, 86, 87, 88, 89, 90, 91, 92, 93, 94, 95, 96, 97, 98, 99, 100] (by decide +kernel) (by decide +kernel)
set_option maxRecDepth 20000 in
theorem gX9_big_X9_no : GoodIn wsX9_big (wsV RX9 98 RX9 yX9_no wsX9_no) := goodIn_app (goodIn_of _ (by decide +kernel)) ggX9_big_X9_no
set_option maxRecDepth 20000 in
theorem ggX9_big_X9_slipsOf : GoodIn wsX9_big wsX9_slipsOf := goodIn_r _ [16, 17, 18, 19, 20, 21, 10, 22, 1, 3, 4, 5, 6, 23, 24, 25, 26, 27, 28, 29, 30, 2, 31, 32, 33, 34, 35, 36, 37, 38, 39, 40, 41, 42, 43, 44, 45, 46, 47, 48, 49, 50, 51, 52, 53, 54, 55, 56, 57, 58, 59, 60, 61, 62, 63, 64, 65, 66, 67, 68, 69, 70, 71, 72, 73, 74, 75, 76, 77, 78, 79, 80, 81, 82, 83, 84, 85, 86, 87, 88, 89, 90, 91, 92, 93, 94, 95, 96, 97, 98, 99, 100] (by decide +kernel) (by decide +kernel)
set_option maxRecDepth 20000 in
theorem gX9_big_X9_slipsOf : GoodIn wsX9_big (wsV RX9 231 RX9 yX9_slipsOf wsX9_slipsOf) := goodIn_app (goodIn_of _ (by decide +kernel)) ggX9_big_X9_slipsOf
theorem dX9_big_0 : decode cX9_big 0 = .ok (.iload_n 1, 1) := by decide +kernel
theorem dX9_big_1 : decode cX9_big 1 = .ok (.iconst (-1), 1) := by decide +kernel
theorem dX9_big_2 : decode cX9_big 2 = .ok (.if_icmp .lt 8, 3) := by decide +kernel
theorem dX9_big_5 : decode cX9_big 5 = .ok (.iload_n 1, 1) := by decide +kernel
theorem dX9_big_6 : decode cX9_big 6 = .ok (.iconst 3, 1) := by decide +kernel
theorem dX9_big_7 : decode cX9_big 7 = .ok (.if_icmp .le 10, 3) := by decide +kernel
theorem dX9_big_10 : decode cX9_big 10 = .ok (.aload_n 0, 1) := by decide +kernel
theorem dX9_big_11 : decode cX9_big 11 = .ok (.bipush (-5), 2) := by decide +kernel
theorem dX9_big_13 : decode cX9_big 13 = .ok (.invokevirtual 98, 3) := by decide +kernel
theorem dX9_big_16 : decode cX9_big 16 = .ok (.ireturn, 1) := by decide +kernel
theorem dX9_big_17 : decode cX9_big 17 = .ok (.aload_n 0, 1) := by decide +kernel
theorem dX9_big_18 : decode cX9_big 18 = .ok (.iconst 0, 1) := by decide +kernel
theorem dX9_big_19 : decode cX9_big 19 = .ok (.putfield 212, 3) := by decide +kernel
theorem dX9_big_22 : decode cX9_big 22 = .ok (.iconst 0, 1) := by decide +kernel
theorem dX9_big_23 : decode cX9_big 23 = .ok (.istore_n 2, 1) := by decide +kernel
theorem dX9_big_24 : decode cX9_big 24 = .ok (.iload_n 2, 1) := by decide +kernel
theorem dX9_big_25 : decode cX9_big 25 = .ok (.aload_n 0, 1) := by decide +kernel
theorem dX9_big_26 : decode cX9_big 26 = .ok (.getfield 91, 3) := by decide +kernel
theorem dX9_big_29 : decode cX9_big 29 = .ok (.if_icmp .ge 21, 3) := by decide +kernel
theorem dX9_big_32 : decode cX9_big 32 = .ok (.aload_n 0, 1) := by decide +kernel
theorem dX9_big_33 : decode cX9_big 33 = .ok (.iload_n 2, 1) := by decide +kernel
theorem dX9_big_34 : decode cX9_big 34 = .ok (.iconst 0, 1) := by decide +kernel
theorem dX9_big_35 : decode cX9_big 35 = .ok (.invokevirtual 231, 3) := by decide +kernel
theorem dX9_big_38 : decode cX9_big 38 = .ok (.aload_n 0, 1) := by decide +kernel
theorem dX9_big_39 : decode cX9_big 39 = .ok (.iload_n 2, 1) := by decide +kernel
theorem dX9_big_40 : decode cX9_big 40 = .ok (.iconst 1, 1) := by decide +kernel
theorem dX9_big_41 : decode cX9_big 41 = .ok (.invokevirtual 231, 3) := by decide +kernel
theorem dX9_big_44 : decode cX9_big 44 = .ok (.iinc 2 1, 3) := by decide +kernel
theorem dX9_big_47 : decode cX9_big 47 = .ok (.goto (-23), 3) := by decide +kernel
theorem dX9_big_50 : decode cX9_big 50 = .ok (.iload_n 1, 1) := by decide +kernel
theorem dX9_big_51 : decode cX9_big 51 = .ok (.iconst (-1), 1) := by decide +kernel
theorem dX9_big_52 : decode cX9_big 52 = .ok (.if_icmp .ne 8, 3) := by decide +kernel
theorem dX9_big_55 : decode cX9_big 55 = .ok (.aload_n 0, 1) := by decide +kernel
theorem dX9_big_56 : decode cX9_big 56 = .ok (.getfield 212, 3) := by decide +kernel
theorem dX9_big_59 : decode cX9_big 59 = .ok (.ireturn, 1) := by decide +kernel
theorem dX9_big_60 : decode cX9_big 60 = .ok (.aload_n 0, 1) := by decide +kernel
theorem dX9_big_61 : decode cX9_big 61 = .ok (.getfield 212, 3) := by decide +kernel
theorem dX9_big_64 : decode cX9_big 64 = .ok (.ifCond .ne 10, 3) := by decide +kernel
theorem dX9_big_67 : decode cX9_big 67 = .ok (.aload_n 0, 1) := by decide +kernel
theorem dX9_big_68 : decode cX9_big 68 = .ok (.bipush (-5), 2) := by decide +kernel
theorem dX9_big_70 : decode cX9_big 70 = .ok (.invokevirtual 98, 3) := by decide +kernel
theorem dX9_big_73 : decode cX9_big 73 = .ok (.ireturn, 1) := by decide +kernel
theorem dX9_big_74 : decode cX9_big 74 = .ok (.iload_n 1, 1) := by decide +kernel
theorem dX9_big_75 : decode cX9_big 75 = .ok (.ifCond .ne 10, 3) := by decide +kernel
theorem dX9_big_78 : decode cX9_big 78 = .ok (.aload_n 0, 1) := by decide +kernel
theorem dX9_big_79 : decode cX9_big 79 = .ok (.getfield 215, 3) := by decide +kernel
theorem dX9_big_82 : decode cX9_big 82 = .ok (.goto 31, 3) := by decide +kernel
theorem dX9_big_85 : decode cX9_big 85 = .ok (.iload_n 1, 1) := by decide +kernel
theorem dX9_big_86 : decode cX9_big 86 = .ok (.iconst 1, 1) := by decide +kernel
theorem dX9_big_87 : decode cX9_big 87 = .ok (.if_icmp .ne 10, 3) := by decide +kernel
theorem dX9_big_90 : decode cX9_big 90 = .ok (.aload_n 0, 1) := by decide +kernel
theorem dX9_big_91 : decode cX9_big 91 = .ok (.getfield 218, 3) := by decide +kernel
theorem dX9_big_94 : decode cX9_big 94 = .ok (.goto 19, 3) := by decide +kernel
theorem dX9_big_97 : decode cX9_big 97 = .ok (.iload_n 1, 1) := by decide +kernel
theorem dX9_big_98 : decode cX9_big 98 = .ok (.iconst 2, 1) := by decide +kernel
theorem dX9_big_99 : decode cX9_big 99 = .ok (.if_icmp .ne 10, 3) := by decide +kernel
theorem dX9_big_102 : decode cX9_big 102 = .ok (.aload_n 0, 1) := by decide +kernel
theorem dX9_big_103 : decode cX9_big 103 = .ok (.getfield 221, 3) := by decide +kernel
theorem dX9_big_106 : decode cX9_big 106 = .ok (.goto 7, 3) := by decide +kernel
theorem dX9_big_109 : decode cX9_big 109 = .ok (.aload_n 0, 1) := by decide +kernel
theorem dX9_big_110 : decode cX9_big 110 = .ok (.getfield 224, 3) := by decide +kernel
theorem dX9_big_113 : decode cX9_big 113 = .ok (.ireturn, 1) := by decide +kernel
set_option maxRecDepth 20000 in
theorem ggX9_parts_X9_wanted : GoodIn wsX9_parts wsX9_wanted := goodIn_r _ [8, 9, 10, 11, 12, 7, 13, 57, 58, 59, 60, 61, 62, 63, 64, 65, 66, 67, 68, 69, 70, 71, 72, 73, 74, 75, 76, 77, 78, 79, 80, 81, 82, 83, 84, 85, 86, 87, 88, 89, 90, 91, 92, 93, 94, 95, 96] (by decide +kernel) (by decide +kernel)
set_option maxRecDepth 20000 in
theorem gX9_parts_X9_wanted : GoodIn wsX9_parts (wsV RX9 183 RX9 yX9_wanted wsX9_wanted) := goodIn_app (goodIn_of _ (by decide +kernel)) ggX9_parts_X9_wanted
set_option maxRecDepth 20000 in
theorem ggX9_parts_X9_noFar : GoodIn wsX9_parts wsX9_noFar := goodIn_r _ [17, 18, 19, 57, 58, 59, 60, 61, 62, 63, 64, 65, 66, 67, 68, 69, 70, 71, 72, 73, 74, 75, 76, 77, 78, 79, 80, 81, 82, 83, 84, 85, 86, 87, 88, 89, 90, 91, 92, 93, 94, 95, 96] (by decide +kernel) (by decide +kernel)
set_option maxRecDepth 20000 in
theorem gX9_parts_X9_noFar : GoodIn wsX9_parts (wsV RX9 105 RX9 yX9_noFar wsX9_noFar) := goodIn_app (goodIn_of _ (by decide +kernel)) ggX9_parts_X9_noFar
set_option maxRecDepth 20000 in
theorem ggX9_parts_X9_intAt : GoodIn wsX9_parts wsX9_intAt := goodIn_r _ [23, 24, 57, 58, 59, 60, 61, 62, 63, 64, 65, 66, 67, 68, 69, 70, 71, 72, 73, 74, 75, 76, 77, 78, 79, 80, 81, 82, 83, 84, 85, 86, 87, 88, 89, 90, 91, 92, 93, 94, 95, 96] (by decide +kernel) (by decide +kernel)
set_option maxRecDepth 20000 in
theorem gX9_parts_X9_intAt : GoodIn wsX9_parts (wsV RX9 235 RX9 yX9_intAt wsX9_intAt) := goodIn_app (goodIn_of _ (by decide +kernel)) ggX9_parts_X9_intAt
set_option maxRecDepth 20000 in
theorem ggX9_parts_X9_rises : GoodIn wsX9_parts wsX9_rises := goodIn_r _ [28, 29, 30, 31, 7, 32, 33, 34, 35, 36, 37, 38, 39, 40, 41, 42, 43, 44, 45, 46, 47, 48, 49, 50, 51, 52, 53, 54, 55, 56, 57, 58, 59, 60, 61, 62, 63, 64, 65, 66, 67, 68, 69, 70, 71, 72, 73, 74, 75, 76, 77, 78, 79, 80, 81, 82, 83, 84, 85, 86, 87, 88, 89, 90, 91, 92, 93, 94, 95, 96] (by decide +kernel) (by decide +kernel)
set_option maxRecDepth 20000 in
theorem gX9_parts_X9_rises : GoodIn wsX9_parts (wsV RX9 196 RX9 yX9_rises wsX9_rises) := goodIn_app (goodIn_of _ (by decide +kernel)) ggX9_parts_X9_rises
theorem dX9_parts_0 : decode cX9_parts 0 = .ok (.aload_n 0, 1) := by decide +kernel
theorem dX9_parts_1 : decode cX9_parts 1 = .ok (.iload_n 1, 1) := by decide +kernel
theorem dX9_parts_2 : decode cX9_parts 2 = .ok (.invokevirtual 183, 3) := by decide +kernel
theorem dX9_parts_5 : decode cX9_parts 5 = .ok (.istore_n 3, 1) := by decide +kernel
theorem dX9_parts_6 : decode cX9_parts 6 = .ok (.iload_n 3, 1) := by decide +kernel
theorem dX9_parts_7 : decode cX9_parts 7 = .ok (.ifCond .ne 35, 3) := by decide +kernel
theorem dX9_parts_10 : decode cX9_parts 10 = .ok (.aload_n 0, 1) := by decide +kernel
theorem dX9_parts_11 : decode cX9_parts 11 = .ok (.getfield 56, 3) := by decide +kernel
theorem dX9_parts_14 : decode cX9_parts 14 = .ok (.iload_n 1, 1) := by decide +kernel
theorem dX9_parts_15 : decode cX9_parts 15 = .ok (.iaload, 1) := by decide +kernel
theorem dX9_parts_16 : decode cX9_parts 16 = .ok (.aload_n 0, 1) := by decide +kernel
theorem dX9_parts_17 : decode cX9_parts 17 = .ok (.getfield 91, 3) := by decide +kernel
theorem dX9_parts_20 : decode cX9_parts 20 = .ok (.if_icmp .lt 19, 3) := by decide +kernel
theorem dX9_parts_23 : decode cX9_parts 23 = .ok (.iload_n 2, 1) := by decide +kernel
theorem dX9_parts_24 : decode cX9_parts 24 = .ok (.ifCond .lt 15, 3) := by decide +kernel
theorem dX9_parts_27 : decode cX9_parts 27 = .ok (.iload_n 2, 1) := by decide +kernel
theorem dX9_parts_28 : decode cX9_parts 28 = .ok (.iconst 1, 1) := by decide +kernel
theorem dX9_parts_29 : decode cX9_parts 29 = .ok (.if_icmp .gt 10, 3) := by decide +kernel
theorem dX9_parts_32 : decode cX9_parts 32 = .ok (.aload_n 0, 1) := by decide +kernel
theorem dX9_parts_33 : decode cX9_parts 33 = .ok (.getfield 91, 3) := by decide +kernel
theorem dX9_parts_36 : decode cX9_parts 36 = .ok (.ifCond .ne 6, 3) := by decide +kernel
theorem dX9_parts_39 : decode cX9_parts 39 = .ok (.bipush (-5), 2) := by decide +kernel
theorem dX9_parts_41 : decode cX9_parts 41 = .ok (.istore_n 3, 1) := by decide +kernel
theorem dX9_parts_42 : decode cX9_parts 42 = .ok (.iload_n 3, 1) := by decide +kernel
theorem dX9_parts_43 : decode cX9_parts 43 = .ok (.ifCond .eq 9, 3) := by decide +kernel
theorem dX9_parts_46 : decode cX9_parts 46 = .ok (.aload_n 0, 1) := by decide +kernel
theorem dX9_parts_47 : decode cX9_parts 47 = .ok (.iload_n 3, 1) := by decide +kernel
theorem dX9_parts_48 : decode cX9_parts 48 = .ok (.invokevirtual 105, 3) := by decide +kernel
theorem dX9_parts_51 : decode cX9_parts 51 = .ok (.ireturn, 1) := by decide +kernel
theorem dX9_parts_52 : decode cX9_parts 52 = .ok (.iconst 0, 1) := by decide +kernel
theorem dX9_parts_53 : decode cX9_parts 53 = .ok (.istore 4, 2) := by decide +kernel
theorem dX9_parts_55 : decode cX9_parts 55 = .ok (.aload_n 0, 1) := by decide +kernel
theorem dX9_parts_56 : decode cX9_parts 56 = .ok (.getfield 134, 3) := by decide +kernel
theorem dX9_parts_59 : decode cX9_parts 59 = .ok (.istore 5, 2) := by decide +kernel
theorem dX9_parts_61 : decode cX9_parts 61 = .ok (.iconst (-1), 1) := by decide +kernel
theorem dX9_parts_62 : decode cX9_parts 62 = .ok (.istore 6, 2) := by decide +kernel
theorem dX9_parts_64 : decode cX9_parts 64 = .ok (.lconst 0, 1) := by decide +kernel
theorem dX9_parts_65 : decode cX9_parts 65 = .ok (.lstore 7, 2) := by decide +kernel
theorem dX9_parts_67 : decode cX9_parts 67 = .ok (.iconst 1, 1) := by decide +kernel
theorem dX9_parts_68 : decode cX9_parts 68 = .ok (.istore 9, 2) := by decide +kernel
theorem dX9_parts_70 : decode cX9_parts 70 = .ok (.iload 9, 2) := by decide +kernel
theorem dX9_parts_72 : decode cX9_parts 72 = .ok (.aload_n 0, 1) := by decide +kernel
theorem dX9_parts_73 : decode cX9_parts 73 = .ok (.getfield 91, 3) := by decide +kernel
theorem dX9_parts_76 : decode cX9_parts 76 = .ok (.if_icmp .gt 129, 3) := by decide +kernel
theorem dX9_parts_79 : decode cX9_parts 79 = .ok (.iload 9, 2) := by decide +kernel
theorem dX9_parts_81 : decode cX9_parts 81 = .ok (.aload_n 0, 1) := by decide +kernel
theorem dX9_parts_82 : decode cX9_parts 82 = .ok (.getfield 91, 3) := by decide +kernel
theorem dX9_parts_85 : decode cX9_parts 85 = .ok (.if_icmp .ne 10, 3) := by decide +kernel
theorem dX9_parts_88 : decode cX9_parts 88 = .ok (.aload_n 0, 1) := by decide +kernel
theorem dX9_parts_89 : decode cX9_parts 89 = .ok (.getfield 134, 3) := by decide +kernel
theorem dX9_parts_92 : decode cX9_parts 92 = .ok (.goto 10, 3) := by decide +kernel
theorem dX9_parts_95 : decode cX9_parts 95 = .ok (.aload_n 0, 1) := by decide +kernel
theorem dX9_parts_96 : decode cX9_parts 96 = .ok (.iload_n 1, 1) := by decide +kernel
theorem dX9_parts_97 : decode cX9_parts 97 = .ok (.iload 9, 2) := by decide +kernel
theorem dX9_parts_99 : decode cX9_parts 99 = .ok (.invokevirtual 235, 3) := by decide +kernel
theorem dX9_parts_102 : decode cX9_parts 102 = .ok (.istore 10, 2) := by decide +kernel
theorem dX9_parts_104 : decode cX9_parts 104 = .ok (.iload 10, 2) := by decide +kernel
theorem dX9_parts_106 : decode cX9_parts 106 = .ok (.sipush (-32768), 3) := by decide +kernel
theorem dX9_parts_109 : decode cX9_parts 109 = .ok (.if_icmp .ne 15, 3) := by decide +kernel
theorem dX9_parts_112 : decode cX9_parts 112 = .ok (.iload 9, 2) := by decide +kernel
theorem dX9_parts_114 : decode cX9_parts 114 = .ok (.aload_n 0, 1) := by decide +kernel
theorem dX9_parts_115 : decode cX9_parts 115 = .ok (.getfield 91, 3) := by decide +kernel
theorem dX9_parts_118 : decode cX9_parts 118 = .ok (.if_icmp .ge 6, 3) := by decide +kernel
theorem dX9_parts_121 : decode cX9_parts 121 = .ok (.goto 78, 3) := by decide +kernel
theorem dX9_parts_124 : decode cX9_parts 124 = .ok (.aload_n 0, 1) := by decide +kernel
theorem dX9_parts_125 : decode cX9_parts 125 = .ok (.iload 4, 2) := by decide +kernel
theorem dX9_parts_127 : decode cX9_parts 127 = .ok (.iload 9, 2) := by decide +kernel
theorem dX9_parts_129 : decode cX9_parts 129 = .ok (.invokevirtual 196, 3) := by decide +kernel
theorem dX9_parts_132 : decode cX9_parts 132 = .ok (.i2l, 1) := by decide +kernel
theorem dX9_parts_133 : decode cX9_parts 133 = .ok (.iload 10, 2) := by decide +kernel
theorem dX9_parts_135 : decode cX9_parts 135 = .ok (.i2l, 1) := by decide +kernel
theorem dX9_parts_136 : decode cX9_parts 136 = .ok (.iload 5, 2) := by decide +kernel
theorem dX9_parts_138 : decode cX9_parts 138 = .ok (.i2l, 1) := by decide +kernel
theorem dX9_parts_139 : decode cX9_parts 139 = .ok (.lsub, 1) := by decide +kernel
theorem dX9_parts_140 : decode cX9_parts 140 = .ok (.lsub, 1) := by decide +kernel
theorem dX9_parts_141 : decode cX9_parts 141 = .ok (.lstore 11, 2) := by decide +kernel
theorem dX9_parts_143 : decode cX9_parts 143 = .ok (.iload 6, 2) := by decide +kernel
theorem dX9_parts_145 : decode cX9_parts 145 = .ok (.iconst (-1), 1) := by decide +kernel
theorem dX9_parts_146 : decode cX9_parts 146 = .ok (.if_icmp .eq 37, 3) := by decide +kernel
theorem dX9_parts_149 : decode cX9_parts 149 = .ok (.lload 11, 2) := by decide +kernel
theorem dX9_parts_151 : decode cX9_parts 151 = .ok (.lconst 0, 1) := by decide +kernel
theorem dX9_parts_152 : decode cX9_parts 152 = .ok (.lcmp, 1) := by decide +kernel
theorem dX9_parts_153 : decode cX9_parts 153 = .ok (.ifCond .ge 9, 3) := by decide +kernel
theorem dX9_parts_156 : decode cX9_parts 156 = .ok (.lload 11, 2) := by decide +kernel
theorem dX9_parts_158 : decode cX9_parts 158 = .ok (.lneg, 1) := by decide +kernel
theorem dX9_parts_159 : decode cX9_parts 159 = .ok (.goto 5, 3) := by decide +kernel
theorem dX9_parts_162 : decode cX9_parts 162 = .ok (.lload 11, 2) := by decide +kernel
theorem dX9_parts_164 : decode cX9_parts 164 = .ok (.lload 7, 2) := by decide +kernel
theorem dX9_parts_166 : decode cX9_parts 166 = .ok (.lconst 0, 1) := by decide +kernel
theorem dX9_parts_167 : decode cX9_parts 167 = .ok (.lcmp, 1) := by decide +kernel
theorem dX9_parts_168 : decode cX9_parts 168 = .ok (.ifCond .ge 9, 3) := by decide +kernel
theorem dX9_parts_171 : decode cX9_parts 171 = .ok (.lload 7, 2) := by decide +kernel
theorem dX9_parts_173 : decode cX9_parts 173 = .ok (.lneg, 1) := by decide +kernel
theorem dX9_parts_174 : decode cX9_parts 174 = .ok (.goto 5, 3) := by decide +kernel
theorem dX9_parts_177 : decode cX9_parts 177 = .ok (.lload 7, 2) := by decide +kernel
theorem dX9_parts_179 : decode cX9_parts 179 = .ok (.lcmp, 1) := by decide +kernel
theorem dX9_parts_180 : decode cX9_parts 180 = .ok (.ifCond .le 11, 3) := by decide +kernel
theorem dX9_parts_183 : decode cX9_parts 183 = .ok (.iload 4, 2) := by decide +kernel
theorem dX9_parts_185 : decode cX9_parts 185 = .ok (.istore 6, 2) := by decide +kernel
theorem dX9_parts_187 : decode cX9_parts 187 = .ok (.lload 11, 2) := by decide +kernel
theorem dX9_parts_189 : decode cX9_parts 189 = .ok (.lstore 7, 2) := by decide +kernel
theorem dX9_parts_191 : decode cX9_parts 191 = .ok (.iload 9, 2) := by decide +kernel
theorem dX9_parts_193 : decode cX9_parts 193 = .ok (.istore 4, 2) := by decide +kernel
theorem dX9_parts_195 : decode cX9_parts 195 = .ok (.iload 10, 2) := by decide +kernel
theorem dX9_parts_197 : decode cX9_parts 197 = .ok (.istore 5, 2) := by decide +kernel
theorem dX9_parts_199 : decode cX9_parts 199 = .ok (.iinc 9 1, 3) := by decide +kernel
theorem dX9_parts_202 : decode cX9_parts 202 = .ok (.goto (-132), 3) := by decide +kernel
theorem dX9_parts_205 : decode cX9_parts 205 = .ok (.iload_n 2, 1) := by decide +kernel
theorem dX9_parts_206 : decode cX9_parts 206 = .ok (.ifCond .ne 8, 3) := by decide +kernel
theorem dX9_parts_209 : decode cX9_parts 209 = .ok (.iload 6, 2) := by decide +kernel
theorem dX9_parts_211 : decode cX9_parts 211 = .ok (.goto 6, 3) := by decide +kernel
theorem dX9_parts_214 : decode cX9_parts 214 = .ok (.lload 7, 2) := by decide +kernel
theorem dX9_parts_216 : decode cX9_parts 216 = .ok (.l2i, 1) := by decide +kernel
theorem dX9_parts_217 : decode cX9_parts 217 = .ok (.ireturn, 1) := by decide +kernel
theorem dX9_weight_0 : decode cX9_weight 0 = .ok (.aload_n 0, 1) := by decide +kernel
theorem dX9_weight_1 : decode cX9_weight 1 = .ok (.getfield 26, 3) := by decide +kernel
theorem dX9_weight_4 : decode cX9_weight 4 = .ok (.iload_n 1, 1) := by decide +kernel
theorem dX9_weight_5 : decode cX9_weight 5 = .ok (.iaload, 1) := by decide +kernel
theorem dX9_weight_6 : decode cX9_weight 6 = .ok (.istore_n 2, 1) := by decide +kernel
theorem dX9_weight_7 : decode cX9_weight 7 = .ok (.iload_n 2, 1) := by decide +kernel
theorem dX9_weight_8 : decode cX9_weight 8 = .ok (.ifCond .ne 7, 3) := by decide +kernel
theorem dX9_weight_11 : decode cX9_weight 11 = .ok (.iconst 1, 1) := by decide +kernel
theorem dX9_weight_12 : decode cX9_weight 12 = .ok (.goto 23, 3) := by decide +kernel
theorem dX9_weight_15 : decode cX9_weight 15 = .ok (.iload_n 2, 1) := by decide +kernel
theorem dX9_weight_16 : decode cX9_weight 16 = .ok (.iconst 1, 1) := by decide +kernel
theorem dX9_weight_17 : decode cX9_weight 17 = .ok (.if_icmp .eq 13, 3) := by decide +kernel
theorem dX9_weight_20 : decode cX9_weight 20 = .ok (.iload_n 2, 1) := by decide +kernel
theorem dX9_weight_21 : decode cX9_weight 21 = .ok (.iconst 2, 1) := by decide +kernel
theorem dX9_weight_22 : decode cX9_weight 22 = .ok (.if_icmp .eq 8, 3) := by decide +kernel
theorem dX9_weight_25 : decode cX9_weight 25 = .ok (.iload_n 2, 1) := by decide +kernel
theorem dX9_weight_26 : decode cX9_weight 26 = .ok (.iconst 4, 1) := by decide +kernel
theorem dX9_weight_27 : decode cX9_weight 27 = .ok (.if_icmp .ne 7, 3) := by decide +kernel
theorem dX9_weight_30 : decode cX9_weight 30 = .ok (.iconst 2, 1) := by decide +kernel
theorem dX9_weight_31 : decode cX9_weight 31 = .ok (.goto 4, 3) := by decide +kernel
theorem dX9_weight_34 : decode cX9_weight 34 = .ok (.iconst 3, 1) := by decide +kernel
theorem dX9_weight_35 : decode cX9_weight 35 = .ok (.ireturn, 1) := by decide +kernel
set_option maxRecDepth 20000 in
theorem ggX9_again_X9_noTen : GoodIn wsX9_again wsX9_noTen := goodIn_r _ [6, 7, 19, 20, 21, 22, 23, 24, 25, 26, 27, 28, 29, 30, 31, 32, 33, 34, 35, 36, 37, 38, 39, 40, 41, 42, 43, 44, 45, 46, 47, 48, 49, 50, 51, 52, 53, 54, 55, 56, 57, 58] (by decide +kernel) (by decide +kernel)
set_option maxRecDepth 20000 in
theorem gX9_again_X9_noTen : GoodIn wsX9_again (wsV RX9 238 RX9 yX9_noTen wsX9_noTen) := goodIn_app (goodIn_of _ (by decide +kernel)) ggX9_again_X9_noTen
set_option maxRecDepth 20000 in
theorem ggX9_again_X9_yards : GoodIn wsX9_again wsX9_yards := goodIn_r _ [11, 12, 13, 19, 20, 21, 22, 23, 24, 25, 26, 27, 28, 29, 30, 31, 32, 33, 34, 35, 36, 37, 38, 39, 40, 41, 42, 43, 44, 45, 46, 47, 48, 49, 50, 51, 52, 53, 54, 55, 56, 57, 58] (by decide +kernel) (by decide +kernel)
set_option maxRecDepth 20000 in
theorem gX9_again_X9_yards : GoodIn wsX9_again (wsV RX9 241 RX9 yX9_yards wsX9_yards) := goodIn_app (goodIn_of _ (by decide +kernel)) ggX9_again_X9_yards
set_option maxRecDepth 20000 in
theorem ggX9_again_X9_weight : GoodIn wsX9_again wsX9_weight := goodIn_r _ [17, 18, 19, 20, 21, 22, 23, 24, 25, 26, 27, 28, 29, 30, 31, 32, 33, 34, 35, 36, 37, 38, 39, 40, 41, 42, 43, 44, 45, 46, 47, 48, 49, 50, 51, 52, 53, 54, 55, 56, 57, 58] (by decide +kernel) (by decide +kernel)
set_option maxRecDepth 20000 in
theorem gX9_again_X9_weight : GoodIn wsX9_again (wsV RX9 244 RX9 yX9_weight wsX9_weight) := goodIn_app (goodIn_of _ (by decide +kernel)) ggX9_again_X9_weight
theorem dX9_again_0 : decode cX9_again 0 = .ok (.iload_n 1, 1) := by decide +kernel
theorem dX9_again_1 : decode cX9_again 1 = .ok (.ifCond .ge 10, 3) := by decide +kernel
theorem dX9_again_4 : decode cX9_again 4 = .ok (.aload_n 0, 1) := by decide +kernel
theorem dX9_again_5 : decode cX9_again 5 = .ok (.bipush (-6), 2) := by decide +kernel
theorem dX9_again_7 : decode cX9_again 7 = .ok (.invokevirtual 238, 3) := by decide +kernel
theorem dX9_again_10 : decode cX9_again 10 = .ok (.ireturn, 1) := by decide +kernel
theorem dX9_again_11 : decode cX9_again 11 = .ok (.iconst (-1), 1) := by decide +kernel
theorem dX9_again_12 : decode cX9_again 12 = .ok (.istore_n 2, 1) := by decide +kernel
theorem dX9_again_13 : decode cX9_again 13 = .ok (.iconst 0, 1) := by decide +kernel
theorem dX9_again_14 : decode cX9_again 14 = .ok (.istore_n 3, 1) := by decide +kernel
theorem dX9_again_15 : decode cX9_again 15 = .ok (.iconst 0, 1) := by decide +kernel
theorem dX9_again_16 : decode cX9_again 16 = .ok (.istore 4, 2) := by decide +kernel
theorem dX9_again_18 : decode cX9_again 18 = .ok (.iload 4, 2) := by decide +kernel
theorem dX9_again_20 : decode cX9_again 20 = .ok (.aload_n 0, 1) := by decide +kernel
theorem dX9_again_21 : decode cX9_again 21 = .ok (.getfield 91, 3) := by decide +kernel
theorem dX9_again_24 : decode cX9_again 24 = .ok (.if_icmp .ge 82, 3) := by decide +kernel
theorem dX9_again_27 : decode cX9_again 27 = .ok (.iconst 0, 1) := by decide +kernel
theorem dX9_again_28 : decode cX9_again 28 = .ok (.istore 5, 2) := by decide +kernel
theorem dX9_again_30 : decode cX9_again 30 = .ok (.iload 4, 2) := by decide +kernel
theorem dX9_again_32 : decode cX9_again 32 = .ok (.istore 6, 2) := by decide +kernel
theorem dX9_again_34 : decode cX9_again 34 = .ok (.iload 6, 2) := by decide +kernel
theorem dX9_again_36 : decode cX9_again 36 = .ok (.aload_n 0, 1) := by decide +kernel
theorem dX9_again_37 : decode cX9_again 37 = .ok (.getfield 91, 3) := by decide +kernel
theorem dX9_again_40 : decode cX9_again 40 = .ok (.if_icmp .ge 60, 3) := by decide +kernel
theorem dX9_again_43 : decode cX9_again 43 = .ok (.aload_n 0, 1) := by decide +kernel
theorem dX9_again_44 : decode cX9_again 44 = .ok (.iload 4, 2) := by decide +kernel
theorem dX9_again_46 : decode cX9_again 46 = .ok (.iload 6, 2) := by decide +kernel
theorem dX9_again_48 : decode cX9_again 48 = .ok (.iconst 1, 1) := by decide +kernel
theorem dX9_again_49 : decode cX9_again 49 = .ok (.iadd, 1) := by decide +kernel
theorem dX9_again_50 : decode cX9_again 50 = .ok (.invokevirtual 241, 3) := by decide +kernel
theorem dX9_again_53 : decode cX9_again 53 = .ok (.iload_n 1, 1) := by decide +kernel
theorem dX9_again_54 : decode cX9_again 54 = .ok (.if_icmp .gt 46, 3) := by decide +kernel
theorem dX9_again_57 : decode cX9_again 57 = .ok (.iload 5, 2) := by decide +kernel
theorem dX9_again_59 : decode cX9_again 59 = .ok (.aload_n 0, 1) := by decide +kernel
theorem dX9_again_60 : decode cX9_again 60 = .ok (.iload 6, 2) := by decide +kernel
theorem dX9_again_62 : decode cX9_again 62 = .ok (.invokevirtual 244, 3) := by decide +kernel
theorem dX9_again_65 : decode cX9_again 65 = .ok (.iadd, 1) := by decide +kernel
theorem dX9_again_66 : decode cX9_again 66 = .ok (.istore 5, 2) := by decide +kernel
theorem dX9_again_68 : decode cX9_again 68 = .ok (.iload_n 2, 1) := by decide +kernel
theorem dX9_again_69 : decode cX9_again 69 = .ok (.iconst (-1), 1) := by decide +kernel
theorem dX9_again_70 : decode cX9_again 70 = .ok (.if_icmp .eq 12, 3) := by decide +kernel
theorem dX9_again_73 : decode cX9_again 73 = .ok (.iload 5, 2) := by decide +kernel
theorem dX9_again_75 : decode cX9_again 75 = .ok (.iload_n 3, 1) := by decide +kernel
theorem dX9_again_76 : decode cX9_again 76 = .ok (.if_icmp .gt 6, 3) := by decide +kernel
theorem dX9_again_79 : decode cX9_again 79 = .ok (.goto 15, 3) := by decide +kernel
theorem dX9_again_82 : decode cX9_again 82 = .ok (.bipush 100, 2) := by decide +kernel
theorem dX9_again_84 : decode cX9_again 84 = .ok (.iload 4, 2) := by decide +kernel
theorem dX9_again_86 : decode cX9_again 86 = .ok (.imul, 1) := by decide +kernel
theorem dX9_again_87 : decode cX9_again 87 = .ok (.iload 6, 2) := by decide +kernel
theorem dX9_again_89 : decode cX9_again 89 = .ok (.iadd, 1) := by decide +kernel
theorem dX9_again_90 : decode cX9_again 90 = .ok (.istore_n 2, 1) := by decide +kernel
theorem dX9_again_91 : decode cX9_again 91 = .ok (.iload 5, 2) := by decide +kernel
theorem dX9_again_93 : decode cX9_again 93 = .ok (.istore_n 3, 1) := by decide +kernel
theorem dX9_again_94 : decode cX9_again 94 = .ok (.iinc 6 1, 3) := by decide +kernel
theorem dX9_again_97 : decode cX9_again 97 = .ok (.goto (-63), 3) := by decide +kernel
theorem dX9_again_100 : decode cX9_again 100 = .ok (.iinc 4 1, 3) := by decide +kernel
theorem dX9_again_103 : decode cX9_again 103 = .ok (.goto (-85), 3) := by decide +kernel
theorem dX9_again_106 : decode cX9_again 106 = .ok (.iload_n 2, 1) := by decide +kernel
theorem dX9_again_107 : decode cX9_again 107 = .ok (.ireturn, 1) := by decide +kernel
set_option maxRecDepth 20000 in
theorem ggX9_order_X9_noFar : GoodIn wsX9_order wsX9_noFar := goodIn_r _ [7, 8, 9, 19, 20, 21, 22, 23, 24, 25, 26, 27, 28, 29, 30, 31, 32, 33, 34, 35, 36, 37, 38, 39, 40, 41, 42, 43, 44, 45, 46, 47, 48, 49, 50, 51, 52, 53, 54, 55, 56, 57, 58] (by decide +kernel) (by decide +kernel)
set_option maxRecDepth 20000 in
theorem gX9_order_X9_noFar : GoodIn wsX9_order (wsV RX9 105 RX9 yX9_noFar wsX9_noFar) := goodIn_app (goodIn_of _ (by decide +kernel)) ggX9_order_X9_noFar
set_option maxRecDepth 20000 in
theorem ggX9_order_X9_sinks : GoodIn wsX9_order wsX9_sinks := goodIn_r _ [13, 2, 14, 19, 20, 21, 22, 23, 24, 25, 26, 27, 28, 29, 30, 31, 32, 33, 34, 35, 36, 37, 38, 39, 40, 41, 42, 43, 44, 45, 46, 47, 48, 49, 50, 51, 52, 53, 54, 55, 56, 57, 58] (by decide +kernel) (by decide +kernel)
set_option maxRecDepth 20000 in
theorem gX9_order_X9_sinks : GoodIn wsX9_order (wsV RX9 108 RX9 yX9_sinks wsX9_sinks) := goodIn_app (goodIn_of _ (by decide +kernel)) ggX9_order_X9_sinks
set_option maxRecDepth 20000 in
theorem ggX9_order_X9_abs : GoodIn wsX9_order wsX9_abs := goodIn_r _ [18] (by decide +kernel) (by decide +kernel)
set_option maxRecDepth 20000 in
theorem gX9_order_X9_abs : GoodIn wsX9_order (wsV RX9 205 RX9 yX9_abs wsX9_abs) := goodIn_app (goodIn_of _ (by decide +kernel)) ggX9_order_X9_abs
theorem dX9_order_0 : decode cX9_order 0 = .ok (.iload_n 1, 1) := by decide +kernel
theorem dX9_order_1 : decode cX9_order 1 = .ok (.ifCond .lt 8, 3) := by decide +kernel
theorem dX9_order_4 : decode cX9_order 4 = .ok (.iload_n 1, 1) := by decide +kernel
theorem dX9_order_5 : decode cX9_order 5 = .ok (.iconst 1, 1) := by decide +kernel
theorem dX9_order_6 : decode cX9_order 6 = .ok (.if_icmp .le 10, 3) := by decide +kernel
theorem dX9_order_9 : decode cX9_order 9 = .ok (.aload_n 0, 1) := by decide +kernel
theorem dX9_order_10 : decode cX9_order 10 = .ok (.bipush (-5), 2) := by decide +kernel
theorem dX9_order_12 : decode cX9_order 12 = .ok (.invokevirtual 105, 3) := by decide +kernel
theorem dX9_order_15 : decode cX9_order 15 = .ok (.ireturn, 1) := by decide +kernel
theorem dX9_order_16 : decode cX9_order 16 = .ok (.iconst 0, 1) := by decide +kernel
theorem dX9_order_17 : decode cX9_order 17 = .ok (.istore_n 2, 1) := by decide +kernel
theorem dX9_order_18 : decode cX9_order 18 = .ok (.iconst 0, 1) := by decide +kernel
theorem dX9_order_19 : decode cX9_order 19 = .ok (.istore_n 3, 1) := by decide +kernel
theorem dX9_order_20 : decode cX9_order 20 = .ok (.iconst 0, 1) := by decide +kernel
theorem dX9_order_21 : decode cX9_order 21 = .ok (.istore 4, 2) := by decide +kernel
theorem dX9_order_23 : decode cX9_order 23 = .ok (.iconst 0, 1) := by decide +kernel
theorem dX9_order_24 : decode cX9_order 24 = .ok (.istore 5, 2) := by decide +kernel
theorem dX9_order_26 : decode cX9_order 26 = .ok (.iload 5, 2) := by decide +kernel
theorem dX9_order_28 : decode cX9_order 28 = .ok (.aload_n 0, 1) := by decide +kernel
theorem dX9_order_29 : decode cX9_order 29 = .ok (.getfield 91, 3) := by decide +kernel
theorem dX9_order_32 : decode cX9_order 32 = .ok (.if_icmp .ge 38, 3) := by decide +kernel
theorem dX9_order_35 : decode cX9_order 35 = .ok (.aload_n 0, 1) := by decide +kernel
theorem dX9_order_36 : decode cX9_order 36 = .ok (.getfield 26, 3) := by decide +kernel
theorem dX9_order_39 : decode cX9_order 39 = .ok (.iload 5, 2) := by decide +kernel
theorem dX9_order_41 : decode cX9_order 41 = .ok (.iaload, 1) := by decide +kernel
theorem dX9_order_42 : decode cX9_order 42 = .ok (.iconst 2, 1) := by decide +kernel
theorem dX9_order_43 : decode cX9_order 43 = .ok (.if_icmp .eq 14, 3) := by decide +kernel
theorem dX9_order_46 : decode cX9_order 46 = .ok (.aload_n 0, 1) := by decide +kernel
theorem dX9_order_47 : decode cX9_order 47 = .ok (.getfield 26, 3) := by decide +kernel
theorem dX9_order_50 : decode cX9_order 50 = .ok (.iload 5, 2) := by decide +kernel
theorem dX9_order_52 : decode cX9_order 52 = .ok (.iaload, 1) := by decide +kernel
theorem dX9_order_53 : decode cX9_order 53 = .ok (.iconst 5, 1) := by decide +kernel
theorem dX9_order_54 : decode cX9_order 54 = .ok (.if_icmp .ne 10, 3) := by decide +kernel
theorem dX9_order_57 : decode cX9_order 57 = .ok (.iload_n 2, 1) := by decide +kernel
theorem dX9_order_58 : decode cX9_order 58 = .ok (.iconst 1, 1) := by decide +kernel
theorem dX9_order_59 : decode cX9_order 59 = .ok (.iload 5, 2) := by decide +kernel
theorem dX9_order_61 : decode cX9_order 61 = .ok (.ishl, 1) := by decide +kernel
theorem dX9_order_62 : decode cX9_order 62 = .ok (.ior, 1) := by decide +kernel
theorem dX9_order_63 : decode cX9_order 63 = .ok (.istore_n 2, 1) := by decide +kernel
theorem dX9_order_64 : decode cX9_order 64 = .ok (.iinc 5 1, 3) := by decide +kernel
theorem dX9_order_67 : decode cX9_order 67 = .ok (.goto (-41), 3) := by decide +kernel
theorem dX9_order_70 : decode cX9_order 70 = .ok (.iconst 0, 1) := by decide +kernel
theorem dX9_order_71 : decode cX9_order 71 = .ok (.istore 5, 2) := by decide +kernel
theorem dX9_order_73 : decode cX9_order 73 = .ok (.iconst 0, 1) := by decide +kernel
theorem dX9_order_74 : decode cX9_order 74 = .ok (.istore 6, 2) := by decide +kernel
theorem dX9_order_76 : decode cX9_order 76 = .ok (.iload 6, 2) := by decide +kernel
theorem dX9_order_78 : decode cX9_order 78 = .ok (.iload_n 2, 1) := by decide +kernel
theorem dX9_order_79 : decode cX9_order 79 = .ok (.if_icmp .gt 119, 3) := by decide +kernel
theorem dX9_order_82 : decode cX9_order 82 = .ok (.iload 6, 2) := by decide +kernel
theorem dX9_order_84 : decode cX9_order 84 = .ok (.iload_n 2, 1) := by decide +kernel
theorem dX9_order_85 : decode cX9_order 85 = .ok (.iand, 1) := by decide +kernel
theorem dX9_order_86 : decode cX9_order 86 = .ok (.iload 6, 2) := by decide +kernel
theorem dX9_order_88 : decode cX9_order 88 = .ok (.if_icmp .eq 6, 3) := by decide +kernel
theorem dX9_order_91 : decode cX9_order 91 = .ok (.goto 101, 3) := by decide +kernel
theorem dX9_order_94 : decode cX9_order 94 = .ok (.iconst 0, 1) := by decide +kernel
theorem dX9_order_95 : decode cX9_order 95 = .ok (.istore 7, 2) := by decide +kernel
theorem dX9_order_97 : decode cX9_order 97 = .ok (.iconst 0, 1) := by decide +kernel
theorem dX9_order_98 : decode cX9_order 98 = .ok (.istore 8, 2) := by decide +kernel
theorem dX9_order_100 : decode cX9_order 100 = .ok (.iload 8, 2) := by decide +kernel
theorem dX9_order_102 : decode cX9_order 102 = .ok (.aload_n 0, 1) := by decide +kernel
theorem dX9_order_103 : decode cX9_order 103 = .ok (.getfield 91, 3) := by decide +kernel
theorem dX9_order_106 : decode cX9_order 106 = .ok (.if_icmp .ge 53, 3) := by decide +kernel
theorem dX9_order_109 : decode cX9_order 109 = .ok (.iload_n 2, 1) := by decide +kernel
theorem dX9_order_110 : decode cX9_order 110 = .ok (.iload 8, 2) := by decide +kernel
theorem dX9_order_112 : decode cX9_order 112 = .ok (.ishr, 1) := by decide +kernel
theorem dX9_order_113 : decode cX9_order 113 = .ok (.iconst 1, 1) := by decide +kernel
theorem dX9_order_114 : decode cX9_order 114 = .ok (.iand, 1) := by decide +kernel
theorem dX9_order_115 : decode cX9_order 115 = .ok (.ifCond .ne 6, 3) := by decide +kernel
theorem dX9_order_118 : decode cX9_order 118 = .ok (.goto 35, 3) := by decide +kernel
theorem dX9_order_121 : decode cX9_order 121 = .ok (.iload 7, 2) := by decide +kernel
theorem dX9_order_123 : decode cX9_order 123 = .ok (.iload 6, 2) := by decide +kernel
theorem dX9_order_125 : decode cX9_order 125 = .ok (.iload 8, 2) := by decide +kernel
theorem dX9_order_127 : decode cX9_order 127 = .ok (.ishr, 1) := by decide +kernel
theorem dX9_order_128 : decode cX9_order 128 = .ok (.iconst 1, 1) := by decide +kernel
theorem dX9_order_129 : decode cX9_order 129 = .ok (.iand, 1) := by decide +kernel
theorem dX9_order_130 : decode cX9_order 130 = .ok (.iconst 1, 1) := by decide +kernel
theorem dX9_order_131 : decode cX9_order 131 = .ok (.if_icmp .ne 13, 3) := by decide +kernel
theorem dX9_order_134 : decode cX9_order 134 = .ok (.aload_n 0, 1) := by decide +kernel
theorem dX9_order_135 : decode cX9_order 135 = .ok (.iload 8, 2) := by decide +kernel
theorem dX9_order_137 : decode cX9_order 137 = .ok (.invokevirtual 108, 3) := by decide +kernel
theorem dX9_order_140 : decode cX9_order 140 = .ok (.ineg, 1) := by decide +kernel
theorem dX9_order_141 : decode cX9_order 141 = .ok (.goto 9, 3) := by decide +kernel
theorem dX9_order_144 : decode cX9_order 144 = .ok (.aload_n 0, 1) := by decide +kernel
theorem dX9_order_145 : decode cX9_order 145 = .ok (.iload 8, 2) := by decide +kernel
theorem dX9_order_147 : decode cX9_order 147 = .ok (.invokevirtual 108, 3) := by decide +kernel
theorem dX9_order_150 : decode cX9_order 150 = .ok (.iadd, 1) := by decide +kernel
theorem dX9_order_151 : decode cX9_order 151 = .ok (.istore 7, 2) := by decide +kernel
theorem dX9_order_153 : decode cX9_order 153 = .ok (.iinc 8 1, 3) := by decide +kernel
theorem dX9_order_156 : decode cX9_order 156 = .ok (.goto (-56), 3) := by decide +kernel
theorem dX9_order_159 : decode cX9_order 159 = .ok (.iload 5, 2) := by decide +kernel
theorem dX9_order_161 : decode cX9_order 161 = .ok (.ifCond .eq 21, 3) := by decide +kernel
theorem dX9_order_164 : decode cX9_order 164 = .ok (.aload_n 0, 1) := by decide +kernel
theorem dX9_order_165 : decode cX9_order 165 = .ok (.iload 7, 2) := by decide +kernel
theorem dX9_order_167 : decode cX9_order 167 = .ok (.invokevirtual 205, 3) := by decide +kernel
theorem dX9_order_170 : decode cX9_order 170 = .ok (.aload_n 0, 1) := by decide +kernel
theorem dX9_order_171 : decode cX9_order 171 = .ok (.iload 4, 2) := by decide +kernel
theorem dX9_order_173 : decode cX9_order 173 = .ok (.invokevirtual 205, 3) := by decide +kernel
theorem dX9_order_176 : decode cX9_order 176 = .ok (.if_icmp .lt 6, 3) := by decide +kernel
theorem dX9_order_179 : decode cX9_order 179 = .ok (.goto 13, 3) := by decide +kernel
theorem dX9_order_182 : decode cX9_order 182 = .ok (.iconst 1, 1) := by decide +kernel
theorem dX9_order_183 : decode cX9_order 183 = .ok (.istore 5, 2) := by decide +kernel
theorem dX9_order_185 : decode cX9_order 185 = .ok (.iload 6, 2) := by decide +kernel
theorem dX9_order_187 : decode cX9_order 187 = .ok (.istore_n 3, 1) := by decide +kernel
theorem dX9_order_188 : decode cX9_order 188 = .ok (.iload 7, 2) := by decide +kernel
theorem dX9_order_190 : decode cX9_order 190 = .ok (.istore 4, 2) := by decide +kernel
theorem dX9_order_192 : decode cX9_order 192 = .ok (.iinc 6 1, 3) := by decide +kernel
theorem dX9_order_195 : decode cX9_order 195 = .ok (.goto (-119), 3) := by decide +kernel
theorem dX9_order_198 : decode cX9_order 198 = .ok (.iload_n 1, 1) := by decide +kernel
theorem dX9_order_199 : decode cX9_order 199 = .ok (.ifCond .ne 7, 3) := by decide +kernel
theorem dX9_order_202 : decode cX9_order 202 = .ok (.iload_n 3, 1) := by decide +kernel
theorem dX9_order_203 : decode cX9_order 203 = .ok (.goto 5, 3) := by decide +kernel
theorem dX9_order_206 : decode cX9_order 206 = .ok (.iload 4, 2) := by decide +kernel
theorem dX9_order_208 : decode cX9_order 208 = .ok (.ireturn, 1) := by decide +kernel
set_option maxRecDepth 20000 in
theorem ggX9_meet_X9_noFar : GoodIn wsX9_meet wsX9_noFar := goodIn_r _ [7, 8, 9, 46, 47, 48, 49, 50, 51, 52, 53, 54, 55, 56, 57, 58, 59, 60, 61, 62, 63, 64, 65, 66, 67, 68, 69, 70, 71, 72, 73, 74, 75, 76, 77, 78, 79, 80, 81, 82, 83, 84, 85] (by decide +kernel) (by decide +kernel)
set_option maxRecDepth 20000 in
theorem gX9_meet_X9_noFar : GoodIn wsX9_meet (wsV RX9 105 RX9 yX9_noFar wsX9_noFar) := goodIn_app (goodIn_of _ (by decide +kernel)) ggX9_meet_X9_noFar
set_option maxRecDepth 20000 in
theorem ggX9_meet_X9_rises : GoodIn wsX9_meet wsX9_rises := goodIn_r _ [13, 14, 15, 16, 6, 17, 18, 19, 20, 21, 22, 23, 24, 25, 26, 27, 28, 29, 30, 31, 32, 33, 34, 35, 36, 37, 38, 39, 40, 41, 46, 47, 48, 49, 50, 51, 52, 53, 54, 55, 56, 57, 58, 59, 60, 61, 62, 63, 64, 65, 66, 67, 68, 69, 70, 71, 72, 73, 74, 75, 76, 77, 78, 79, 80, 81, 82, 83, 84, 85] (by decide +kernel) (by decide +kernel)
set_option maxRecDepth 20000 in
theorem gX9_meet_X9_rises : GoodIn wsX9_meet (wsV RX9 196 RX9 yX9_rises wsX9_rises) := goodIn_app (goodIn_of _ (by decide +kernel)) ggX9_meet_X9_rises
set_option maxRecDepth 20000 in
theorem ggX9_meet_X9_yards : GoodIn wsX9_meet wsX9_yards := goodIn_r _ [45, 30, 31, 46, 47, 48, 49, 50, 51, 52, 53, 54, 55, 56, 57, 58, 59, 60, 61, 62, 63, 64, 65, 66, 67, 68, 69, 70, 71, 72, 73, 74, 75, 76, 77, 78, 79, 80, 81, 82, 83, 84, 85] (by decide +kernel) (by decide +kernel)
set_option maxRecDepth 20000 in
theorem gX9_meet_X9_yards : GoodIn wsX9_meet (wsV RX9 241 RX9 yX9_yards wsX9_yards) := goodIn_app (goodIn_of _ (by decide +kernel)) ggX9_meet_X9_yards
theorem dX9_meet_0 : decode cX9_meet 0 = .ok (.iload_n 1, 1) := by decide +kernel
theorem dX9_meet_1 : decode cX9_meet 1 = .ok (.iconst 1, 1) := by decide +kernel
theorem dX9_meet_2 : decode cX9_meet 2 = .ok (.if_icmp .lt 22, 3) := by decide +kernel
theorem dX9_meet_5 : decode cX9_meet 5 = .ok (.iload_n 1, 1) := by decide +kernel
theorem dX9_meet_6 : decode cX9_meet 6 = .ok (.aload_n 0, 1) := by decide +kernel
theorem dX9_meet_7 : decode cX9_meet 7 = .ok (.getfield 91, 3) := by decide +kernel
theorem dX9_meet_10 : decode cX9_meet 10 = .ok (.iconst 1, 1) := by decide +kernel
theorem dX9_meet_11 : decode cX9_meet 11 = .ok (.isub, 1) := by decide +kernel
theorem dX9_meet_12 : decode cX9_meet 12 = .ok (.if_icmp .gt 12, 3) := by decide +kernel
theorem dX9_meet_15 : decode cX9_meet 15 = .ok (.iload_n 3, 1) := by decide +kernel
theorem dX9_meet_16 : decode cX9_meet 16 = .ok (.ifCond .lt 8, 3) := by decide +kernel
theorem dX9_meet_19 : decode cX9_meet 19 = .ok (.iload_n 3, 1) := by decide +kernel
theorem dX9_meet_20 : decode cX9_meet 20 = .ok (.iconst 1, 1) := by decide +kernel
theorem dX9_meet_21 : decode cX9_meet 21 = .ok (.if_icmp .le 10, 3) := by decide +kernel
theorem dX9_meet_24 : decode cX9_meet 24 = .ok (.aload_n 0, 1) := by decide +kernel
theorem dX9_meet_25 : decode cX9_meet 25 = .ok (.bipush (-5), 2) := by decide +kernel
theorem dX9_meet_27 : decode cX9_meet 27 = .ok (.invokevirtual 105, 3) := by decide +kernel
theorem dX9_meet_30 : decode cX9_meet 30 = .ok (.ireturn, 1) := by decide +kernel
theorem dX9_meet_31 : decode cX9_meet 31 = .ok (.iload_n 2, 1) := by decide +kernel
theorem dX9_meet_32 : decode cX9_meet 32 = .ok (.sipush (-30000), 3) := by decide +kernel
theorem dX9_meet_35 : decode cX9_meet 35 = .ok (.if_icmp .lt 10, 3) := by decide +kernel
theorem dX9_meet_38 : decode cX9_meet 38 = .ok (.iload_n 2, 1) := by decide +kernel
theorem dX9_meet_39 : decode cX9_meet 39 = .ok (.sipush 30000, 3) := by decide +kernel
theorem dX9_meet_42 : decode cX9_meet 42 = .ok (.if_icmp .le 10, 3) := by decide +kernel
theorem dX9_meet_45 : decode cX9_meet 45 = .ok (.aload_n 0, 1) := by decide +kernel
theorem dX9_meet_46 : decode cX9_meet 46 = .ok (.bipush (-6), 2) := by decide +kernel
theorem dX9_meet_48 : decode cX9_meet 48 = .ok (.invokevirtual 105, 3) := by decide +kernel
theorem dX9_meet_51 : decode cX9_meet 51 = .ok (.ireturn, 1) := by decide +kernel
theorem dX9_meet_52 : decode cX9_meet 52 = .ok (.iload_n 2, 1) := by decide +kernel
theorem dX9_meet_53 : decode cX9_meet 53 = .ok (.aload_n 0, 1) := by decide +kernel
theorem dX9_meet_54 : decode cX9_meet 54 = .ok (.getfield 134, 3) := by decide +kernel
theorem dX9_meet_57 : decode cX9_meet 57 = .ok (.aload_n 0, 1) := by decide +kernel
theorem dX9_meet_58 : decode cX9_meet 58 = .ok (.iconst 0, 1) := by decide +kernel
theorem dX9_meet_59 : decode cX9_meet 59 = .ok (.iload_n 1, 1) := by decide +kernel
theorem dX9_meet_60 : decode cX9_meet 60 = .ok (.invokevirtual 196, 3) := by decide +kernel
theorem dX9_meet_63 : decode cX9_meet 63 = .ok (.iadd, 1) := by decide +kernel
theorem dX9_meet_64 : decode cX9_meet 64 = .ok (.isub, 1) := by decide +kernel
theorem dX9_meet_65 : decode cX9_meet 65 = .ok (.istore 4, 2) := by decide +kernel
theorem dX9_meet_67 : decode cX9_meet 67 = .ok (.iload_n 3, 1) := by decide +kernel
theorem dX9_meet_68 : decode cX9_meet 68 = .ok (.ifCond .ne 8, 3) := by decide +kernel
theorem dX9_meet_71 : decode cX9_meet 71 = .ok (.iload 4, 2) := by decide +kernel
theorem dX9_meet_73 : decode cX9_meet 73 = .ok (.goto 26, 3) := by decide +kernel
theorem dX9_meet_76 : decode cX9_meet 76 = .ok (.iload 4, 2) := by decide +kernel
theorem dX9_meet_78 : decode cX9_meet 78 = .ok (.i2l, 1) := by decide +kernel
theorem dX9_meet_79 : decode cX9_meet 79 = .ok (.aload_n 0, 1) := by decide +kernel
theorem dX9_meet_80 : decode cX9_meet 80 = .ok (.iconst 0, 1) := by decide +kernel
theorem dX9_meet_81 : decode cX9_meet 81 = .ok (.iload_n 1, 1) := by decide +kernel
theorem dX9_meet_82 : decode cX9_meet 82 = .ok (.invokevirtual 241, 3) := by decide +kernel
theorem dX9_meet_85 : decode cX9_meet 85 = .ok (.i2l, 1) := by decide +kernel
theorem dX9_meet_86 : decode cX9_meet 86 = .ok (.lmul, 1) := by decide +kernel
theorem dX9_meet_87 : decode cX9_meet 87 = .ok (.aload_n 0, 1) := by decide +kernel
theorem dX9_meet_88 : decode cX9_meet 88 = .ok (.iconst 0, 1) := by decide +kernel
theorem dX9_meet_89 : decode cX9_meet 89 = .ok (.aload_n 0, 1) := by decide +kernel
theorem dX9_meet_90 : decode cX9_meet 90 = .ok (.getfield 91, 3) := by decide +kernel
theorem dX9_meet_93 : decode cX9_meet 93 = .ok (.invokevirtual 241, 3) := by decide +kernel
theorem dX9_meet_96 : decode cX9_meet 96 = .ok (.i2l, 1) := by decide +kernel
theorem dX9_meet_97 : decode cX9_meet 97 = .ok (.ldiv, 1) := by decide +kernel
theorem dX9_meet_98 : decode cX9_meet 98 = .ok (.l2i, 1) := by decide +kernel
theorem dX9_meet_99 : decode cX9_meet 99 = .ok (.ireturn, 1) := by decide +kernel
set_option maxRecDepth 20000 in
theorem ggX9_apart_X9_intAt : GoodIn wsX9_apart wsX9_intAt := goodIn_r _ [5, 6, 7, 8, 9, 10, 11, 12, 13, 14, 15, 16, 17, 18, 19, 20, 21, 22, 23, 24, 25, 26, 27, 28, 29, 30, 31, 32, 33, 34, 35, 36, 37, 38, 39, 40, 41, 42, 43, 44, 45, 46] (by decide +kernel) (by decide +kernel)
set_option maxRecDepth 20000 in
theorem gX9_apart_X9_intAt : GoodIn wsX9_apart (wsV RX9 235 RX9 yX9_intAt wsX9_intAt) := goodIn_app (goodIn_of _ (by decide +kernel)) ggX9_apart_X9_intAt
theorem dX9_apart_0 : decode cX9_apart 0 = .ok (.aload_n 0, 1) := by decide +kernel
theorem dX9_apart_1 : decode cX9_apart 1 = .ok (.iload_n 2, 1) := by decide +kernel
theorem dX9_apart_2 : decode cX9_apart 2 = .ok (.iload_n 3, 1) := by decide +kernel
theorem dX9_apart_3 : decode cX9_apart 3 = .ok (.invokevirtual 235, 3) := by decide +kernel
theorem dX9_apart_6 : decode cX9_apart 6 = .ok (.i2l, 1) := by decide +kernel
theorem dX9_apart_7 : decode cX9_apart 7 = .ok (.aload_n 0, 1) := by decide +kernel
theorem dX9_apart_8 : decode cX9_apart 8 = .ok (.iload_n 1, 1) := by decide +kernel
theorem dX9_apart_9 : decode cX9_apart 9 = .ok (.iload_n 3, 1) := by decide +kernel
theorem dX9_apart_10 : decode cX9_apart 10 = .ok (.invokevirtual 235, 3) := by decide +kernel
theorem dX9_apart_13 : decode cX9_apart 13 = .ok (.i2l, 1) := by decide +kernel
theorem dX9_apart_14 : decode cX9_apart 14 = .ok (.lsub, 1) := by decide +kernel
theorem dX9_apart_15 : decode cX9_apart 15 = .ok (.lreturn, 1) := by decide +kernel
set_option maxRecDepth 20000 in
theorem ggX9_areAlike_X9_apart : GoodIn wsX9_areAlike wsX9_apart := goodIn_r _ [5, 6, 7, 8, 4, 9, 10, 11, 12, 13, 14, 15, 16, 17, 18, 19, 20, 21, 22, 23, 24, 25, 26, 27, 28, 29, 30, 31, 32, 33, 34, 35, 36, 37, 38, 39, 40, 41, 42, 43, 44, 45, 46, 47, 48, 49, 50] (by decide +kernel) (by decide +kernel)
set_option maxRecDepth 20000 in
theorem gX9_areAlike_X9_apart : GoodIn wsX9_areAlike (wsV RX9 247 RX9 yX9_apart wsX9_apart) := goodIn_app (goodIn_of _ (by decide +kernel)) ggX9_areAlike_X9_apart
theorem dX9_areAlike_0 : decode cX9_areAlike 0 = .ok (.iload 4, 2) := by decide +kernel
theorem dX9_areAlike_2 : decode cX9_areAlike 2 = .ok (.ifCond .ne 7, 3) := by decide +kernel
theorem dX9_areAlike_5 : decode cX9_areAlike 5 = .ok (.iconst 1, 1) := by decide +kernel
theorem dX9_areAlike_6 : decode cX9_areAlike 6 = .ok (.goto 4, 3) := by decide +kernel
theorem dX9_areAlike_9 : decode cX9_areAlike 9 = .ok (.iconst 0, 1) := by decide +kernel
theorem dX9_areAlike_10 : decode cX9_areAlike 10 = .ok (.istore 5, 2) := by decide +kernel
theorem dX9_areAlike_12 : decode cX9_areAlike 12 = .ok (.iconst 0, 1) := by decide +kernel
theorem dX9_areAlike_13 : decode cX9_areAlike 13 = .ok (.istore 6, 2) := by decide +kernel
theorem dX9_areAlike_15 : decode cX9_areAlike 15 = .ok (.iload 6, 2) := by decide +kernel
theorem dX9_areAlike_17 : decode cX9_areAlike 17 = .ok (.iload_n 3, 1) := by decide +kernel
theorem dX9_areAlike_18 : decode cX9_areAlike 18 = .ok (.if_icmp .ge 38, 3) := by decide +kernel
theorem dX9_areAlike_21 : decode cX9_areAlike 21 = .ok (.iload 6, 2) := by decide +kernel
theorem dX9_areAlike_23 : decode cX9_areAlike 23 = .ok (.iload 4, 2) := by decide +kernel
theorem dX9_areAlike_25 : decode cX9_areAlike 25 = .ok (.if_icmp .eq 25, 3) := by decide +kernel
theorem dX9_areAlike_28 : decode cX9_areAlike 28 = .ok (.aload_n 0, 1) := by decide +kernel
theorem dX9_areAlike_29 : decode cX9_areAlike 29 = .ok (.iload_n 1, 1) := by decide +kernel
theorem dX9_areAlike_30 : decode cX9_areAlike 30 = .ok (.iload_n 2, 1) := by decide +kernel
theorem dX9_areAlike_31 : decode cX9_areAlike 31 = .ok (.iload 6, 2) := by decide +kernel
theorem dX9_areAlike_33 : decode cX9_areAlike 33 = .ok (.invokevirtual 247, 3) := by decide +kernel
theorem dX9_areAlike_36 : decode cX9_areAlike 36 = .ok (.aload_n 0, 1) := by decide +kernel
theorem dX9_areAlike_37 : decode cX9_areAlike 37 = .ok (.iload_n 1, 1) := by decide +kernel
theorem dX9_areAlike_38 : decode cX9_areAlike 38 = .ok (.iload_n 2, 1) := by decide +kernel
theorem dX9_areAlike_39 : decode cX9_areAlike 39 = .ok (.iload 5, 2) := by decide +kernel
theorem dX9_areAlike_41 : decode cX9_areAlike 41 = .ok (.invokevirtual 247, 3) := by decide +kernel
theorem dX9_areAlike_44 : decode cX9_areAlike 44 = .ok (.lcmp, 1) := by decide +kernel
theorem dX9_areAlike_45 : decode cX9_areAlike 45 = .ok (.ifCond .eq 5, 3) := by decide +kernel
theorem dX9_areAlike_48 : decode cX9_areAlike 48 = .ok (.iconst 0, 1) := by decide +kernel
theorem dX9_areAlike_49 : decode cX9_areAlike 49 = .ok (.ireturn, 1) := by decide +kernel
theorem dX9_areAlike_50 : decode cX9_areAlike 50 = .ok (.iinc 6 1, 3) := by decide +kernel
theorem dX9_areAlike_53 : decode cX9_areAlike 53 = .ok (.goto (-38), 3) := by decide +kernel
theorem dX9_areAlike_56 : decode cX9_areAlike 56 = .ok (.iconst 1, 1) := by decide +kernel
theorem dX9_areAlike_57 : decode cX9_areAlike 57 = .ok (.ireturn, 1) := by decide +kernel
set_option maxRecDepth 20000 in
theorem ggX9_rose_X9_isShelf : GoodIn wsX9_rose wsX9_isShelf := goodIn_r _ [7] (by decide +kernel) (by decide +kernel)
set_option maxRecDepth 20000 in
theorem gX9_rose_X9_isShelf : GoodIn wsX9_rose (wsV RX9 94 RX9 yX9_isShelf wsX9_isShelf) := goodIn_app (goodIn_of _ (by decide +kernel)) ggX9_rose_X9_isShelf
set_option maxRecDepth 20000 in
theorem ggX9_rose_X9_noTen : GoodIn wsX9_rose wsX9_noTen := goodIn_r _ [11, 12, 26, 27, 28, 29, 30, 31, 32, 33, 34, 35, 36, 37, 38, 39, 40, 41, 42, 43, 44, 45, 46, 47, 48, 49, 50, 51, 52, 53, 54, 55, 56, 57, 58, 59, 60, 61, 62, 63, 64, 65] (by decide +kernel) (by decide +kernel)
set_option maxRecDepth 20000 in
theorem gX9_rose_X9_noTen : GoodIn wsX9_rose (wsV RX9 238 RX9 yX9_noTen wsX9_noTen) := goodIn_app (goodIn_of _ (by decide +kernel)) ggX9_rose_X9_noTen
set_option maxRecDepth 20000 in
theorem ggX9_rose_X9_areAlike : GoodIn wsX9_rose wsX9_areAlike := goodIn_r _ [16, 17, 18, 19, 6, 20, 21, 22, 23, 24, 25, 26, 27, 28, 29, 30, 31, 32, 33, 34, 35, 36, 37, 38, 39, 40, 41, 42, 43, 44, 45, 46, 47, 48, 49, 50, 51, 52, 53, 54, 55, 56, 57, 58, 59, 60, 61, 62, 63, 64, 65] (by decide +kernel) (by decide +kernel)
set_option maxRecDepth 20000 in
theorem gX9_rose_X9_areAlike : GoodIn wsX9_rose (wsV RX9 251 RX9 yX9_areAlike wsX9_areAlike) := goodIn_app (goodIn_of _ (by decide +kernel)) ggX9_rose_X9_areAlike
theorem dX9_rose_0 : decode cX9_rose 0 = .ok (.aload_n 0, 1) := by decide +kernel
theorem dX9_rose_1 : decode cX9_rose 1 = .ok (.iload_n 1, 1) := by decide +kernel
theorem dX9_rose_2 : decode cX9_rose 2 = .ok (.invokevirtual 94, 3) := by decide +kernel
theorem dX9_rose_5 : decode cX9_rose 5 = .ok (.ifCond .eq 11, 3) := by decide +kernel
theorem dX9_rose_8 : decode cX9_rose 8 = .ok (.aload_n 0, 1) := by decide +kernel
theorem dX9_rose_9 : decode cX9_rose 9 = .ok (.iload_n 2, 1) := by decide +kernel
theorem dX9_rose_10 : decode cX9_rose 10 = .ok (.invokevirtual 94, 3) := by decide +kernel
theorem dX9_rose_13 : decode cX9_rose 13 = .ok (.ifCond .ne 7, 3) := by decide +kernel
theorem dX9_rose_16 : decode cX9_rose 16 = .ok (.iconst (-1), 1) := by decide +kernel
theorem dX9_rose_17 : decode cX9_rose 17 = .ok (.goto 102, 3) := by decide +kernel
theorem dX9_rose_20 : decode cX9_rose 20 = .ok (.aload_n 0, 1) := by decide +kernel
theorem dX9_rose_21 : decode cX9_rose 21 = .ok (.getfield 50, 3) := by decide +kernel
theorem dX9_rose_24 : decode cX9_rose 24 = .ok (.iload_n 1, 1) := by decide +kernel
theorem dX9_rose_25 : decode cX9_rose 25 = .ok (.iaload, 1) := by decide +kernel
theorem dX9_rose_26 : decode cX9_rose 26 = .ok (.iconst 2, 1) := by decide +kernel
theorem dX9_rose_27 : decode cX9_rose 27 = .ok (.if_icmp .eq 13, 3) := by decide +kernel
theorem dX9_rose_30 : decode cX9_rose 30 = .ok (.aload_n 0, 1) := by decide +kernel
theorem dX9_rose_31 : decode cX9_rose 31 = .ok (.getfield 50, 3) := by decide +kernel
theorem dX9_rose_34 : decode cX9_rose 34 = .ok (.iload_n 2, 1) := by decide +kernel
theorem dX9_rose_35 : decode cX9_rose 35 = .ok (.iaload, 1) := by decide +kernel
theorem dX9_rose_36 : decode cX9_rose 36 = .ok (.iconst 2, 1) := by decide +kernel
theorem dX9_rose_37 : decode cX9_rose 37 = .ok (.if_icmp .ne 8, 3) := by decide +kernel
theorem dX9_rose_40 : decode cX9_rose 40 = .ok (.bipush (-2), 2) := by decide +kernel
theorem dX9_rose_42 : decode cX9_rose 42 = .ok (.goto 77, 3) := by decide +kernel
theorem dX9_rose_45 : decode cX9_rose 45 = .ok (.aload_n 0, 1) := by decide +kernel
theorem dX9_rose_46 : decode cX9_rose 46 = .ok (.getfield 50, 3) := by decide +kernel
theorem dX9_rose_49 : decode cX9_rose 49 = .ok (.iload_n 1, 1) := by decide +kernel
theorem dX9_rose_50 : decode cX9_rose 50 = .ok (.iaload, 1) := by decide +kernel
theorem dX9_rose_51 : decode cX9_rose 51 = .ok (.ifCond .eq 12, 3) := by decide +kernel
theorem dX9_rose_54 : decode cX9_rose 54 = .ok (.aload_n 0, 1) := by decide +kernel
theorem dX9_rose_55 : decode cX9_rose 55 = .ok (.getfield 50, 3) := by decide +kernel
theorem dX9_rose_58 : decode cX9_rose 58 = .ok (.iload_n 2, 1) := by decide +kernel
theorem dX9_rose_59 : decode cX9_rose 59 = .ok (.iaload, 1) := by decide +kernel
theorem dX9_rose_60 : decode cX9_rose 60 = .ok (.ifCond .ne 8, 3) := by decide +kernel
theorem dX9_rose_63 : decode cX9_rose 63 = .ok (.bipush (-3), 2) := by decide +kernel
theorem dX9_rose_65 : decode cX9_rose 65 = .ok (.goto 54, 3) := by decide +kernel
theorem dX9_rose_68 : decode cX9_rose 68 = .ok (.iload_n 3, 1) := by decide +kernel
theorem dX9_rose_69 : decode cX9_rose 69 = .ok (.ifCond .ge 8, 3) := by decide +kernel
theorem dX9_rose_72 : decode cX9_rose 72 = .ok (.bipush (-4), 2) := by decide +kernel
theorem dX9_rose_74 : decode cX9_rose 74 = .ok (.goto 45, 3) := by decide +kernel
theorem dX9_rose_77 : decode cX9_rose 77 = .ok (.iload_n 3, 1) := by decide +kernel
theorem dX9_rose_78 : decode cX9_rose 78 = .ok (.aload_n 0, 1) := by decide +kernel
theorem dX9_rose_79 : decode cX9_rose 79 = .ok (.getfield 56, 3) := by decide +kernel
theorem dX9_rose_82 : decode cX9_rose 82 = .ok (.iload_n 1, 1) := by decide +kernel
theorem dX9_rose_83 : decode cX9_rose 83 = .ok (.iaload, 1) := by decide +kernel
theorem dX9_rose_84 : decode cX9_rose 84 = .ok (.if_icmp .gt 13, 3) := by decide +kernel
theorem dX9_rose_87 : decode cX9_rose 87 = .ok (.iload_n 3, 1) := by decide +kernel
theorem dX9_rose_88 : decode cX9_rose 88 = .ok (.aload_n 0, 1) := by decide +kernel
theorem dX9_rose_89 : decode cX9_rose 89 = .ok (.getfield 56, 3) := by decide +kernel
theorem dX9_rose_92 : decode cX9_rose 92 = .ok (.iload_n 2, 1) := by decide +kernel
theorem dX9_rose_93 : decode cX9_rose 93 = .ok (.iaload, 1) := by decide +kernel
theorem dX9_rose_94 : decode cX9_rose 94 = .ok (.if_icmp .le 8, 3) := by decide +kernel
theorem dX9_rose_97 : decode cX9_rose 97 = .ok (.bipush (-5), 2) := by decide +kernel
theorem dX9_rose_99 : decode cX9_rose 99 = .ok (.goto 20, 3) := by decide +kernel
theorem dX9_rose_102 : decode cX9_rose 102 = .ok (.iload_n 3, 1) := by decide +kernel
theorem dX9_rose_103 : decode cX9_rose 103 = .ok (.iconst 2, 1) := by decide +kernel
theorem dX9_rose_104 : decode cX9_rose 104 = .ok (.if_icmp .lt 9, 3) := by decide +kernel
theorem dX9_rose_107 : decode cX9_rose 107 = .ok (.iload_n 3, 1) := by decide +kernel
theorem dX9_rose_108 : decode cX9_rose 108 = .ok (.bipush 40, 2) := by decide +kernel
theorem dX9_rose_110 : decode cX9_rose 110 = .ok (.if_icmp .le 8, 3) := by decide +kernel
theorem dX9_rose_113 : decode cX9_rose 113 = .ok (.bipush (-6), 2) := by decide +kernel
theorem dX9_rose_115 : decode cX9_rose 115 = .ok (.goto 4, 3) := by decide +kernel
theorem dX9_rose_118 : decode cX9_rose 118 = .ok (.iconst 0, 1) := by decide +kernel
theorem dX9_rose_119 : decode cX9_rose 119 = .ok (.istore 4, 2) := by decide +kernel
theorem dX9_rose_121 : decode cX9_rose 121 = .ok (.iload 4, 2) := by decide +kernel
theorem dX9_rose_123 : decode cX9_rose 123 = .ok (.ifCond .eq 10, 3) := by decide +kernel
theorem dX9_rose_126 : decode cX9_rose 126 = .ok (.aload_n 0, 1) := by decide +kernel
theorem dX9_rose_127 : decode cX9_rose 127 = .ok (.iload 4, 2) := by decide +kernel
theorem dX9_rose_129 : decode cX9_rose 129 = .ok (.invokevirtual 238, 3) := by decide +kernel
theorem dX9_rose_132 : decode cX9_rose 132 = .ok (.ireturn, 1) := by decide +kernel
theorem dX9_rose_133 : decode cX9_rose 133 = .ok (.aload_n 0, 1) := by decide +kernel
theorem dX9_rose_134 : decode cX9_rose 134 = .ok (.iload_n 1, 1) := by decide +kernel
theorem dX9_rose_135 : decode cX9_rose 135 = .ok (.iload_n 2, 1) := by decide +kernel
theorem dX9_rose_136 : decode cX9_rose 136 = .ok (.iload_n 3, 1) := by decide +kernel
theorem dX9_rose_137 : decode cX9_rose 137 = .ok (.iconst (-1), 1) := by decide +kernel
theorem dX9_rose_138 : decode cX9_rose 138 = .ok (.invokevirtual 251, 3) := by decide +kernel
theorem dX9_rose_141 : decode cX9_rose 141 = .ok (.ifCond .eq 5, 3) := by decide +kernel
theorem dX9_rose_144 : decode cX9_rose 144 = .ok (.iconst (-1), 1) := by decide +kernel
theorem dX9_rose_145 : decode cX9_rose 145 = .ok (.ireturn, 1) := by decide +kernel
theorem dX9_rose_146 : decode cX9_rose 146 = .ok (.iconst 0, 1) := by decide +kernel
theorem dX9_rose_147 : decode cX9_rose 147 = .ok (.istore 5, 2) := by decide +kernel
theorem dX9_rose_149 : decode cX9_rose 149 = .ok (.iload 5, 2) := by decide +kernel
theorem dX9_rose_151 : decode cX9_rose 151 = .ok (.iload_n 3, 1) := by decide +kernel
theorem dX9_rose_152 : decode cX9_rose 152 = .ok (.if_icmp .ge 24, 3) := by decide +kernel
theorem dX9_rose_155 : decode cX9_rose 155 = .ok (.aload_n 0, 1) := by decide +kernel
theorem dX9_rose_156 : decode cX9_rose 156 = .ok (.iload_n 1, 1) := by decide +kernel
theorem dX9_rose_157 : decode cX9_rose 157 = .ok (.iload_n 2, 1) := by decide +kernel
theorem dX9_rose_158 : decode cX9_rose 158 = .ok (.iload_n 3, 1) := by decide +kernel
theorem dX9_rose_159 : decode cX9_rose 159 = .ok (.iload 5, 2) := by decide +kernel
theorem dX9_rose_161 : decode cX9_rose 161 = .ok (.invokevirtual 251, 3) := by decide +kernel
theorem dX9_rose_164 : decode cX9_rose 164 = .ok (.ifCond .eq 6, 3) := by decide +kernel
theorem dX9_rose_167 : decode cX9_rose 167 = .ok (.iload 5, 2) := by decide +kernel
theorem dX9_rose_169 : decode cX9_rose 169 = .ok (.ireturn, 1) := by decide +kernel
theorem dX9_rose_170 : decode cX9_rose 170 = .ok (.iinc 5 1, 3) := by decide +kernel
theorem dX9_rose_173 : decode cX9_rose 173 = .ok (.goto (-24), 3) := by decide +kernel
theorem dX9_rose_176 : decode cX9_rose 176 = .ok (.bipush (-2), 2) := by decide +kernel
theorem dX9_rose_178 : decode cX9_rose 178 = .ok (.ireturn, 1) := by decide +kernel
set_option maxRecDepth 20000 in
theorem ggX9_crooked_X9_noFar : GoodIn wsX9_crooked wsX9_noFar := goodIn_r _ [7, 8, 9, 42, 43, 44, 45, 46, 47, 48, 49, 50, 51, 52, 53, 54, 55, 56, 57, 58, 59, 60, 61, 62, 63, 64, 65, 66, 67, 68, 69, 70, 71, 72, 73, 74, 75, 76, 77, 78, 79, 80, 81] (by decide +kernel) (by decide +kernel)
set_option maxRecDepth 20000 in
theorem gX9_crooked_X9_noFar : GoodIn wsX9_crooked (wsV RX9 105 RX9 yX9_noFar wsX9_noFar) := goodIn_app (goodIn_of _ (by decide +kernel)) ggX9_crooked_X9_noFar
set_option maxRecDepth 20000 in
theorem ggX9_crooked_X9_rise : GoodIn wsX9_crooked wsX9_rise := goodIn_r _ [13, 14, 15, 16, 6, 17, 18, 19, 20, 21, 22, 23, 24, 25, 26, 27, 28, 29, 30, 31, 32, 33, 34, 35, 36, 37, 42, 43, 44, 45, 46, 47, 48, 49, 50, 51, 52, 53, 54, 55, 56, 57, 58, 59, 60, 61, 62, 63, 64, 65, 66, 67, 68, 69, 70, 71, 72, 73, 74, 75, 76, 77, 78, 79, 80, 81] (by decide +kernel) (by decide +kernel)
set_option maxRecDepth 20000 in
theorem gX9_crooked_X9_rise : GoodIn wsX9_crooked (wsV RX9 127 RX9 yX9_rise wsX9_rise) := goodIn_app (goodIn_of _ (by decide +kernel)) ggX9_crooked_X9_rise
set_option maxRecDepth 20000 in
theorem ggX9_crooked_X9_abs : GoodIn wsX9_crooked wsX9_abs := goodIn_r _ [41] (by decide +kernel) (by decide +kernel)
set_option maxRecDepth 20000 in
theorem gX9_crooked_X9_abs : GoodIn wsX9_crooked (wsV RX9 205 RX9 yX9_abs wsX9_abs) := goodIn_app (goodIn_of _ (by decide +kernel)) ggX9_crooked_X9_abs
theorem dX9_crooked_0 : decode cX9_crooked 0 = .ok (.aload_n 0, 1) := by decide +kernel
theorem dX9_crooked_1 : decode cX9_crooked 1 = .ok (.getfield 91, 3) := by decide +kernel
theorem dX9_crooked_4 : decode cX9_crooked 4 = .ok (.ifCond .eq 12, 3) := by decide +kernel
theorem dX9_crooked_7 : decode cX9_crooked 7 = .ok (.iload_n 1, 1) := by decide +kernel
theorem dX9_crooked_8 : decode cX9_crooked 8 = .ok (.ifCond .lt 8, 3) := by decide +kernel
theorem dX9_crooked_11 : decode cX9_crooked 11 = .ok (.iload_n 1, 1) := by decide +kernel
theorem dX9_crooked_12 : decode cX9_crooked 12 = .ok (.iconst 1, 1) := by decide +kernel
theorem dX9_crooked_13 : decode cX9_crooked 13 = .ok (.if_icmp .le 10, 3) := by decide +kernel
theorem dX9_crooked_16 : decode cX9_crooked 16 = .ok (.aload_n 0, 1) := by decide +kernel
theorem dX9_crooked_17 : decode cX9_crooked 17 = .ok (.bipush (-5), 2) := by decide +kernel
theorem dX9_crooked_19 : decode cX9_crooked 19 = .ok (.invokevirtual 105, 3) := by decide +kernel
theorem dX9_crooked_22 : decode cX9_crooked 22 = .ok (.ireturn, 1) := by decide +kernel
theorem dX9_crooked_23 : decode cX9_crooked 23 = .ok (.iconst 0, 1) := by decide +kernel
theorem dX9_crooked_24 : decode cX9_crooked 24 = .ok (.istore_n 2, 1) := by decide +kernel
theorem dX9_crooked_25 : decode cX9_crooked 25 = .ok (.iconst 0, 1) := by decide +kernel
theorem dX9_crooked_26 : decode cX9_crooked 26 = .ok (.istore_n 3, 1) := by decide +kernel
theorem dX9_crooked_27 : decode cX9_crooked 27 = .ok (.iconst 0, 1) := by decide +kernel
theorem dX9_crooked_28 : decode cX9_crooked 28 = .ok (.istore 4, 2) := by decide +kernel
theorem dX9_crooked_30 : decode cX9_crooked 30 = .ok (.iload 4, 2) := by decide +kernel
theorem dX9_crooked_32 : decode cX9_crooked 32 = .ok (.iconst 4, 1) := by decide +kernel
theorem dX9_crooked_33 : decode cX9_crooked 33 = .ok (.if_icmp .ge 81, 3) := by decide +kernel
theorem dX9_crooked_36 : decode cX9_crooked 36 = .ok (.iconst 0, 1) := by decide +kernel
theorem dX9_crooked_37 : decode cX9_crooked 37 = .ok (.istore 5, 2) := by decide +kernel
theorem dX9_crooked_39 : decode cX9_crooked 39 = .ok (.iconst 0, 1) := by decide +kernel
theorem dX9_crooked_40 : decode cX9_crooked 40 = .ok (.istore 6, 2) := by decide +kernel
theorem dX9_crooked_42 : decode cX9_crooked 42 = .ok (.iload 6, 2) := by decide +kernel
theorem dX9_crooked_44 : decode cX9_crooked 44 = .ok (.aload_n 0, 1) := by decide +kernel
theorem dX9_crooked_45 : decode cX9_crooked 45 = .ok (.getfield 91, 3) := by decide +kernel
theorem dX9_crooked_48 : decode cX9_crooked 48 = .ok (.if_icmp .ge 32, 3) := by decide +kernel
theorem dX9_crooked_51 : decode cX9_crooked 51 = .ok (.aload_n 0, 1) := by decide +kernel
theorem dX9_crooked_52 : decode cX9_crooked 52 = .ok (.getfield 44, 3) := by decide +kernel
theorem dX9_crooked_55 : decode cX9_crooked 55 = .ok (.iload 6, 2) := by decide +kernel
theorem dX9_crooked_57 : decode cX9_crooked 57 = .ok (.iaload, 1) := by decide +kernel
theorem dX9_crooked_58 : decode cX9_crooked 58 = .ok (.iload 4, 2) := by decide +kernel
theorem dX9_crooked_60 : decode cX9_crooked 60 = .ok (.if_icmp .ne 14, 3) := by decide +kernel
theorem dX9_crooked_63 : decode cX9_crooked 63 = .ok (.iload 5, 2) := by decide +kernel
theorem dX9_crooked_65 : decode cX9_crooked 65 = .ok (.aload_n 0, 1) := by decide +kernel
theorem dX9_crooked_66 : decode cX9_crooked 66 = .ok (.iload 6, 2) := by decide +kernel
theorem dX9_crooked_68 : decode cX9_crooked 68 = .ok (.invokevirtual 127, 3) := by decide +kernel
theorem dX9_crooked_71 : decode cX9_crooked 71 = .ok (.iadd, 1) := by decide +kernel
theorem dX9_crooked_72 : decode cX9_crooked 72 = .ok (.istore 5, 2) := by decide +kernel
theorem dX9_crooked_74 : decode cX9_crooked 74 = .ok (.iinc 6 1, 3) := by decide +kernel
theorem dX9_crooked_77 : decode cX9_crooked 77 = .ok (.goto (-35), 3) := by decide +kernel
theorem dX9_crooked_80 : decode cX9_crooked 80 = .ok (.iload 4, 2) := by decide +kernel
theorem dX9_crooked_82 : decode cX9_crooked 82 = .ok (.ifCond .le 20, 3) := by decide +kernel
theorem dX9_crooked_85 : decode cX9_crooked 85 = .ok (.aload_n 0, 1) := by decide +kernel
theorem dX9_crooked_86 : decode cX9_crooked 86 = .ok (.iload 5, 2) := by decide +kernel
theorem dX9_crooked_88 : decode cX9_crooked 88 = .ok (.invokevirtual 205, 3) := by decide +kernel
theorem dX9_crooked_91 : decode cX9_crooked 91 = .ok (.aload_n 0, 1) := by decide +kernel
theorem dX9_crooked_92 : decode cX9_crooked 92 = .ok (.iload_n 3, 1) := by decide +kernel
theorem dX9_crooked_93 : decode cX9_crooked 93 = .ok (.invokevirtual 205, 3) := by decide +kernel
theorem dX9_crooked_96 : decode cX9_crooked 96 = .ok (.if_icmp .gt 6, 3) := by decide +kernel
theorem dX9_crooked_99 : decode cX9_crooked 99 = .ok (.goto 9, 3) := by decide +kernel
theorem dX9_crooked_102 : decode cX9_crooked 102 = .ok (.iload 4, 2) := by decide +kernel
theorem dX9_crooked_104 : decode cX9_crooked 104 = .ok (.istore_n 2, 1) := by decide +kernel
theorem dX9_crooked_105 : decode cX9_crooked 105 = .ok (.iload 5, 2) := by decide +kernel
theorem dX9_crooked_107 : decode cX9_crooked 107 = .ok (.istore_n 3, 1) := by decide +kernel
theorem dX9_crooked_108 : decode cX9_crooked 108 = .ok (.iinc 4 1, 3) := by decide +kernel
theorem dX9_crooked_111 : decode cX9_crooked 111 = .ok (.goto (-81), 3) := by decide +kernel
theorem dX9_crooked_114 : decode cX9_crooked 114 = .ok (.iload_n 1, 1) := by decide +kernel
theorem dX9_crooked_115 : decode cX9_crooked 115 = .ok (.ifCond .ne 7, 3) := by decide +kernel
theorem dX9_crooked_118 : decode cX9_crooked 118 = .ok (.iload_n 2, 1) := by decide +kernel
theorem dX9_crooked_119 : decode cX9_crooked 119 = .ok (.goto 4, 3) := by decide +kernel
theorem dX9_crooked_122 : decode cX9_crooked 122 = .ok (.iload_n 3, 1) := by decide +kernel
theorem dX9_crooked_123 : decode cX9_crooked 123 = .ok (.ireturn, 1) := by decide +kernel
set_option maxRecDepth 20000 in
theorem ggX9_most_X9_no : GoodIn wsX9_most wsX9_no := goodIn_r _ [6, 7, 24, 25, 26, 27, 28, 29, 30, 31, 32, 33, 34, 35, 36, 37, 38, 39, 40, 41, 42, 43, 44, 45, 46, 47, 48, 49, 50, 51, 52, 53, 54, 55, 56, 57, 58, 59, 60, 61, 62, 63] (by decide +kernel) (by decide +kernel)
set_option maxRecDepth 20000 in
theorem gX9_most_X9_no : GoodIn wsX9_most (wsV RX9 98 RX9 yX9_no wsX9_no) := goodIn_app (goodIn_of _ (by decide +kernel)) ggX9_most_X9_no
set_option maxRecDepth 20000 in
theorem ggX9_most_X9_yards : GoodIn wsX9_most wsX9_yards := goodIn_r _ [11, 12, 13, 24, 25, 26, 27, 28, 29, 30, 31, 32, 33, 34, 35, 36, 37, 38, 39, 40, 41, 42, 43, 44, 45, 46, 47, 48, 49, 50, 51, 52, 53, 54, 55, 56, 57, 58, 59, 60, 61, 62, 63] (by decide +kernel) (by decide +kernel)
set_option maxRecDepth 20000 in
theorem gX9_most_X9_yards : GoodIn wsX9_most (wsV RX9 241 RX9 yX9_yards wsX9_yards) := goodIn_app (goodIn_of _ (by decide +kernel)) ggX9_most_X9_yards
set_option maxRecDepth 20000 in
theorem ggX9_most_X9_booked : GoodIn wsX9_most wsX9_booked := goodIn_r _ [17, 18, 19, 24, 25, 26, 27, 28, 29, 30, 31, 32, 33, 34, 35, 36, 37, 38, 39, 40, 41, 42, 43, 44, 45, 46, 47, 48, 49, 50, 51, 52, 53, 54, 55, 56, 57, 58, 59, 60, 61, 62, 63] (by decide +kernel) (by decide +kernel)
set_option maxRecDepth 20000 in
theorem gX9_most_X9_booked : GoodIn wsX9_most (wsV RX9 121 RX9 yX9_booked wsX9_booked) := goodIn_app (goodIn_of _ (by decide +kernel)) ggX9_most_X9_booked
set_option maxRecDepth 20000 in
theorem ggX9_most_X9_abs : GoodIn wsX9_most wsX9_abs := goodIn_r _ [23] (by decide +kernel) (by decide +kernel)
set_option maxRecDepth 20000 in
theorem gX9_most_X9_abs : GoodIn wsX9_most (wsV RX9 205 RX9 yX9_abs wsX9_abs) := goodIn_app (goodIn_of _ (by decide +kernel)) ggX9_most_X9_abs
theorem dX9_most_0 : decode cX9_most 0 = .ok (.aload_n 0, 1) := by decide +kernel
theorem dX9_most_1 : decode cX9_most 1 = .ok (.getfield 91, 3) := by decide +kernel
theorem dX9_most_4 : decode cX9_most 4 = .ok (.ifCond .eq 12, 3) := by decide +kernel
theorem dX9_most_7 : decode cX9_most 7 = .ok (.iload_n 1, 1) := by decide +kernel
theorem dX9_most_8 : decode cX9_most 8 = .ok (.ifCond .lt 8, 3) := by decide +kernel
theorem dX9_most_11 : decode cX9_most 11 = .ok (.iload_n 1, 1) := by decide +kernel
theorem dX9_most_12 : decode cX9_most 12 = .ok (.iconst 1, 1) := by decide +kernel
theorem dX9_most_13 : decode cX9_most 13 = .ok (.if_icmp .le 10, 3) := by decide +kernel
theorem dX9_most_16 : decode cX9_most 16 = .ok (.aload_n 0, 1) := by decide +kernel
theorem dX9_most_17 : decode cX9_most 17 = .ok (.bipush (-5), 2) := by decide +kernel
theorem dX9_most_19 : decode cX9_most 19 = .ok (.invokevirtual 98, 3) := by decide +kernel
theorem dX9_most_22 : decode cX9_most 22 = .ok (.ireturn, 1) := by decide +kernel
theorem dX9_most_23 : decode cX9_most 23 = .ok (.iconst 0, 1) := by decide +kernel
theorem dX9_most_24 : decode cX9_most 24 = .ok (.istore_n 2, 1) := by decide +kernel
theorem dX9_most_25 : decode cX9_most 25 = .ok (.iconst 1, 1) := by decide +kernel
theorem dX9_most_26 : decode cX9_most 26 = .ok (.istore_n 3, 1) := by decide +kernel
theorem dX9_most_27 : decode cX9_most 27 = .ok (.iload_n 3, 1) := by decide +kernel
theorem dX9_most_28 : decode cX9_most 28 = .ok (.aload_n 0, 1) := by decide +kernel
theorem dX9_most_29 : decode cX9_most 29 = .ok (.getfield 91, 3) := by decide +kernel
theorem dX9_most_32 : decode cX9_most 32 = .ok (.if_icmp .ge 58, 3) := by decide +kernel
theorem dX9_most_35 : decode cX9_most 35 = .ok (.iload_n 1, 1) := by decide +kernel
theorem dX9_most_36 : decode cX9_most 36 = .ok (.ifCond .ne 25, 3) := by decide +kernel
theorem dX9_most_39 : decode cX9_most 39 = .ok (.aload_n 0, 1) := by decide +kernel
theorem dX9_most_40 : decode cX9_most 40 = .ok (.iload_n 3, 1) := by decide +kernel
theorem dX9_most_41 : decode cX9_most 41 = .ok (.iload_n 3, 1) := by decide +kernel
theorem dX9_most_42 : decode cX9_most 42 = .ok (.iconst 1, 1) := by decide +kernel
theorem dX9_most_43 : decode cX9_most 43 = .ok (.iadd, 1) := by decide +kernel
theorem dX9_most_44 : decode cX9_most 44 = .ok (.invokevirtual 241, 3) := by decide +kernel
theorem dX9_most_47 : decode cX9_most 47 = .ok (.aload_n 0, 1) := by decide +kernel
theorem dX9_most_48 : decode cX9_most 48 = .ok (.iload_n 2, 1) := by decide +kernel
theorem dX9_most_49 : decode cX9_most 49 = .ok (.iload_n 2, 1) := by decide +kernel
theorem dX9_most_50 : decode cX9_most 50 = .ok (.iconst 1, 1) := by decide +kernel
theorem dX9_most_51 : decode cX9_most 51 = .ok (.iadd, 1) := by decide +kernel
theorem dX9_most_52 : decode cX9_most 52 = .ok (.invokevirtual 241, 3) := by decide +kernel
theorem dX9_most_55 : decode cX9_most 55 = .ok (.if_icmp .le 29, 3) := by decide +kernel
theorem dX9_most_58 : decode cX9_most 58 = .ok (.goto 24, 3) := by decide +kernel
theorem dX9_most_61 : decode cX9_most 61 = .ok (.aload_n 0, 1) := by decide +kernel
theorem dX9_most_62 : decode cX9_most 62 = .ok (.aload_n 0, 1) := by decide +kernel
theorem dX9_most_63 : decode cX9_most 63 = .ok (.iload_n 3, 1) := by decide +kernel
theorem dX9_most_64 : decode cX9_most 64 = .ok (.invokevirtual 121, 3) := by decide +kernel
theorem dX9_most_67 : decode cX9_most 67 = .ok (.invokevirtual 205, 3) := by decide +kernel
theorem dX9_most_70 : decode cX9_most 70 = .ok (.aload_n 0, 1) := by decide +kernel
theorem dX9_most_71 : decode cX9_most 71 = .ok (.aload_n 0, 1) := by decide +kernel
theorem dX9_most_72 : decode cX9_most 72 = .ok (.iload_n 2, 1) := by decide +kernel
theorem dX9_most_73 : decode cX9_most 73 = .ok (.invokevirtual 121, 3) := by decide +kernel
theorem dX9_most_76 : decode cX9_most 76 = .ok (.invokevirtual 205, 3) := by decide +kernel
theorem dX9_most_79 : decode cX9_most 79 = .ok (.if_icmp .le 5, 3) := by decide +kernel
theorem dX9_most_82 : decode cX9_most 82 = .ok (.iload_n 3, 1) := by decide +kernel
theorem dX9_most_83 : decode cX9_most 83 = .ok (.istore_n 2, 1) := by decide +kernel
theorem dX9_most_84 : decode cX9_most 84 = .ok (.iinc 3 1, 3) := by decide +kernel
theorem dX9_most_87 : decode cX9_most 87 = .ok (.goto (-60), 3) := by decide +kernel
theorem dX9_most_90 : decode cX9_most 90 = .ok (.iload_n 2, 1) := by decide +kernel
theorem dX9_most_91 : decode cX9_most 91 = .ok (.ireturn, 1) := by decide +kernel
set_option maxRecDepth 20000 in
theorem ggX9_hours_X9_yards : GoodIn wsX9_hours wsX9_yards := goodIn_r _ [6, 7, 8, 9, 10, 11, 12, 13, 14, 15, 16, 17, 18, 19, 20, 21, 22, 23, 24, 25, 26, 27, 28, 29, 30, 31, 32, 33, 34, 35, 36, 37, 38, 39, 40, 41, 42, 43, 44, 45, 46, 47, 48] (by decide +kernel) (by decide +kernel)
set_option maxRecDepth 20000 in
theorem gX9_hours_X9_yards : GoodIn wsX9_hours (wsV RX9 241 RX9 yX9_yards wsX9_yards) := goodIn_app (goodIn_of _ (by decide +kernel)) ggX9_hours_X9_yards
theorem dX9_hours_0 : decode cX9_hours 0 = .ok (.aload_n 0, 1) := by decide +kernel
theorem dX9_hours_1 : decode cX9_hours 1 = .ok (.iconst 0, 1) := by decide +kernel
theorem dX9_hours_2 : decode cX9_hours 2 = .ok (.aload_n 0, 1) := by decide +kernel
theorem dX9_hours_3 : decode cX9_hours 3 = .ok (.getfield 91, 3) := by decide +kernel
theorem dX9_hours_6 : decode cX9_hours 6 = .ok (.invokevirtual 241, 3) := by decide +kernel
theorem dX9_hours_9 : decode cX9_hours 9 = .ok (.bipush 10, 2) := by decide +kernel
theorem dX9_hours_11 : decode cX9_hours 11 = .ok (.aload_n 0, 1) := by decide +kernel
theorem dX9_hours_12 : decode cX9_hours 12 = .ok (.getfield 91, 3) := by decide +kernel
theorem dX9_hours_15 : decode cX9_hours 15 = .ok (.imul, 1) := by decide +kernel
theorem dX9_hours_16 : decode cX9_hours 16 = .ok (.iadd, 1) := by decide +kernel
theorem dX9_hours_17 : decode cX9_hours 17 = .ok (.bipush 59, 2) := by decide +kernel
theorem dX9_hours_19 : decode cX9_hours 19 = .ok (.iadd, 1) := by decide +kernel
theorem dX9_hours_20 : decode cX9_hours 20 = .ok (.bipush 60, 2) := by decide +kernel
theorem dX9_hours_22 : decode cX9_hours 22 = .ok (.idiv, 1) := by decide +kernel
theorem dX9_hours_23 : decode cX9_hours 23 = .ok (.ireturn, 1) := by decide +kernel
set_option maxRecDepth 20000 in
theorem ggX9_barsOf_X9_wanted : GoodIn wsX9_barsOf wsX9_wanted := goodIn_r _ [6, 7, 8, 9, 10, 5, 11, 12, 13, 14, 15, 16, 17, 18, 19, 20, 21, 22, 23, 24, 25, 26, 27, 28, 29, 30, 31, 32, 33, 34, 35, 36, 37, 38, 39, 40, 41, 42, 43, 44, 45, 46, 47, 48, 49, 50, 51] (by decide +kernel) (by decide +kernel)
set_option maxRecDepth 20000 in
theorem gX9_barsOf_X9_wanted : GoodIn wsX9_barsOf (wsV RX9 183 RX9 yX9_wanted wsX9_wanted) := goodIn_app (goodIn_of _ (by decide +kernel)) ggX9_barsOf_X9_wanted
theorem dX9_barsOf_0 : decode cX9_barsOf 0 = .ok (.aload_n 0, 1) := by decide +kernel
theorem dX9_barsOf_1 : decode cX9_barsOf 1 = .ok (.iload_n 1, 1) := by decide +kernel
theorem dX9_barsOf_2 : decode cX9_barsOf 2 = .ok (.invokevirtual 183, 3) := by decide +kernel
theorem dX9_barsOf_5 : decode cX9_barsOf 5 = .ok (.istore_n 3, 1) := by decide +kernel
theorem dX9_barsOf_6 : decode cX9_barsOf 6 = .ok (.iload_n 3, 1) := by decide +kernel
theorem dX9_barsOf_7 : decode cX9_barsOf 7 = .ok (.ifCond .eq 5, 3) := by decide +kernel
theorem dX9_barsOf_10 : decode cX9_barsOf 10 = .ok (.iload_n 3, 1) := by decide +kernel
theorem dX9_barsOf_11 : decode cX9_barsOf 11 = .ok (.ireturn, 1) := by decide +kernel
theorem dX9_barsOf_12 : decode cX9_barsOf 12 = .ok (.iload_n 2, 1) := by decide +kernel
theorem dX9_barsOf_13 : decode cX9_barsOf 13 = .ok (.ifCond .ge 8, 3) := by decide +kernel
theorem dX9_barsOf_16 : decode cX9_barsOf 16 = .ok (.bipush (-4), 2) := by decide +kernel
theorem dX9_barsOf_18 : decode cX9_barsOf 18 = .ok (.goto 32, 3) := by decide +kernel
theorem dX9_barsOf_21 : decode cX9_barsOf 21 = .ok (.iload_n 2, 1) := by decide +kernel
theorem dX9_barsOf_22 : decode cX9_barsOf 22 = .ok (.aload_n 0, 1) := by decide +kernel
theorem dX9_barsOf_23 : decode cX9_barsOf 23 = .ok (.getfield 56, 3) := by decide +kernel
theorem dX9_barsOf_26 : decode cX9_barsOf 26 = .ok (.iload_n 1, 1) := by decide +kernel
theorem dX9_barsOf_27 : decode cX9_barsOf 27 = .ok (.iaload, 1) := by decide +kernel
theorem dX9_barsOf_28 : decode cX9_barsOf 28 = .ok (.iconst 4, 1) := by decide +kernel
theorem dX9_barsOf_29 : decode cX9_barsOf 29 = .ok (.idiv, 1) := by decide +kernel
theorem dX9_barsOf_30 : decode cX9_barsOf 30 = .ok (.if_icmp .le 8, 3) := by decide +kernel
theorem dX9_barsOf_33 : decode cX9_barsOf 33 = .ok (.bipush (-5), 2) := by decide +kernel
theorem dX9_barsOf_35 : decode cX9_barsOf 35 = .ok (.goto 15, 3) := by decide +kernel
theorem dX9_barsOf_38 : decode cX9_barsOf 38 = .ok (.iload_n 2, 1) := by decide +kernel
theorem dX9_barsOf_39 : decode cX9_barsOf 39 = .ok (.bipush 16, 2) := by decide +kernel
theorem dX9_barsOf_41 : decode cX9_barsOf 41 = .ok (.if_icmp .le 8, 3) := by decide +kernel
theorem dX9_barsOf_44 : decode cX9_barsOf 44 = .ok (.bipush (-6), 2) := by decide +kernel
theorem dX9_barsOf_46 : decode cX9_barsOf 46 = .ok (.goto 4, 3) := by decide +kernel
theorem dX9_barsOf_49 : decode cX9_barsOf 49 = .ok (.iconst 0, 1) := by decide +kernel
theorem dX9_barsOf_50 : decode cX9_barsOf 50 = .ok (.ireturn, 1) := by decide +kernel
set_option maxRecDepth 20000 in
theorem ggX9_wrongIn_X9_intAt : GoodIn wsX9_wrongIn wsX9_intAt := goodIn_r _ [5, 6, 15, 16, 17, 18, 19, 20, 21, 22, 23, 24, 25, 26, 27, 28, 29, 30, 31, 32, 33, 34, 35, 36, 37, 38, 39, 40, 41, 42, 43, 44, 45, 46, 47, 48, 49, 50, 51, 52, 53, 54] (by decide +kernel) (by decide +kernel)
set_option maxRecDepth 20000 in
theorem gX9_wrongIn_X9_intAt : GoodIn wsX9_wrongIn (wsV RX9 235 RX9 yX9_intAt wsX9_intAt) := goodIn_app (goodIn_of _ (by decide +kernel)) ggX9_wrongIn_X9_intAt
set_option maxRecDepth 20000 in
theorem ggX9_wrongIn_X9_isReading : GoodIn wsX9_wrongIn wsX9_isReading := goodIn_r _ [10] (by decide +kernel) (by decide +kernel)
set_option maxRecDepth 20000 in
theorem gX9_wrongIn_X9_isReading : GoodIn wsX9_wrongIn (wsV RX9 111 RX9 yX9_isReading wsX9_isReading) := goodIn_app (goodIn_of _ (by decide +kernel)) ggX9_wrongIn_X9_isReading
set_option maxRecDepth 20000 in
theorem ggX9_wrongIn_X9_isYards : GoodIn wsX9_wrongIn wsX9_isYards := goodIn_r _ [14] (by decide +kernel) (by decide +kernel)
set_option maxRecDepth 20000 in
theorem gX9_wrongIn_X9_isYards : GoodIn wsX9_wrongIn (wsV RX9 114 RX9 yX9_isYards wsX9_isYards) := goodIn_app (goodIn_of _ (by decide +kernel)) ggX9_wrongIn_X9_isYards
theorem dX9_wrongIn_0 : decode cX9_wrongIn 0 = .ok (.iconst 0, 1) := by decide +kernel
theorem dX9_wrongIn_1 : decode cX9_wrongIn 1 = .ok (.istore_n 3, 1) := by decide +kernel
theorem dX9_wrongIn_2 : decode cX9_wrongIn 2 = .ok (.iload_n 3, 1) := by decide +kernel
theorem dX9_wrongIn_3 : decode cX9_wrongIn 3 = .ok (.iconst 4, 1) := by decide +kernel
theorem dX9_wrongIn_4 : decode cX9_wrongIn 4 = .ok (.iload_n 2, 1) := by decide +kernel
theorem dX9_wrongIn_5 : decode cX9_wrongIn 5 = .ok (.imul, 1) := by decide +kernel
theorem dX9_wrongIn_6 : decode cX9_wrongIn 6 = .ok (.if_icmp .ge 47, 3) := by decide +kernel
theorem dX9_wrongIn_9 : decode cX9_wrongIn 9 = .ok (.iload_n 3, 1) := by decide +kernel
theorem dX9_wrongIn_10 : decode cX9_wrongIn 10 = .ok (.iconst 4, 1) := by decide +kernel
theorem dX9_wrongIn_11 : decode cX9_wrongIn 11 = .ok (.irem, 1) := by decide +kernel
theorem dX9_wrongIn_12 : decode cX9_wrongIn 12 = .ok (.iconst 2, 1) := by decide +kernel
theorem dX9_wrongIn_13 : decode cX9_wrongIn 13 = .ok (.if_icmp .ge 19, 3) := by decide +kernel
theorem dX9_wrongIn_16 : decode cX9_wrongIn 16 = .ok (.aload_n 0, 1) := by decide +kernel
theorem dX9_wrongIn_17 : decode cX9_wrongIn 17 = .ok (.aload_n 0, 1) := by decide +kernel
theorem dX9_wrongIn_18 : decode cX9_wrongIn 18 = .ok (.iload_n 1, 1) := by decide +kernel
theorem dX9_wrongIn_19 : decode cX9_wrongIn 19 = .ok (.iload_n 3, 1) := by decide +kernel
theorem dX9_wrongIn_20 : decode cX9_wrongIn 20 = .ok (.invokevirtual 235, 3) := by decide +kernel
theorem dX9_wrongIn_23 : decode cX9_wrongIn 23 = .ok (.invokevirtual 111, 3) := by decide +kernel
theorem dX9_wrongIn_26 : decode cX9_wrongIn 26 = .ok (.ifCond .ne 21, 3) := by decide +kernel
theorem dX9_wrongIn_29 : decode cX9_wrongIn 29 = .ok (.goto 16, 3) := by decide +kernel
theorem dX9_wrongIn_32 : decode cX9_wrongIn 32 = .ok (.aload_n 0, 1) := by decide +kernel
theorem dX9_wrongIn_33 : decode cX9_wrongIn 33 = .ok (.aload_n 0, 1) := by decide +kernel
theorem dX9_wrongIn_34 : decode cX9_wrongIn 34 = .ok (.iload_n 1, 1) := by decide +kernel
theorem dX9_wrongIn_35 : decode cX9_wrongIn 35 = .ok (.iload_n 3, 1) := by decide +kernel
theorem dX9_wrongIn_36 : decode cX9_wrongIn 36 = .ok (.invokevirtual 235, 3) := by decide +kernel
theorem dX9_wrongIn_39 : decode cX9_wrongIn 39 = .ok (.invokevirtual 114, 3) := by decide +kernel
theorem dX9_wrongIn_42 : decode cX9_wrongIn 42 = .ok (.ifCond .ne 5, 3) := by decide +kernel
theorem dX9_wrongIn_45 : decode cX9_wrongIn 45 = .ok (.iload_n 3, 1) := by decide +kernel
theorem dX9_wrongIn_46 : decode cX9_wrongIn 46 = .ok (.ireturn, 1) := by decide +kernel
theorem dX9_wrongIn_47 : decode cX9_wrongIn 47 = .ok (.iinc 3 1, 3) := by decide +kernel
theorem dX9_wrongIn_50 : decode cX9_wrongIn 50 = .ok (.goto (-48), 3) := by decide +kernel
theorem dX9_wrongIn_53 : decode cX9_wrongIn 53 = .ok (.iconst (-1), 1) := by decide +kernel
theorem dX9_wrongIn_54 : decode cX9_wrongIn 54 = .ok (.ireturn, 1) := by decide +kernel
set_option maxRecDepth 20000 in
theorem ggX9_barsRight_X9_barsOf : GoodIn wsX9_barsRight wsX9_barsOf := goodIn_r _ [5, 6, 7, 8, 9, 4, 10, 11, 12, 13, 14, 15, 33, 34, 35, 36, 37, 38, 39, 40, 41, 42, 43, 44, 45, 46, 47, 48, 49, 50, 51, 52, 53, 54, 55, 56, 57, 58, 59, 60, 61, 62, 63, 64, 65, 66, 67, 68, 69, 70, 71, 72] (by decide +kernel) (by decide +kernel)
set_option maxRecDepth 20000 in
theorem gX9_barsRight_X9_barsOf : GoodIn wsX9_barsRight (wsV RX9 255 RX9 yX9_barsOf wsX9_barsOf) := goodIn_app (goodIn_of _ (by decide +kernel)) ggX9_barsRight_X9_barsOf
set_option maxRecDepth 20000 in
theorem ggX9_barsRight_X9_wrongIn : GoodIn wsX9_barsRight wsX9_wrongIn := goodIn_r _ [19, 20, 21, 22, 4, 23, 24, 25, 26, 27, 28, 29, 30, 31, 32, 33, 34, 35, 36, 37, 38, 39, 40, 41, 42, 43, 44, 45, 46, 47, 48, 49, 50, 51, 52, 53, 54, 55, 56, 57, 58, 59, 60, 61, 62, 63, 64, 65, 66, 67, 68, 69, 70, 71, 72] (by decide +kernel) (by decide +kernel)
set_option maxRecDepth 20000 in
theorem gX9_barsRight_X9_wrongIn : GoodIn wsX9_barsRight (wsV RX9 258 RX9 yX9_wrongIn wsX9_wrongIn) := goodIn_app (goodIn_of _ (by decide +kernel)) ggX9_barsRight_X9_wrongIn
theorem dX9_barsRight_0 : decode cX9_barsRight 0 = .ok (.aload_n 0, 1) := by decide +kernel
theorem dX9_barsRight_1 : decode cX9_barsRight 1 = .ok (.iload_n 1, 1) := by decide +kernel
theorem dX9_barsRight_2 : decode cX9_barsRight 2 = .ok (.iload_n 2, 1) := by decide +kernel
theorem dX9_barsRight_3 : decode cX9_barsRight 3 = .ok (.invokevirtual 255, 3) := by decide +kernel
theorem dX9_barsRight_6 : decode cX9_barsRight 6 = .ok (.istore_n 3, 1) := by decide +kernel
theorem dX9_barsRight_7 : decode cX9_barsRight 7 = .ok (.iload_n 3, 1) := by decide +kernel
theorem dX9_barsRight_8 : decode cX9_barsRight 8 = .ok (.ifCond .ne 18, 3) := by decide +kernel
theorem dX9_barsRight_11 : decode cX9_barsRight 11 = .ok (.aload_n 0, 1) := by decide +kernel
theorem dX9_barsRight_12 : decode cX9_barsRight 12 = .ok (.iload_n 1, 1) := by decide +kernel
theorem dX9_barsRight_13 : decode cX9_barsRight 13 = .ok (.iload_n 2, 1) := by decide +kernel
theorem dX9_barsRight_14 : decode cX9_barsRight 14 = .ok (.invokevirtual 258, 3) := by decide +kernel
theorem dX9_barsRight_17 : decode cX9_barsRight 17 = .ok (.iconst (-1), 1) := by decide +kernel
theorem dX9_barsRight_18 : decode cX9_barsRight 18 = .ok (.if_icmp .eq 8, 3) := by decide +kernel
theorem dX9_barsRight_21 : decode cX9_barsRight 21 = .ok (.bipush (-6), 2) := by decide +kernel
theorem dX9_barsRight_23 : decode cX9_barsRight 23 = .ok (.goto 4, 3) := by decide +kernel
theorem dX9_barsRight_26 : decode cX9_barsRight 26 = .ok (.iload_n 3, 1) := by decide +kernel
theorem dX9_barsRight_27 : decode cX9_barsRight 27 = .ok (.ireturn, 1) := by decide +kernel
set_option maxRecDepth 20000 in
theorem ggX9_judge_X9_barsOf : GoodIn wsX9_judge wsX9_barsOf := goodIn_r _ [5, 6, 7, 8, 9, 4, 10, 11, 12, 13, 14, 15, 38, 39, 40, 41, 42, 43, 44, 45, 46, 47, 48, 49, 50, 51, 52, 53, 54, 55, 56, 57, 58, 59, 60, 61, 62, 63, 64, 65, 66, 67, 68, 69, 70, 71, 72, 73, 74, 75, 76, 77] (by decide +kernel) (by decide +kernel)
set_option maxRecDepth 20000 in
theorem gX9_judge_X9_barsOf : GoodIn wsX9_judge (wsV RX9 255 RX9 yX9_barsOf wsX9_barsOf) := goodIn_app (goodIn_of _ (by decide +kernel)) ggX9_judge_X9_barsOf
set_option maxRecDepth 20000 in
theorem ggX9_judge_X9_noTen : GoodIn wsX9_judge wsX9_noTen := goodIn_r _ [19, 20, 38, 39, 40, 41, 42, 43, 44, 45, 46, 47, 48, 49, 50, 51, 52, 53, 54, 55, 56, 57, 58, 59, 60, 61, 62, 63, 64, 65, 66, 67, 68, 69, 70, 71, 72, 73, 74, 75, 76, 77] (by decide +kernel) (by decide +kernel)
set_option maxRecDepth 20000 in
theorem gX9_judge_X9_noTen : GoodIn wsX9_judge (wsV RX9 238 RX9 yX9_noTen wsX9_noTen) := goodIn_app (goodIn_of _ (by decide +kernel)) ggX9_judge_X9_noTen
set_option maxRecDepth 20000 in
theorem ggX9_judge_X9_wrongIn : GoodIn wsX9_judge wsX9_wrongIn := goodIn_r _ [24, 25, 26, 27, 4, 28, 29, 30, 31, 32, 33, 34, 35, 36, 37, 38, 39, 40, 41, 42, 43, 44, 45, 46, 47, 48, 49, 50, 51, 52, 53, 54, 55, 56, 57, 58, 59, 60, 61, 62, 63, 64, 65, 66, 67, 68, 69, 70, 71, 72, 73, 74, 75, 76, 77] (by decide +kernel) (by decide +kernel)
set_option maxRecDepth 20000 in
theorem gX9_judge_X9_wrongIn : GoodIn wsX9_judge (wsV RX9 258 RX9 yX9_wrongIn wsX9_wrongIn) := goodIn_app (goodIn_of _ (by decide +kernel)) ggX9_judge_X9_wrongIn
theorem dX9_judge_0 : decode cX9_judge 0 = .ok (.aload_n 0, 1) := by decide +kernel
theorem dX9_judge_1 : decode cX9_judge 1 = .ok (.iload_n 1, 1) := by decide +kernel
theorem dX9_judge_2 : decode cX9_judge 2 = .ok (.iload_n 2, 1) := by decide +kernel
theorem dX9_judge_3 : decode cX9_judge 3 = .ok (.invokevirtual 255, 3) := by decide +kernel
theorem dX9_judge_6 : decode cX9_judge 6 = .ok (.istore_n 3, 1) := by decide +kernel
theorem dX9_judge_7 : decode cX9_judge 7 = .ok (.iload_n 3, 1) := by decide +kernel
theorem dX9_judge_8 : decode cX9_judge 8 = .ok (.ifCond .eq 11, 3) := by decide +kernel
theorem dX9_judge_11 : decode cX9_judge 11 = .ok (.aload_n 0, 1) := by decide +kernel
theorem dX9_judge_12 : decode cX9_judge 12 = .ok (.iload_n 3, 1) := by decide +kernel
theorem dX9_judge_13 : decode cX9_judge 13 = .ok (.invokevirtual 238, 3) := by decide +kernel
theorem dX9_judge_16 : decode cX9_judge 16 = .ok (.goto 9, 3) := by decide +kernel
theorem dX9_judge_19 : decode cX9_judge 19 = .ok (.aload_n 0, 1) := by decide +kernel
theorem dX9_judge_20 : decode cX9_judge 20 = .ok (.iload_n 1, 1) := by decide +kernel
theorem dX9_judge_21 : decode cX9_judge 21 = .ok (.iload_n 2, 1) := by decide +kernel
theorem dX9_judge_22 : decode cX9_judge 22 = .ok (.invokevirtual 258, 3) := by decide +kernel
theorem dX9_judge_25 : decode cX9_judge 25 = .ok (.ireturn, 1) := by decide +kernel
set_option maxRecDepth 20000 in
theorem ggX9_closes_X9_barsRight : GoodIn wsX9_closes wsX9_barsRight := goodIn_r _ [5, 6, 7, 8, 4, 9, 10, 11, 12, 13, 14, 15, 16, 17, 18, 19, 20, 21, 22, 23, 24, 25, 26, 27, 28, 29, 30, 31, 32, 33, 34, 35, 36, 43, 44, 45, 46, 47, 48, 49, 50, 51, 52, 53, 54, 55, 56, 57, 58, 59, 60, 61, 62, 63, 64, 65, 66, 67, 68, 69, 70, 71, 72, 73, 74, 75, 76, 77, 78, 79, 80, 81, 82] (by decide +kernel) (by decide +kernel)
set_option maxRecDepth 20000 in
theorem gX9_closes_X9_barsRight : GoodIn wsX9_closes (wsV RX9 261 RX9 yX9_barsRight wsX9_barsRight) := goodIn_app (goodIn_of _ (by decide +kernel)) ggX9_closes_X9_barsRight
set_option maxRecDepth 20000 in
theorem ggX9_closes_X9_noFar : GoodIn wsX9_closes wsX9_noFar := goodIn_r _ [40, 41, 42, 43, 44, 45, 46, 47, 48, 49, 50, 51, 52, 53, 54, 55, 56, 57, 58, 59, 60, 61, 62, 63, 64, 65, 66, 67, 68, 69, 70, 71, 72, 73, 74, 75, 76, 77, 78, 79, 80, 81, 82] (by decide +kernel) (by decide +kernel)
set_option maxRecDepth 20000 in
theorem gX9_closes_X9_noFar : GoodIn wsX9_closes (wsV RX9 105 RX9 yX9_noFar wsX9_noFar) := goodIn_app (goodIn_of _ (by decide +kernel)) ggX9_closes_X9_noFar
set_option maxRecDepth 20000 in
theorem ggX9_closes_X9_intAt : GoodIn wsX9_closes wsX9_intAt := goodIn_r _ [27, 28, 43, 44, 45, 46, 47, 48, 49, 50, 51, 52, 53, 54, 55, 56, 57, 58, 59, 60, 61, 62, 63, 64, 65, 66, 67, 68, 69, 70, 71, 72, 73, 74, 75, 76, 77, 78, 79, 80, 81, 82] (by decide +kernel) (by decide +kernel)
set_option maxRecDepth 20000 in
theorem gX9_closes_X9_intAt : GoodIn wsX9_closes (wsV RX9 235 RX9 yX9_intAt wsX9_intAt) := goodIn_app (goodIn_of _ (by decide +kernel)) ggX9_closes_X9_intAt
theorem dX9_closes_0 : decode cX9_closes 0 = .ok (.aload_n 0, 1) := by decide +kernel
theorem dX9_closes_1 : decode cX9_closes 1 = .ok (.iload_n 1, 1) := by decide +kernel
theorem dX9_closes_2 : decode cX9_closes 2 = .ok (.iload_n 2, 1) := by decide +kernel
theorem dX9_closes_3 : decode cX9_closes 3 = .ok (.invokevirtual 261, 3) := by decide +kernel
theorem dX9_closes_6 : decode cX9_closes 6 = .ok (.istore_n 3, 1) := by decide +kernel
theorem dX9_closes_7 : decode cX9_closes 7 = .ok (.iconst 0, 1) := by decide +kernel
theorem dX9_closes_8 : decode cX9_closes 8 = .ok (.istore 4, 2) := by decide +kernel
theorem dX9_closes_10 : decode cX9_closes 10 = .ok (.iload_n 3, 1) := by decide +kernel
theorem dX9_closes_11 : decode cX9_closes 11 = .ok (.ifCond .eq 9, 3) := by decide +kernel
theorem dX9_closes_14 : decode cX9_closes 14 = .ok (.aload_n 0, 1) := by decide +kernel
theorem dX9_closes_15 : decode cX9_closes 15 = .ok (.iload_n 3, 1) := by decide +kernel
theorem dX9_closes_16 : decode cX9_closes 16 = .ok (.invokevirtual 105, 3) := by decide +kernel
theorem dX9_closes_19 : decode cX9_closes 19 = .ok (.ireturn, 1) := by decide +kernel
theorem dX9_closes_20 : decode cX9_closes 20 = .ok (.iconst 0, 1) := by decide +kernel
theorem dX9_closes_21 : decode cX9_closes 21 = .ok (.istore 5, 2) := by decide +kernel
theorem dX9_closes_23 : decode cX9_closes 23 = .ok (.iload 5, 2) := by decide +kernel
theorem dX9_closes_25 : decode cX9_closes 25 = .ok (.iload_n 2, 1) := by decide +kernel
theorem dX9_closes_26 : decode cX9_closes 26 = .ok (.if_icmp .ge 35, 3) := by decide +kernel
theorem dX9_closes_29 : decode cX9_closes 29 = .ok (.iload 4, 2) := by decide +kernel
theorem dX9_closes_31 : decode cX9_closes 31 = .ok (.aload_n 0, 1) := by decide +kernel
theorem dX9_closes_32 : decode cX9_closes 32 = .ok (.iload_n 1, 1) := by decide +kernel
theorem dX9_closes_33 : decode cX9_closes 33 = .ok (.iconst 4, 1) := by decide +kernel
theorem dX9_closes_34 : decode cX9_closes 34 = .ok (.iload 5, 2) := by decide +kernel
theorem dX9_closes_36 : decode cX9_closes 36 = .ok (.imul, 1) := by decide +kernel
theorem dX9_closes_37 : decode cX9_closes 37 = .ok (.invokevirtual 235, 3) := by decide +kernel
theorem dX9_closes_40 : decode cX9_closes 40 = .ok (.aload_n 0, 1) := by decide +kernel
theorem dX9_closes_41 : decode cX9_closes 41 = .ok (.iload_n 1, 1) := by decide +kernel
theorem dX9_closes_42 : decode cX9_closes 42 = .ok (.iconst 4, 1) := by decide +kernel
theorem dX9_closes_43 : decode cX9_closes 43 = .ok (.iload 5, 2) := by decide +kernel
theorem dX9_closes_45 : decode cX9_closes 45 = .ok (.imul, 1) := by decide +kernel
theorem dX9_closes_46 : decode cX9_closes 46 = .ok (.iconst 1, 1) := by decide +kernel
theorem dX9_closes_47 : decode cX9_closes 47 = .ok (.iadd, 1) := by decide +kernel
theorem dX9_closes_48 : decode cX9_closes 48 = .ok (.invokevirtual 235, 3) := by decide +kernel
theorem dX9_closes_51 : decode cX9_closes 51 = .ok (.isub, 1) := by decide +kernel
theorem dX9_closes_52 : decode cX9_closes 52 = .ok (.iadd, 1) := by decide +kernel
theorem dX9_closes_53 : decode cX9_closes 53 = .ok (.istore 4, 2) := by decide +kernel
theorem dX9_closes_55 : decode cX9_closes 55 = .ok (.iinc 5 1, 3) := by decide +kernel
theorem dX9_closes_58 : decode cX9_closes 58 = .ok (.goto (-35), 3) := by decide +kernel
theorem dX9_closes_61 : decode cX9_closes 61 = .ok (.iload 4, 2) := by decide +kernel
theorem dX9_closes_63 : decode cX9_closes 63 = .ok (.ireturn, 1) := by decide +kernel
set_option maxRecDepth 20000 in
theorem ggX9_done_X9_barsRight : GoodIn wsX9_done wsX9_barsRight := goodIn_r _ [6, 7, 8, 9, 5, 10, 11, 12, 13, 14, 15, 16, 17, 18, 19, 20, 21, 22, 23, 24, 25, 26, 27, 28, 29, 30, 31, 32, 33, 34, 35, 36, 37, 55, 56, 57, 58, 59, 60, 61, 62, 63, 64, 65, 66, 67, 68, 69, 70, 71, 72, 73, 74, 75, 76, 77, 78, 79, 80, 81, 82, 83, 84, 85, 86, 87, 88, 89, 90, 91, 92, 93, 94] (by decide +kernel) (by decide +kernel)
set_option maxRecDepth 20000 in
theorem gX9_done_X9_barsRight : GoodIn wsX9_done (wsV RX9 261 RX9 yX9_barsRight wsX9_barsRight) := goodIn_app (goodIn_of _ (by decide +kernel)) ggX9_done_X9_barsRight
set_option maxRecDepth 20000 in
theorem ggX9_done_X9_no : GoodIn wsX9_done wsX9_no := goodIn_r _ [41, 42, 55, 56, 57, 58, 59, 60, 61, 62, 63, 64, 65, 66, 67, 68, 69, 70, 71, 72, 73, 74, 75, 76, 77, 78, 79, 80, 81, 82, 83, 84, 85, 86, 87, 88, 89, 90, 91, 92, 93, 94] (by decide +kernel) (by decide +kernel)
set_option maxRecDepth 20000 in
theorem gX9_done_X9_no : GoodIn wsX9_done (wsV RX9 98 RX9 yX9_no wsX9_no) := goodIn_app (goodIn_of _ (by decide +kernel)) ggX9_done_X9_no
set_option maxRecDepth 20000 in
theorem ggX9_done_X9_intAt : GoodIn wsX9_done wsX9_intAt := goodIn_r _ [28, 29, 55, 56, 57, 58, 59, 60, 61, 62, 63, 64, 65, 66, 67, 68, 69, 70, 71, 72, 73, 74, 75, 76, 77, 78, 79, 80, 81, 82, 83, 84, 85, 86, 87, 88, 89, 90, 91, 92, 93, 94] (by decide +kernel) (by decide +kernel)
set_option maxRecDepth 20000 in
theorem gX9_done_X9_intAt : GoodIn wsX9_done (wsV RX9 235 RX9 yX9_intAt wsX9_intAt) := goodIn_app (goodIn_of _ (by decide +kernel)) ggX9_done_X9_intAt
set_option maxRecDepth 20000 in
theorem ggX9_done_X9_adds : GoodIn wsX9_done wsX9_adds := goodIn_r _ [46, 47, 1, 48, 49, 50, 51, 52, 53, 54, 55, 56, 57, 58, 59, 60, 61, 62, 63, 64, 65, 66, 67, 68, 69, 70, 71, 72, 73, 74, 75, 76, 77, 78, 79, 80, 81, 82, 83, 84, 85, 86, 87, 88, 89, 90, 91, 92, 93, 94] (by decide +kernel) (by decide +kernel)
set_option maxRecDepth 20000 in
theorem gX9_done_X9_adds : GoodIn wsX9_done (wsV RX9 117 RX9 yX9_adds wsX9_adds) := goodIn_app (goodIn_of _ (by decide +kernel)) ggX9_done_X9_adds
theorem dX9_done_0 : decode cX9_done 0 = .ok (.aload_n 0, 1) := by decide +kernel
theorem dX9_done_1 : decode cX9_done 1 = .ok (.iload_n 1, 1) := by decide +kernel
theorem dX9_done_2 : decode cX9_done 2 = .ok (.iload_n 2, 1) := by decide +kernel
theorem dX9_done_3 : decode cX9_done 3 = .ok (.invokevirtual 261, 3) := by decide +kernel
theorem dX9_done_6 : decode cX9_done 6 = .ok (.istore_n 3, 1) := by decide +kernel
theorem dX9_done_7 : decode cX9_done 7 = .ok (.iload_n 3, 1) := by decide +kernel
theorem dX9_done_8 : decode cX9_done 8 = .ok (.ifCond .ne 17, 3) := by decide +kernel
theorem dX9_done_11 : decode cX9_done 11 = .ok (.aload_n 0, 1) := by decide +kernel
theorem dX9_done_12 : decode cX9_done 12 = .ok (.getfield 91, 3) := by decide +kernel
theorem dX9_done_15 : decode cX9_done 15 = .ok (.iload_n 2, 1) := by decide +kernel
theorem dX9_done_16 : decode cX9_done 16 = .ok (.iadd, 1) := by decide +kernel
theorem dX9_done_17 : decode cX9_done 17 = .ok (.bipush 16, 2) := by decide +kernel
theorem dX9_done_19 : decode cX9_done 19 = .ok (.if_icmp .le 6, 3) := by decide +kernel
theorem dX9_done_22 : decode cX9_done 22 = .ok (.bipush (-7), 2) := by decide +kernel
theorem dX9_done_24 : decode cX9_done 24 = .ok (.istore_n 3, 1) := by decide +kernel
theorem dX9_done_25 : decode cX9_done 25 = .ok (.iload_n 3, 1) := by decide +kernel
theorem dX9_done_26 : decode cX9_done 26 = .ok (.ifCond .eq 9, 3) := by decide +kernel
theorem dX9_done_29 : decode cX9_done 29 = .ok (.aload_n 0, 1) := by decide +kernel
theorem dX9_done_30 : decode cX9_done 30 = .ok (.iload_n 3, 1) := by decide +kernel
theorem dX9_done_31 : decode cX9_done 31 = .ok (.invokevirtual 98, 3) := by decide +kernel
theorem dX9_done_34 : decode cX9_done 34 = .ok (.ireturn, 1) := by decide +kernel
theorem dX9_done_35 : decode cX9_done 35 = .ok (.iconst 0, 1) := by decide +kernel
theorem dX9_done_36 : decode cX9_done 36 = .ok (.istore 4, 2) := by decide +kernel
theorem dX9_done_38 : decode cX9_done 38 = .ok (.iload 4, 2) := by decide +kernel
theorem dX9_done_40 : decode cX9_done 40 = .ok (.iconst 4, 1) := by decide +kernel
theorem dX9_done_41 : decode cX9_done 41 = .ok (.iload_n 2, 1) := by decide +kernel
theorem dX9_done_42 : decode cX9_done 42 = .ok (.imul, 1) := by decide +kernel
theorem dX9_done_43 : decode cX9_done 43 = .ok (.if_icmp .ge 50, 3) := by decide +kernel
theorem dX9_done_46 : decode cX9_done 46 = .ok (.aload_n 0, 1) := by decide +kernel
theorem dX9_done_47 : decode cX9_done 47 = .ok (.iconst 0, 1) := by decide +kernel
theorem dX9_done_48 : decode cX9_done 48 = .ok (.iconst 0, 1) := by decide +kernel
theorem dX9_done_49 : decode cX9_done 49 = .ok (.aload_n 0, 1) := by decide +kernel
theorem dX9_done_50 : decode cX9_done 50 = .ok (.iload_n 1, 1) := by decide +kernel
theorem dX9_done_51 : decode cX9_done 51 = .ok (.iload 4, 2) := by decide +kernel
theorem dX9_done_53 : decode cX9_done 53 = .ok (.invokevirtual 235, 3) := by decide +kernel
theorem dX9_done_56 : decode cX9_done 56 = .ok (.aload_n 0, 1) := by decide +kernel
theorem dX9_done_57 : decode cX9_done 57 = .ok (.iload_n 1, 1) := by decide +kernel
theorem dX9_done_58 : decode cX9_done 58 = .ok (.iload 4, 2) := by decide +kernel
theorem dX9_done_60 : decode cX9_done 60 = .ok (.iconst 1, 1) := by decide +kernel
theorem dX9_done_61 : decode cX9_done 61 = .ok (.iadd, 1) := by decide +kernel
theorem dX9_done_62 : decode cX9_done 62 = .ok (.invokevirtual 235, 3) := by decide +kernel
theorem dX9_done_65 : decode cX9_done 65 = .ok (.aload_n 0, 1) := by decide +kernel
theorem dX9_done_66 : decode cX9_done 66 = .ok (.iload_n 1, 1) := by decide +kernel
theorem dX9_done_67 : decode cX9_done 67 = .ok (.iload 4, 2) := by decide +kernel
theorem dX9_done_69 : decode cX9_done 69 = .ok (.iconst 2, 1) := by decide +kernel
theorem dX9_done_70 : decode cX9_done 70 = .ok (.iadd, 1) := by decide +kernel
theorem dX9_done_71 : decode cX9_done 71 = .ok (.invokevirtual 235, 3) := by decide +kernel
theorem dX9_done_74 : decode cX9_done 74 = .ok (.aload_n 0, 1) := by decide +kernel
theorem dX9_done_75 : decode cX9_done 75 = .ok (.iload_n 1, 1) := by decide +kernel
theorem dX9_done_76 : decode cX9_done 76 = .ok (.iload 4, 2) := by decide +kernel
theorem dX9_done_78 : decode cX9_done 78 = .ok (.iconst 3, 1) := by decide +kernel
theorem dX9_done_79 : decode cX9_done 79 = .ok (.iadd, 1) := by decide +kernel
theorem dX9_done_80 : decode cX9_done 80 = .ok (.invokevirtual 235, 3) := by decide +kernel
theorem dX9_done_83 : decode cX9_done 83 = .ok (.invokevirtual 117, 3) := by decide +kernel
theorem dX9_done_86 : decode cX9_done 86 = .ok (.pop, 1) := by decide +kernel
theorem dX9_done_87 : decode cX9_done 87 = .ok (.iinc 4 4, 3) := by decide +kernel
theorem dX9_done_90 : decode cX9_done 90 = .ok (.goto (-52), 3) := by decide +kernel
theorem dX9_done_93 : decode cX9_done 93 = .ok (.aload_n 0, 1) := by decide +kernel
theorem dX9_done_94 : decode cX9_done 94 = .ok (.getfield 91, 3) := by decide +kernel
theorem dX9_done_97 : decode cX9_done 97 = .ok (.ireturn, 1) := by decide +kernel
theorem dX9_forgets_0 : decode cX9_forgets 0 = .ok (.iconst 0, 1) := by decide +kernel
theorem dX9_forgets_1 : decode cX9_forgets 1 = .ok (.istore_n 1, 1) := by decide +kernel
theorem dX9_forgets_2 : decode cX9_forgets 2 = .ok (.iload_n 1, 1) := by decide +kernel
theorem dX9_forgets_3 : decode cX9_forgets 3 = .ok (.bipush 8, 2) := by decide +kernel
theorem dX9_forgets_5 : decode cX9_forgets 5 = .ok (.if_icmp .ge 39, 3) := by decide +kernel
theorem dX9_forgets_8 : decode cX9_forgets 8 = .ok (.aload_n 0, 1) := by decide +kernel
theorem dX9_forgets_9 : decode cX9_forgets 9 = .ok (.getfield 50, 3) := by decide +kernel
theorem dX9_forgets_12 : decode cX9_forgets 12 = .ok (.iload_n 1, 1) := by decide +kernel
theorem dX9_forgets_13 : decode cX9_forgets 13 = .ok (.iaload, 1) := by decide +kernel
theorem dX9_forgets_14 : decode cX9_forgets 14 = .ok (.iconst 2, 1) := by decide +kernel
theorem dX9_forgets_15 : decode cX9_forgets 15 = .ok (.if_icmp .ne 23, 3) := by decide +kernel
theorem dX9_forgets_18 : decode cX9_forgets 18 = .ok (.aload_n 0, 1) := by decide +kernel
theorem dX9_forgets_19 : decode cX9_forgets 19 = .ok (.getfield 59, 3) := by decide +kernel
theorem dX9_forgets_22 : decode cX9_forgets 22 = .ok (.iload_n 1, 1) := by decide +kernel
theorem dX9_forgets_23 : decode cX9_forgets 23 = .ok (.iaload, 1) := by decide +kernel
theorem dX9_forgets_24 : decode cX9_forgets 24 = .ok (.aload_n 0, 1) := by decide +kernel
theorem dX9_forgets_25 : decode cX9_forgets 25 = .ok (.getfield 91, 3) := by decide +kernel
theorem dX9_forgets_28 : decode cX9_forgets 28 = .ok (.if_icmp .lt 10, 3) := by decide +kernel
theorem dX9_forgets_31 : decode cX9_forgets 31 = .ok (.aload_n 0, 1) := by decide +kernel
theorem dX9_forgets_32 : decode cX9_forgets 32 = .ok (.getfield 50, 3) := by decide +kernel
theorem dX9_forgets_35 : decode cX9_forgets 35 = .ok (.iload_n 1, 1) := by decide +kernel
theorem dX9_forgets_36 : decode cX9_forgets 36 = .ok (.iconst 0, 1) := by decide +kernel
theorem dX9_forgets_37 : decode cX9_forgets 37 = .ok (.iastore, 1) := by decide +kernel
theorem dX9_forgets_38 : decode cX9_forgets 38 = .ok (.iinc 1 1, 3) := by decide +kernel
theorem dX9_forgets_41 : decode cX9_forgets 41 = .ok (.goto (-39), 3) := by decide +kernel
theorem dX9_forgets_44 : decode cX9_forgets 44 = .ok (.return_, 1) := by decide +kernel
set_option maxRecDepth 20000 in
theorem ggX9_drop_X9_no : GoodIn wsX9_drop wsX9_no := goodIn_r _ [6, 7, 14, 15, 16, 17, 18, 19, 20, 21, 22, 23, 24, 25, 26, 27, 28, 29, 30, 31, 32, 33, 34, 35, 36, 37, 38, 39, 40, 41, 42, 43, 44, 45, 46, 47, 48, 49, 50, 51, 52, 53] (by decide +kernel) (by decide +kernel)
set_option maxRecDepth 20000 in
theorem gX9_drop_X9_no : GoodIn wsX9_drop (wsV RX9 98 RX9 yX9_no wsX9_no) := goodIn_app (goodIn_of _ (by decide +kernel)) ggX9_drop_X9_no
set_option maxRecDepth 20000 in
theorem ggX9_drop_X9_forgets : GoodIn wsX9_drop wsX9_forgets := goodIn_r _ [11, 12, 13, 1, 14, 15, 16, 17, 18, 19, 20, 21, 22, 23, 24, 25, 26, 27, 28, 29, 30, 31, 32, 33, 34, 35, 36, 37, 38, 39, 40, 41, 42, 43, 44, 45, 46, 47, 48, 49, 50, 51, 52, 53] (by decide +kernel) (by decide +kernel)
set_option maxRecDepth 20000 in
theorem gX9_drop_X9_forgets : GoodIn wsX9_drop (wsV RX9 264 RX9 yX9_forgets wsX9_forgets) := goodIn_app (goodIn_of _ (by decide +kernel)) ggX9_drop_X9_forgets
theorem dX9_drop_0 : decode cX9_drop 0 = .ok (.aload_n 0, 1) := by decide +kernel
theorem dX9_drop_1 : decode cX9_drop 1 = .ok (.getfield 91, 3) := by decide +kernel
theorem dX9_drop_4 : decode cX9_drop 4 = .ok (.ifCond .ne 10, 3) := by decide +kernel
theorem dX9_drop_7 : decode cX9_drop 7 = .ok (.aload_n 0, 1) := by decide +kernel
theorem dX9_drop_8 : decode cX9_drop 8 = .ok (.bipush (-6), 2) := by decide +kernel
theorem dX9_drop_10 : decode cX9_drop 10 = .ok (.invokevirtual 98, 3) := by decide +kernel
theorem dX9_drop_13 : decode cX9_drop 13 = .ok (.ireturn, 1) := by decide +kernel
theorem dX9_drop_14 : decode cX9_drop 14 = .ok (.aload_n 0, 1) := by decide +kernel
theorem dX9_drop_15 : decode cX9_drop 15 = .ok (.dup, 1) := by decide +kernel
theorem dX9_drop_16 : decode cX9_drop 16 = .ok (.getfield 91, 3) := by decide +kernel
theorem dX9_drop_19 : decode cX9_drop 19 = .ok (.iconst 1, 1) := by decide +kernel
theorem dX9_drop_20 : decode cX9_drop 20 = .ok (.isub, 1) := by decide +kernel
theorem dX9_drop_21 : decode cX9_drop 21 = .ok (.putfield 91, 3) := by decide +kernel
theorem dX9_drop_24 : decode cX9_drop 24 = .ok (.aload_n 0, 1) := by decide +kernel
theorem dX9_drop_25 : decode cX9_drop 25 = .ok (.invokevirtual 264, 3) := by decide +kernel
theorem dX9_drop_28 : decode cX9_drop 28 = .ok (.aload_n 0, 1) := by decide +kernel
theorem dX9_drop_29 : decode cX9_drop 29 = .ok (.getfield 91, 3) := by decide +kernel
theorem dX9_drop_32 : decode cX9_drop 32 = .ok (.ireturn, 1) := by decide +kernel
theorem dX9_turns_0 : decode cX9_turns 0 = .ok (.iconst 0, 1) := by decide +kernel
theorem dX9_turns_1 : decode cX9_turns 1 = .ok (.istore_n 2, 1) := by decide +kernel
theorem dX9_turns_2 : decode cX9_turns 2 = .ok (.iload_n 2, 1) := by decide +kernel
theorem dX9_turns_3 : decode cX9_turns 3 = .ok (.aload_n 0, 1) := by decide +kernel
theorem dX9_turns_4 : decode cX9_turns 4 = .ok (.getfield 91, 3) := by decide +kernel
theorem dX9_turns_7 : decode cX9_turns 7 = .ok (.if_icmp .ge 25, 3) := by decide +kernel
theorem dX9_turns_10 : decode cX9_turns 10 = .ok (.aload_n 0, 1) := by decide +kernel
theorem dX9_turns_11 : decode cX9_turns 11 = .ok (.getfield 84, 3) := by decide +kernel
theorem dX9_turns_14 : decode cX9_turns 14 = .ok (.iload_n 2, 1) := by decide +kernel
theorem dX9_turns_15 : decode cX9_turns 15 = .ok (.aload_n 1, 1) := by decide +kernel
theorem dX9_turns_16 : decode cX9_turns 16 = .ok (.aload_n 0, 1) := by decide +kernel
theorem dX9_turns_17 : decode cX9_turns 17 = .ok (.getfield 91, 3) := by decide +kernel
theorem dX9_turns_20 : decode cX9_turns 20 = .ok (.iconst 1, 1) := by decide +kernel
theorem dX9_turns_21 : decode cX9_turns 21 = .ok (.isub, 1) := by decide +kernel
theorem dX9_turns_22 : decode cX9_turns 22 = .ok (.iload_n 2, 1) := by decide +kernel
theorem dX9_turns_23 : decode cX9_turns 23 = .ok (.isub, 1) := by decide +kernel
theorem dX9_turns_24 : decode cX9_turns 24 = .ok (.iaload, 1) := by decide +kernel
theorem dX9_turns_25 : decode cX9_turns 25 = .ok (.iastore, 1) := by decide +kernel
theorem dX9_turns_26 : decode cX9_turns 26 = .ok (.iinc 2 1, 3) := by decide +kernel
theorem dX9_turns_29 : decode cX9_turns 29 = .ok (.goto (-27), 3) := by decide +kernel
theorem dX9_turns_32 : decode cX9_turns 32 = .ok (.iconst 0, 1) := by decide +kernel
theorem dX9_turns_33 : decode cX9_turns 33 = .ok (.istore_n 2, 1) := by decide +kernel
theorem dX9_turns_34 : decode cX9_turns 34 = .ok (.iload_n 2, 1) := by decide +kernel
theorem dX9_turns_35 : decode cX9_turns 35 = .ok (.aload_n 0, 1) := by decide +kernel
theorem dX9_turns_36 : decode cX9_turns 36 = .ok (.getfield 91, 3) := by decide +kernel
theorem dX9_turns_39 : decode cX9_turns 39 = .ok (.if_icmp .ge 18, 3) := by decide +kernel
theorem dX9_turns_42 : decode cX9_turns 42 = .ok (.aload_n 1, 1) := by decide +kernel
theorem dX9_turns_43 : decode cX9_turns 43 = .ok (.iload_n 2, 1) := by decide +kernel
theorem dX9_turns_44 : decode cX9_turns 44 = .ok (.aload_n 0, 1) := by decide +kernel
theorem dX9_turns_45 : decode cX9_turns 45 = .ok (.getfield 84, 3) := by decide +kernel
theorem dX9_turns_48 : decode cX9_turns 48 = .ok (.iload_n 2, 1) := by decide +kernel
theorem dX9_turns_49 : decode cX9_turns 49 = .ok (.iaload, 1) := by decide +kernel
theorem dX9_turns_50 : decode cX9_turns 50 = .ok (.iastore, 1) := by decide +kernel
theorem dX9_turns_51 : decode cX9_turns 51 = .ok (.iinc 2 1, 3) := by decide +kernel
theorem dX9_turns_54 : decode cX9_turns 54 = .ok (.goto (-20), 3) := by decide +kernel
theorem dX9_turns_57 : decode cX9_turns 57 = .ok (.return_, 1) := by decide +kernel
theorem dX9_changes_0 : decode cX9_changes 0 = .ok (.iconst 0, 1) := by decide +kernel
theorem dX9_changes_1 : decode cX9_changes 1 = .ok (.istore_n 3, 1) := by decide +kernel
theorem dX9_changes_2 : decode cX9_changes 2 = .ok (.iload_n 3, 1) := by decide +kernel
theorem dX9_changes_3 : decode cX9_changes 3 = .ok (.aload_n 0, 1) := by decide +kernel
theorem dX9_changes_4 : decode cX9_changes 4 = .ok (.getfield 91, 3) := by decide +kernel
theorem dX9_changes_7 : decode cX9_changes 7 = .ok (.if_icmp .ge 25, 3) := by decide +kernel
theorem dX9_changes_10 : decode cX9_changes 10 = .ok (.aload_n 1, 1) := by decide +kernel
theorem dX9_changes_11 : decode cX9_changes 11 = .ok (.iload_n 3, 1) := by decide +kernel
theorem dX9_changes_12 : decode cX9_changes 12 = .ok (.iaload, 1) := by decide +kernel
theorem dX9_changes_13 : decode cX9_changes 13 = .ok (.istore 4, 2) := by decide +kernel
theorem dX9_changes_15 : decode cX9_changes 15 = .ok (.aload_n 1, 1) := by decide +kernel
theorem dX9_changes_16 : decode cX9_changes 16 = .ok (.iload_n 3, 1) := by decide +kernel
theorem dX9_changes_17 : decode cX9_changes 17 = .ok (.aload_n 2, 1) := by decide +kernel
theorem dX9_changes_18 : decode cX9_changes 18 = .ok (.iload_n 3, 1) := by decide +kernel
theorem dX9_changes_19 : decode cX9_changes 19 = .ok (.iaload, 1) := by decide +kernel
theorem dX9_changes_20 : decode cX9_changes 20 = .ok (.iastore, 1) := by decide +kernel
theorem dX9_changes_21 : decode cX9_changes 21 = .ok (.aload_n 2, 1) := by decide +kernel
theorem dX9_changes_22 : decode cX9_changes 22 = .ok (.iload_n 3, 1) := by decide +kernel
theorem dX9_changes_23 : decode cX9_changes 23 = .ok (.iload 4, 2) := by decide +kernel
theorem dX9_changes_25 : decode cX9_changes 25 = .ok (.iastore, 1) := by decide +kernel
theorem dX9_changes_26 : decode cX9_changes 26 = .ok (.iinc 3 1, 3) := by decide +kernel
theorem dX9_changes_29 : decode cX9_changes 29 = .ok (.goto (-27), 3) := by decide +kernel
theorem dX9_changes_32 : decode cX9_changes 32 = .ok (.return_, 1) := by decide +kernel
set_option maxRecDepth 20000 in
theorem ggX9_turn_X9_turns : GoodIn wsX9_turn wsX9_turns := goodIn_r _ [14, 9, 15, 49, 50, 51, 52, 53, 54, 55, 56, 57, 58, 59, 60, 61, 62, 63, 64, 65, 66, 67, 68, 69, 70, 71, 72, 73, 74, 75, 76, 77, 78, 79, 80, 81, 82, 83, 84, 85, 86, 87, 88] (by decide +kernel) (by decide +kernel)
set_option maxRecDepth 20000 in
theorem gX9_turn_X9_turns : GoodIn wsX9_turn (wsV RX9 267 RX9 yX9_turns wsX9_turns) := goodIn_app (goodIn_of _ (by decide +kernel)) ggX9_turn_X9_turns
set_option maxRecDepth 20000 in
theorem ggX9_turn_X9_changes : GoodIn wsX9_turn wsX9_changes := goodIn_r _ [19, 9, 49, 50, 51, 52, 53, 54, 55, 56, 57, 58, 59, 60, 61, 62, 63, 64, 65, 66, 67, 68, 69, 70, 71, 72, 73, 74, 75, 76, 77, 78, 79, 80, 81, 82, 83, 84, 85, 86, 87, 88] (by decide +kernel) (by decide +kernel)
set_option maxRecDepth 20000 in
theorem gX9_turn_X9_changes : GoodIn wsX9_turn (wsV RX9 271 RX9 yX9_changes wsX9_changes) := goodIn_app (goodIn_of _ (by decide +kernel)) ggX9_turn_X9_changes
set_option maxRecDepth 20000 in
theorem ggX9_turn_X9_offAll : GoodIn wsX9_turn wsX9_offAll := goodIn_r _ [23, 9, 24, 25, 26, 13, 27, 28, 29, 30, 31, 32, 33, 34, 35, 3, 4, 36, 37, 38, 39, 1, 40, 5, 6, 8, 2, 41, 42, 43, 44, 45, 46, 47, 48, 49, 50, 51, 52, 53, 54, 55, 56, 57, 58, 59, 60, 61, 62, 63, 64, 65, 66, 67, 68, 69, 70, 71, 72, 73, 74, 75, 76, 77, 78, 79, 80, 81, 82, 83, 84, 85, 86, 87, 88] (by decide +kernel) (by decide +kernel)
set_option maxRecDepth 20000 in
theorem gX9_turn_X9_offAll : GoodIn wsX9_turn (wsV RX9 199 RX9 yX9_offAll wsX9_offAll) := goodIn_app (goodIn_of _ (by decide +kernel)) ggX9_turn_X9_offAll
theorem dX9_turn_0 : decode cX9_turn 0 = .ok (.aload_n 0, 1) := by decide +kernel
theorem dX9_turn_1 : decode cX9_turn 1 = .ok (.aload_n 0, 1) := by decide +kernel
theorem dX9_turn_2 : decode cX9_turn 2 = .ok (.getfield 26, 3) := by decide +kernel
theorem dX9_turn_5 : decode cX9_turn 5 = .ok (.invokevirtual 267, 3) := by decide +kernel
theorem dX9_turn_8 : decode cX9_turn 8 = .ok (.aload_n 0, 1) := by decide +kernel
theorem dX9_turn_9 : decode cX9_turn 9 = .ok (.aload_n 0, 1) := by decide +kernel
theorem dX9_turn_10 : decode cX9_turn 10 = .ok (.getfield 29, 3) := by decide +kernel
theorem dX9_turn_13 : decode cX9_turn 13 = .ok (.invokevirtual 267, 3) := by decide +kernel
theorem dX9_turn_16 : decode cX9_turn 16 = .ok (.aload_n 0, 1) := by decide +kernel
theorem dX9_turn_17 : decode cX9_turn 17 = .ok (.aload_n 0, 1) := by decide +kernel
theorem dX9_turn_18 : decode cX9_turn 18 = .ok (.getfield 32, 3) := by decide +kernel
theorem dX9_turn_21 : decode cX9_turn 21 = .ok (.invokevirtual 267, 3) := by decide +kernel
theorem dX9_turn_24 : decode cX9_turn 24 = .ok (.aload_n 0, 1) := by decide +kernel
theorem dX9_turn_25 : decode cX9_turn 25 = .ok (.aload_n 0, 1) := by decide +kernel
theorem dX9_turn_26 : decode cX9_turn 26 = .ok (.getfield 35, 3) := by decide +kernel
theorem dX9_turn_29 : decode cX9_turn 29 = .ok (.invokevirtual 267, 3) := by decide +kernel
theorem dX9_turn_32 : decode cX9_turn 32 = .ok (.aload_n 0, 1) := by decide +kernel
theorem dX9_turn_33 : decode cX9_turn 33 = .ok (.aload_n 0, 1) := by decide +kernel
theorem dX9_turn_34 : decode cX9_turn 34 = .ok (.getfield 38, 3) := by decide +kernel
theorem dX9_turn_37 : decode cX9_turn 37 = .ok (.invokevirtual 267, 3) := by decide +kernel
theorem dX9_turn_40 : decode cX9_turn 40 = .ok (.aload_n 0, 1) := by decide +kernel
theorem dX9_turn_41 : decode cX9_turn 41 = .ok (.aload_n 0, 1) := by decide +kernel
theorem dX9_turn_42 : decode cX9_turn 42 = .ok (.getfield 41, 3) := by decide +kernel
theorem dX9_turn_45 : decode cX9_turn 45 = .ok (.invokevirtual 267, 3) := by decide +kernel
theorem dX9_turn_48 : decode cX9_turn 48 = .ok (.aload_n 0, 1) := by decide +kernel
theorem dX9_turn_49 : decode cX9_turn 49 = .ok (.aload_n 0, 1) := by decide +kernel
theorem dX9_turn_50 : decode cX9_turn 50 = .ok (.getfield 44, 3) := by decide +kernel
theorem dX9_turn_53 : decode cX9_turn 53 = .ok (.invokevirtual 267, 3) := by decide +kernel
theorem dX9_turn_56 : decode cX9_turn 56 = .ok (.aload_n 0, 1) := by decide +kernel
theorem dX9_turn_57 : decode cX9_turn 57 = .ok (.aload_n 0, 1) := by decide +kernel
theorem dX9_turn_58 : decode cX9_turn 58 = .ok (.getfield 47, 3) := by decide +kernel
theorem dX9_turn_61 : decode cX9_turn 61 = .ok (.invokevirtual 267, 3) := by decide +kernel
theorem dX9_turn_64 : decode cX9_turn 64 = .ok (.aload_n 0, 1) := by decide +kernel
theorem dX9_turn_65 : decode cX9_turn 65 = .ok (.aload_n 0, 1) := by decide +kernel
theorem dX9_turn_66 : decode cX9_turn 66 = .ok (.getfield 32, 3) := by decide +kernel
theorem dX9_turn_69 : decode cX9_turn 69 = .ok (.aload_n 0, 1) := by decide +kernel
theorem dX9_turn_70 : decode cX9_turn 70 = .ok (.getfield 35, 3) := by decide +kernel
theorem dX9_turn_73 : decode cX9_turn 73 = .ok (.invokevirtual 271, 3) := by decide +kernel
theorem dX9_turn_76 : decode cX9_turn 76 = .ok (.aload_n 0, 1) := by decide +kernel
theorem dX9_turn_77 : decode cX9_turn 77 = .ok (.aload_n 0, 1) := by decide +kernel
theorem dX9_turn_78 : decode cX9_turn 78 = .ok (.getfield 38, 3) := by decide +kernel
theorem dX9_turn_81 : decode cX9_turn 81 = .ok (.aload_n 0, 1) := by decide +kernel
theorem dX9_turn_82 : decode cX9_turn 82 = .ok (.getfield 41, 3) := by decide +kernel
theorem dX9_turn_85 : decode cX9_turn 85 = .ok (.invokevirtual 271, 3) := by decide +kernel
theorem dX9_turn_88 : decode cX9_turn 88 = .ok (.iconst 0, 1) := by decide +kernel
theorem dX9_turn_89 : decode cX9_turn 89 = .ok (.istore_n 1, 1) := by decide +kernel
theorem dX9_turn_90 : decode cX9_turn 90 = .ok (.iload_n 1, 1) := by decide +kernel
theorem dX9_turn_91 : decode cX9_turn 91 = .ok (.aload_n 0, 1) := by decide +kernel
theorem dX9_turn_92 : decode cX9_turn 92 = .ok (.getfield 91, 3) := by decide +kernel
theorem dX9_turn_95 : decode cX9_turn 95 = .ok (.if_icmp .ge 23, 3) := by decide +kernel
theorem dX9_turn_98 : decode cX9_turn 98 = .ok (.aload_n 0, 1) := by decide +kernel
theorem dX9_turn_99 : decode cX9_turn 99 = .ok (.getfield 47, 3) := by decide +kernel
theorem dX9_turn_102 : decode cX9_turn 102 = .ok (.iload_n 1, 1) := by decide +kernel
theorem dX9_turn_103 : decode cX9_turn 103 = .ok (.iconst 1, 1) := by decide +kernel
theorem dX9_turn_104 : decode cX9_turn 104 = .ok (.aload_n 0, 1) := by decide +kernel
theorem dX9_turn_105 : decode cX9_turn 105 = .ok (.getfield 47, 3) := by decide +kernel
theorem dX9_turn_108 : decode cX9_turn 108 = .ok (.iload_n 1, 1) := by decide +kernel
theorem dX9_turn_109 : decode cX9_turn 109 = .ok (.iaload, 1) := by decide +kernel
theorem dX9_turn_110 : decode cX9_turn 110 = .ok (.isub, 1) := by decide +kernel
theorem dX9_turn_111 : decode cX9_turn 111 = .ok (.iastore, 1) := by decide +kernel
theorem dX9_turn_112 : decode cX9_turn 112 = .ok (.iinc 1 1, 3) := by decide +kernel
theorem dX9_turn_115 : decode cX9_turn 115 = .ok (.goto (-25), 3) := by decide +kernel
theorem dX9_turn_118 : decode cX9_turn 118 = .ok (.aload_n 0, 1) := by decide +kernel
theorem dX9_turn_119 : decode cX9_turn 119 = .ok (.invokevirtual 199, 3) := by decide +kernel
theorem dX9_turn_122 : decode cX9_turn 122 = .ok (.ireturn, 1) := by decide +kernel
theorem dX9_draw_0 : decode cX9_draw 0 = .ok (.aload_n 0, 1) := by decide +kernel
theorem dX9_draw_1 : decode cX9_draw 1 = .ok (.aload_n 0, 1) := by decide +kernel
theorem dX9_draw_2 : decode cX9_draw 2 = .ok (.getfield 16, 3) := by decide +kernel
theorem dX9_draw_5 : decode cX9_draw 5 = .ok (.ldc_w 275, 3) := by decide +kernel
theorem dX9_draw_8 : decode cX9_draw 8 = .ok (.imul, 1) := by decide +kernel
theorem dX9_draw_9 : decode cX9_draw 9 = .ok (.sipush 12345, 3) := by decide +kernel
theorem dX9_draw_12 : decode cX9_draw 12 = .ok (.iadd, 1) := by decide +kernel
theorem dX9_draw_13 : decode cX9_draw 13 = .ok (.putfield 16, 3) := by decide +kernel
theorem dX9_draw_16 : decode cX9_draw 16 = .ok (.aload_n 0, 1) := by decide +kernel
theorem dX9_draw_17 : decode cX9_draw 17 = .ok (.getfield 16, 3) := by decide +kernel
theorem dX9_draw_20 : decode cX9_draw 20 = .ok (.bipush 16, 2) := by decide +kernel
theorem dX9_draw_22 : decode cX9_draw 22 = .ok (.iushr, 1) := by decide +kernel
theorem dX9_draw_23 : decode cX9_draw 23 = .ok (.iload_n 1, 1) := by decide +kernel
theorem dX9_draw_24 : decode cX9_draw 24 = .ok (.irem, 1) := by decide +kernel
theorem dX9_draw_25 : decode cX9_draw 25 = .ok (.ireturn, 1) := by decide +kernel
set_option maxRecDepth 20000 in
theorem ggX9_seasons_X9_noFar : GoodIn wsX9_seasons wsX9_noFar := goodIn_r _ [8, 9, 10, 51, 52, 53, 54, 55, 56, 57, 58, 59, 60, 61, 62, 63, 64, 65, 66, 67, 68, 69, 70, 71, 72, 73, 74, 75, 76, 77, 78, 79, 80, 81, 82, 83, 84, 85, 86, 87, 88, 89, 90] (by decide +kernel) (by decide +kernel)
set_option maxRecDepth 20000 in
theorem gX9_seasons_X9_noFar : GoodIn wsX9_seasons (wsV RX9 105 RX9 yX9_noFar wsX9_noFar) := goodIn_app (goodIn_of _ (by decide +kernel)) ggX9_seasons_X9_noFar
set_option maxRecDepth 20000 in
theorem ggX9_seasons_X9_draw : GoodIn wsX9_seasons wsX9_draw := goodIn_r _ [14, 15, 16, 51, 52, 53, 54, 55, 56, 57, 58, 59, 60, 61, 62, 63, 64, 65, 66, 67, 68, 69, 70, 71, 72, 73, 74, 75, 76, 77, 78, 79, 80, 81, 82, 83, 84, 85, 86, 87, 88, 89, 90] (by decide +kernel) (by decide +kernel)
set_option maxRecDepth 20000 in
theorem gX9_seasons_X9_draw : GoodIn wsX9_seasons (wsV RX9 276 RX9 yX9_draw wsX9_draw) := goodIn_app (goodIn_of _ (by decide +kernel)) ggX9_seasons_X9_draw
set_option maxRecDepth 20000 in
theorem ggX9_seasons_X9_offAll : GoodIn wsX9_seasons wsX9_offAll := goodIn_r _ [20, 1, 21, 22, 23, 7, 24, 25, 26, 27, 28, 29, 30, 31, 32, 2, 3, 33, 34, 35, 36, 37, 38, 39, 40, 41, 42, 43, 44, 45, 46, 47, 48, 49, 50, 51, 52, 53, 54, 55, 56, 57, 58, 59, 60, 61, 62, 63, 64, 65, 66, 67, 68, 69, 70, 71, 72, 73, 74, 75, 76, 77, 78, 79, 80, 81, 82, 83, 84, 85, 86, 87, 88, 89, 90] (by decide +kernel) (by decide +kernel)
set_option maxRecDepth 20000 in
theorem gX9_seasons_X9_offAll : GoodIn wsX9_seasons (wsV RX9 199 RX9 yX9_offAll wsX9_offAll) := goodIn_app (goodIn_of _ (by decide +kernel)) ggX9_seasons_X9_offAll
theorem dX9_seasons_0 : decode cX9_seasons 0 = .ok (.aload_n 0, 1) := by decide +kernel
theorem dX9_seasons_1 : decode cX9_seasons 1 = .ok (.getfield 91, 3) := by decide +kernel
theorem dX9_seasons_4 : decode cX9_seasons 4 = .ok (.ifCond .ne 10, 3) := by decide +kernel
theorem dX9_seasons_7 : decode cX9_seasons 7 = .ok (.aload_n 0, 1) := by decide +kernel
theorem dX9_seasons_8 : decode cX9_seasons 8 = .ok (.bipush (-5), 2) := by decide +kernel
theorem dX9_seasons_10 : decode cX9_seasons 10 = .ok (.invokevirtual 105, 3) := by decide +kernel
theorem dX9_seasons_13 : decode cX9_seasons 13 = .ok (.ireturn, 1) := by decide +kernel
theorem dX9_seasons_14 : decode cX9_seasons 14 = .ok (.iload_n 1, 1) := by decide +kernel
theorem dX9_seasons_15 : decode cX9_seasons 15 = .ok (.iconst 1, 1) := by decide +kernel
theorem dX9_seasons_16 : decode cX9_seasons 16 = .ok (.if_icmp .lt 9, 3) := by decide +kernel
theorem dX9_seasons_19 : decode cX9_seasons 19 = .ok (.iload_n 1, 1) := by decide +kernel
theorem dX9_seasons_20 : decode cX9_seasons 20 = .ok (.bipush 60, 2) := by decide +kernel
theorem dX9_seasons_22 : decode cX9_seasons 22 = .ok (.if_icmp .le 10, 3) := by decide +kernel
theorem dX9_seasons_25 : decode cX9_seasons 25 = .ok (.aload_n 0, 1) := by decide +kernel
theorem dX9_seasons_26 : decode cX9_seasons 26 = .ok (.bipush (-6), 2) := by decide +kernel
theorem dX9_seasons_28 : decode cX9_seasons 28 = .ok (.invokevirtual 105, 3) := by decide +kernel
theorem dX9_seasons_31 : decode cX9_seasons 31 = .ok (.ireturn, 1) := by decide +kernel
theorem dX9_seasons_32 : decode cX9_seasons 32 = .ok (.iconst 0, 1) := by decide +kernel
theorem dX9_seasons_33 : decode cX9_seasons 33 = .ok (.istore_n 2, 1) := by decide +kernel
theorem dX9_seasons_34 : decode cX9_seasons 34 = .ok (.iload_n 2, 1) := by decide +kernel
theorem dX9_seasons_35 : decode cX9_seasons 35 = .ok (.iload_n 1, 1) := by decide +kernel
theorem dX9_seasons_36 : decode cX9_seasons 36 = .ok (.if_icmp .ge 96, 3) := by decide +kernel
theorem dX9_seasons_39 : decode cX9_seasons 39 = .ok (.aload_n 0, 1) := by decide +kernel
theorem dX9_seasons_40 : decode cX9_seasons 40 = .ok (.aload_n 0, 1) := by decide +kernel
theorem dX9_seasons_41 : decode cX9_seasons 41 = .ok (.getfield 91, 3) := by decide +kernel
theorem dX9_seasons_44 : decode cX9_seasons 44 = .ok (.invokevirtual 276, 3) := by decide +kernel
theorem dX9_seasons_47 : decode cX9_seasons 47 = .ok (.istore_n 3, 1) := by decide +kernel
theorem dX9_seasons_48 : decode cX9_seasons 48 = .ok (.aload_n 0, 1) := by decide +kernel
theorem dX9_seasons_49 : decode cX9_seasons 49 = .ok (.getfield 32, 3) := by decide +kernel
theorem dX9_seasons_52 : decode cX9_seasons 52 = .ok (.iload_n 3, 1) := by decide +kernel
theorem dX9_seasons_53 : decode cX9_seasons 53 = .ok (.iaload, 1) := by decide +kernel
theorem dX9_seasons_54 : decode cX9_seasons 54 = .ok (.aload_n 0, 1) := by decide +kernel
theorem dX9_seasons_55 : decode cX9_seasons 55 = .ok (.iconst 3, 1) := by decide +kernel
theorem dX9_seasons_56 : decode cX9_seasons 56 = .ok (.invokevirtual 276, 3) := by decide +kernel
theorem dX9_seasons_59 : decode cX9_seasons 59 = .ok (.iadd, 1) := by decide +kernel
theorem dX9_seasons_60 : decode cX9_seasons 60 = .ok (.iconst 1, 1) := by decide +kernel
theorem dX9_seasons_61 : decode cX9_seasons 61 = .ok (.isub, 1) := by decide +kernel
theorem dX9_seasons_62 : decode cX9_seasons 62 = .ok (.istore 4, 2) := by decide +kernel
theorem dX9_seasons_64 : decode cX9_seasons 64 = .ok (.aload_n 0, 1) := by decide +kernel
theorem dX9_seasons_65 : decode cX9_seasons 65 = .ok (.getfield 32, 3) := by decide +kernel
theorem dX9_seasons_68 : decode cX9_seasons 68 = .ok (.iload_n 3, 1) := by decide +kernel
theorem dX9_seasons_69 : decode cX9_seasons 69 = .ok (.iload 4, 2) := by decide +kernel
theorem dX9_seasons_71 : decode cX9_seasons 71 = .ok (.ifCond .ge 7, 3) := by decide +kernel
theorem dX9_seasons_74 : decode cX9_seasons 74 = .ok (.iconst 0, 1) := by decide +kernel
theorem dX9_seasons_75 : decode cX9_seasons 75 = .ok (.goto 19, 3) := by decide +kernel
theorem dX9_seasons_78 : decode cX9_seasons 78 = .ok (.iload 4, 2) := by decide +kernel
theorem dX9_seasons_80 : decode cX9_seasons 80 = .ok (.sipush 9999, 3) := by decide +kernel
theorem dX9_seasons_83 : decode cX9_seasons 83 = .ok (.if_icmp .le 9, 3) := by decide +kernel
theorem dX9_seasons_86 : decode cX9_seasons 86 = .ok (.sipush 9999, 3) := by decide +kernel
theorem dX9_seasons_89 : decode cX9_seasons 89 = .ok (.goto 5, 3) := by decide +kernel
theorem dX9_seasons_92 : decode cX9_seasons 92 = .ok (.iload 4, 2) := by decide +kernel
theorem dX9_seasons_94 : decode cX9_seasons 94 = .ok (.iastore, 1) := by decide +kernel
theorem dX9_seasons_95 : decode cX9_seasons 95 = .ok (.aload_n 0, 1) := by decide +kernel
theorem dX9_seasons_96 : decode cX9_seasons 96 = .ok (.bipush 20, 2) := by decide +kernel
theorem dX9_seasons_98 : decode cX9_seasons 98 = .ok (.invokevirtual 276, 3) := by decide +kernel
theorem dX9_seasons_101 : decode cX9_seasons 101 = .ok (.ifCond .ne 25, 3) := by decide +kernel
theorem dX9_seasons_104 : decode cX9_seasons 104 = .ok (.aload_n 0, 1) := by decide +kernel
theorem dX9_seasons_105 : decode cX9_seasons 105 = .ok (.getfield 35, 3) := by decide +kernel
theorem dX9_seasons_108 : decode cX9_seasons 108 = .ok (.iload_n 3, 1) := by decide +kernel
theorem dX9_seasons_109 : decode cX9_seasons 109 = .ok (.iaload, 1) := by decide +kernel
theorem dX9_seasons_110 : decode cX9_seasons 110 = .ok (.bipush 100, 2) := by decide +kernel
theorem dX9_seasons_112 : decode cX9_seasons 112 = .ok (.if_icmp .lt 14, 3) := by decide +kernel
theorem dX9_seasons_115 : decode cX9_seasons 115 = .ok (.aload_n 0, 1) := by decide +kernel
theorem dX9_seasons_116 : decode cX9_seasons 116 = .ok (.getfield 35, 3) := by decide +kernel
theorem dX9_seasons_119 : decode cX9_seasons 119 = .ok (.iload_n 3, 1) := by decide +kernel
theorem dX9_seasons_120 : decode cX9_seasons 120 = .ok (.dup2, 1) := by decide +kernel
theorem dX9_seasons_121 : decode cX9_seasons 121 = .ok (.iaload, 1) := by decide +kernel
theorem dX9_seasons_122 : decode cX9_seasons 122 = .ok (.bipush 100, 2) := by decide +kernel
theorem dX9_seasons_124 : decode cX9_seasons 124 = .ok (.isub, 1) := by decide +kernel
theorem dX9_seasons_125 : decode cX9_seasons 125 = .ok (.iastore, 1) := by decide +kernel
theorem dX9_seasons_126 : decode cX9_seasons 126 = .ok (.iinc 2 1, 3) := by decide +kernel
theorem dX9_seasons_129 : decode cX9_seasons 129 = .ok (.goto (-95), 3) := by decide +kernel
theorem dX9_seasons_132 : decode cX9_seasons 132 = .ok (.aload_n 0, 1) := by decide +kernel
theorem dX9_seasons_133 : decode cX9_seasons 133 = .ok (.invokevirtual 199, 3) := by decide +kernel
theorem dX9_seasons_136 : decode cX9_seasons 136 = .ok (.ireturn, 1) := by decide +kernel
theorem dX9_seed_0 : decode cX9_seed 0 = .ok (.aload_n 0, 1) := by decide +kernel
theorem dX9_seed_1 : decode cX9_seed 1 = .ok (.getfield 16, 3) := by decide +kernel
theorem dX9_seed_4 : decode cX9_seed 4 = .ok (.istore_n 2, 1) := by decide +kernel
theorem dX9_seed_5 : decode cX9_seed 5 = .ok (.aload_n 0, 1) := by decide +kernel
theorem dX9_seed_6 : decode cX9_seed 6 = .ok (.iload_n 1, 1) := by decide +kernel
theorem dX9_seed_7 : decode cX9_seed 7 = .ok (.putfield 16, 3) := by decide +kernel
theorem dX9_seed_10 : decode cX9_seed 10 = .ok (.iload_n 2, 1) := by decide +kernel
theorem dX9_seed_11 : decode cX9_seed 11 = .ok (.ireturn, 1) := by decide +kernel
theorem dX9_body_0 : decode cX9_body 0 = .ok (.aload_n 0, 1) := by decide +kernel
theorem dX9_body_1 : decode cX9_body 1 = .ok (.getfield 279, 3) := by decide +kernel
theorem dX9_body_4 : decode cX9_body 4 = .ok (.bipush 20, 2) := by decide +kernel
theorem dX9_body_6 : decode cX9_body 6 = .ok (.if_icmp .ge 13, 3) := by decide +kernel
theorem dX9_body_9 : decode cX9_body 9 = .ok (.aload_n 0, 1) := by decide +kernel
theorem dX9_body_10 : decode cX9_body 10 = .ok (.getfield 87, 3) := by decide +kernel
theorem dX9_body_13 : decode cX9_body 13 = .ok (.aload_n 0, 1) := by decide +kernel
theorem dX9_body_14 : decode cX9_body 14 = .ok (.getfield 279, 3) := by decide +kernel
theorem dX9_body_17 : decode cX9_body 17 = .ok (.iload_n 1, 1) := by decide +kernel
theorem dX9_body_18 : decode cX9_body 18 = .ok (.iastore, 1) := by decide +kernel
theorem dX9_body_19 : decode cX9_body 19 = .ok (.aload_n 0, 1) := by decide +kernel
theorem dX9_body_20 : decode cX9_body 20 = .ok (.dup, 1) := by decide +kernel
theorem dX9_body_21 : decode cX9_body 21 = .ok (.getfield 279, 3) := by decide +kernel
theorem dX9_body_24 : decode cX9_body 24 = .ok (.iconst 1, 1) := by decide +kernel
theorem dX9_body_25 : decode cX9_body 25 = .ok (.iadd, 1) := by decide +kernel
theorem dX9_body_26 : decode cX9_body 26 = .ok (.putfield 279, 3) := by decide +kernel
theorem dX9_body_29 : decode cX9_body 29 = .ok (.return_, 1) := by decide +kernel
set_option maxRecDepth 20000 in
theorem ggX9_reading_X9_body : GoodIn wsX9_reading wsX9_body := goodIn_r _ [7, 8, 9, 10, 11, 12, 13, 14, 15, 16, 17, 18, 19, 20, 21, 22, 23, 24, 25, 26, 27, 28, 29, 30, 31, 32, 33, 34, 35, 36, 37, 38, 39, 40, 41, 42, 43, 44, 45, 46, 47, 48, 49] (by decide +kernel) (by decide +kernel)
set_option maxRecDepth 20000 in
theorem gX9_reading_X9_body : GoodIn wsX9_reading (wsV RX9 282 RX9 yX9_body wsX9_body) := goodIn_app (goodIn_of _ (by decide +kernel)) ggX9_reading_X9_body
theorem dX9_reading_0 : decode cX9_reading 0 = .ok (.aload_n 0, 1) := by decide +kernel
theorem dX9_reading_1 : decode cX9_reading 1 = .ok (.getfield 26, 3) := by decide +kernel
theorem dX9_reading_4 : decode cX9_reading 4 = .ok (.iload_n 1, 1) := by decide +kernel
theorem dX9_reading_5 : decode cX9_reading 5 = .ok (.iaload, 1) := by decide +kernel
theorem dX9_reading_6 : decode cX9_reading 6 = .ok (.istore_n 3, 1) := by decide +kernel
theorem dX9_reading_7 : decode cX9_reading 7 = .ok (.iload_n 3, 1) := by decide +kernel
theorem dX9_reading_8 : decode cX9_reading 8 = .ok (.bipush 6, 2) := by decide +kernel
theorem dX9_reading_10 : decode cX9_reading 10 = .ok (.if_icmp .ne 9, 3) := by decide +kernel
theorem dX9_reading_13 : decode cX9_reading 13 = .ok (.aload_n 0, 1) := by decide +kernel
theorem dX9_reading_14 : decode cX9_reading 14 = .ok (.bipush 70, 2) := by decide +kernel
theorem dX9_reading_16 : decode cX9_reading 16 = .ok (.invokevirtual 282, 3) := by decide +kernel
theorem dX9_reading_19 : decode cX9_reading 19 = .ok (.iload_n 3, 1) := by decide +kernel
theorem dX9_reading_20 : decode cX9_reading 20 = .ok (.iconst 4, 1) := by decide +kernel
theorem dX9_reading_21 : decode cX9_reading 21 = .ok (.if_icmp .eq 9, 3) := by decide +kernel
theorem dX9_reading_24 : decode cX9_reading 24 = .ok (.iload_n 3, 1) := by decide +kernel
theorem dX9_reading_25 : decode cX9_reading 25 = .ok (.bipush 6, 2) := by decide +kernel
theorem dX9_reading_27 : decode cX9_reading 27 = .ok (.if_icmp .ne 9, 3) := by decide +kernel
theorem dX9_reading_30 : decode cX9_reading 30 = .ok (.aload_n 0, 1) := by decide +kernel
theorem dX9_reading_31 : decode cX9_reading 31 = .ok (.bipush 51, 2) := by decide +kernel
theorem dX9_reading_33 : decode cX9_reading 33 = .ok (.invokevirtual 282, 3) := by decide +kernel
theorem dX9_reading_36 : decode cX9_reading 36 = .ok (.iload_n 3, 1) := by decide +kernel
theorem dX9_reading_37 : decode cX9_reading 37 = .ok (.iconst 1, 1) := by decide +kernel
theorem dX9_reading_38 : decode cX9_reading 38 = .ok (.if_icmp .eq 8, 3) := by decide +kernel
theorem dX9_reading_41 : decode cX9_reading 41 = .ok (.iload_n 3, 1) := by decide +kernel
theorem dX9_reading_42 : decode cX9_reading 42 = .ok (.iconst 3, 1) := by decide +kernel
theorem dX9_reading_43 : decode cX9_reading 43 = .ok (.if_icmp .ne 9, 3) := by decide +kernel
theorem dX9_reading_46 : decode cX9_reading 46 = .ok (.aload_n 0, 1) := by decide +kernel
theorem dX9_reading_47 : decode cX9_reading 47 = .ok (.bipush 20, 2) := by decide +kernel
theorem dX9_reading_49 : decode cX9_reading 49 = .ok (.invokevirtual 282, 3) := by decide +kernel
theorem dX9_reading_52 : decode cX9_reading 52 = .ok (.aload_n 0, 1) := by decide +kernel
theorem dX9_reading_53 : decode cX9_reading 53 = .ok (.bipush 10, 2) := by decide +kernel
theorem dX9_reading_55 : decode cX9_reading 55 = .ok (.invokevirtual 282, 3) := by decide +kernel
theorem dX9_reading_58 : decode cX9_reading 58 = .ok (.iload_n 2, 1) := by decide +kernel
theorem dX9_reading_59 : decode cX9_reading 59 = .ok (.iload_n 1, 1) := by decide +kernel
theorem dX9_reading_60 : decode cX9_reading 60 = .ok (.iadd, 1) := by decide +kernel
theorem dX9_reading_61 : decode cX9_reading 61 = .ok (.istore 4, 2) := by decide +kernel
theorem dX9_reading_63 : decode cX9_reading 63 = .ok (.iload_n 3, 1) := by decide +kernel
theorem dX9_reading_64 : decode cX9_reading 64 = .ok (.iconst 1, 1) := by decide +kernel
theorem dX9_reading_65 : decode cX9_reading 65 = .ok (.if_icmp .eq 8, 3) := by decide +kernel
theorem dX9_reading_68 : decode cX9_reading 68 = .ok (.iload_n 3, 1) := by decide +kernel
theorem dX9_reading_69 : decode cX9_reading 69 = .ok (.iconst 3, 1) := by decide +kernel
theorem dX9_reading_70 : decode cX9_reading 70 = .ok (.if_icmp .ne 14, 3) := by decide +kernel
theorem dX9_reading_73 : decode cX9_reading 73 = .ok (.iload 4, 2) := by decide +kernel
theorem dX9_reading_75 : decode cX9_reading 75 = .ok (.aload_n 0, 1) := by decide +kernel
theorem dX9_reading_76 : decode cX9_reading 76 = .ok (.getfield 29, 3) := by decide +kernel
theorem dX9_reading_79 : decode cX9_reading 79 = .ok (.iload_n 1, 1) := by decide +kernel
theorem dX9_reading_80 : decode cX9_reading 80 = .ok (.iaload, 1) := by decide +kernel
theorem dX9_reading_81 : decode cX9_reading 81 = .ok (.iadd, 1) := by decide +kernel
theorem dX9_reading_82 : decode cX9_reading 82 = .ok (.istore 4, 2) := by decide +kernel
theorem dX9_reading_84 : decode cX9_reading 84 = .ok (.iload_n 3, 1) := by decide +kernel
theorem dX9_reading_85 : decode cX9_reading 85 = .ok (.iconst 4, 1) := by decide +kernel
theorem dX9_reading_86 : decode cX9_reading 86 = .ok (.if_icmp .eq 9, 3) := by decide +kernel
theorem dX9_reading_89 : decode cX9_reading 89 = .ok (.iload_n 3, 1) := by decide +kernel
theorem dX9_reading_90 : decode cX9_reading 90 = .ok (.bipush 6, 2) := by decide +kernel
theorem dX9_reading_92 : decode cX9_reading 92 = .ok (.if_icmp .ne 9, 3) := by decide +kernel
theorem dX9_reading_95 : decode cX9_reading 95 = .ok (.iload 4, 2) := by decide +kernel
theorem dX9_reading_97 : decode cX9_reading 97 = .ok (.iload_n 1, 1) := by decide +kernel
theorem dX9_reading_98 : decode cX9_reading 98 = .ok (.isub, 1) := by decide +kernel
theorem dX9_reading_99 : decode cX9_reading 99 = .ok (.istore 4, 2) := by decide +kernel
theorem dX9_reading_101 : decode cX9_reading 101 = .ok (.iload_n 3, 1) := by decide +kernel
theorem dX9_reading_102 : decode cX9_reading 102 = .ok (.bipush 6, 2) := by decide +kernel
theorem dX9_reading_104 : decode cX9_reading 104 = .ok (.if_icmp .ne 10, 3) := by decide +kernel
theorem dX9_reading_107 : decode cX9_reading 107 = .ok (.iload 4, 2) := by decide +kernel
theorem dX9_reading_109 : decode cX9_reading 109 = .ok (.iconst 2, 1) := by decide +kernel
theorem dX9_reading_110 : decode cX9_reading 110 = .ok (.imul, 1) := by decide +kernel
theorem dX9_reading_111 : decode cX9_reading 111 = .ok (.goto 5, 3) := by decide +kernel
theorem dX9_reading_114 : decode cX9_reading 114 = .ok (.iload 4, 2) := by decide +kernel
theorem dX9_reading_116 : decode cX9_reading 116 = .ok (.ireturn, 1) := by decide +kernel
set_option maxRecDepth 20000 in
theorem ggX9_sinking_X9_body : GoodIn wsX9_sinking wsX9_body := goodIn_r _ [7, 8, 9, 14, 15, 16, 17, 18, 19, 20, 21, 22, 23, 24, 25, 26, 27, 28, 29, 30, 31, 32, 33, 34, 35, 36, 37, 38, 39, 40, 41, 42, 43, 44, 45, 46, 47, 48, 49, 50, 51, 52, 53] (by decide +kernel) (by decide +kernel)
set_option maxRecDepth 20000 in
theorem gX9_sinking_X9_body : GoodIn wsX9_sinking (wsV RX9 282 RX9 yX9_body wsX9_body) := goodIn_app (goodIn_of _ (by decide +kernel)) ggX9_sinking_X9_body
set_option maxRecDepth 20000 in
theorem ggX9_sinking_X9_reading : GoodIn wsX9_sinking wsX9_reading := goodIn_r _ [13, 1, 2, 3, 4, 5, 6, 7, 8, 9, 14, 15, 16, 17, 18, 19, 20, 21, 22, 23, 24, 25, 26, 27, 28, 29, 30, 31, 32, 33, 34, 35, 36, 37, 38, 39, 40, 41, 42, 43, 44, 45, 46, 47, 48, 49, 50, 51, 52, 53] (by decide +kernel) (by decide +kernel)
set_option maxRecDepth 20000 in
theorem gX9_sinking_X9_reading : GoodIn wsX9_sinking (wsV RX9 286 RX9 yX9_reading wsX9_reading) := goodIn_app (goodIn_of _ (by decide +kernel)) ggX9_sinking_X9_reading
theorem dX9_sinking_0 : decode cX9_sinking 0 = .ok (.aload_n 0, 1) := by decide +kernel
theorem dX9_sinking_1 : decode cX9_sinking 1 = .ok (.getfield 26, 3) := by decide +kernel
theorem dX9_sinking_4 : decode cX9_sinking 4 = .ok (.iload_n 1, 1) := by decide +kernel
theorem dX9_sinking_5 : decode cX9_sinking 5 = .ok (.iaload, 1) := by decide +kernel
theorem dX9_sinking_6 : decode cX9_sinking 6 = .ok (.istore_n 3, 1) := by decide +kernel
theorem dX9_sinking_7 : decode cX9_sinking 7 = .ok (.iload_n 2, 1) := by decide +kernel
theorem dX9_sinking_8 : decode cX9_sinking 8 = .ok (.istore 4, 2) := by decide +kernel
theorem dX9_sinking_10 : decode cX9_sinking 10 = .ok (.iload_n 3, 1) := by decide +kernel
theorem dX9_sinking_11 : decode cX9_sinking 11 = .ok (.bipush 6, 2) := by decide +kernel
theorem dX9_sinking_13 : decode cX9_sinking 13 = .ok (.if_icmp .ne 19, 3) := by decide +kernel
theorem dX9_sinking_16 : decode cX9_sinking 16 = .ok (.aload_n 0, 1) := by decide +kernel
theorem dX9_sinking_17 : decode cX9_sinking 17 = .ok (.bipush 71, 2) := by decide +kernel
theorem dX9_sinking_19 : decode cX9_sinking 19 = .ok (.invokevirtual 282, 3) := by decide +kernel
theorem dX9_sinking_22 : decode cX9_sinking 22 = .ok (.iload_n 2, 1) := by decide +kernel
theorem dX9_sinking_23 : decode cX9_sinking 23 = .ok (.aload_n 0, 1) := by decide +kernel
theorem dX9_sinking_24 : decode cX9_sinking 24 = .ok (.getfield 29, 3) := by decide +kernel
theorem dX9_sinking_27 : decode cX9_sinking 27 = .ok (.iload_n 1, 1) := by decide +kernel
theorem dX9_sinking_28 : decode cX9_sinking 28 = .ok (.iaload, 1) := by decide +kernel
theorem dX9_sinking_29 : decode cX9_sinking 29 = .ok (.isub, 1) := by decide +kernel
theorem dX9_sinking_30 : decode cX9_sinking 30 = .ok (.istore 4, 2) := by decide +kernel
theorem dX9_sinking_32 : decode cX9_sinking 32 = .ok (.iload_n 3, 1) := by decide +kernel
theorem dX9_sinking_33 : decode cX9_sinking 33 = .ok (.iconst 3, 1) := by decide +kernel
theorem dX9_sinking_34 : decode cX9_sinking 34 = .ok (.if_icmp .ne 14, 3) := by decide +kernel
theorem dX9_sinking_37 : decode cX9_sinking 37 = .ok (.aload_n 0, 1) := by decide +kernel
theorem dX9_sinking_38 : decode cX9_sinking 38 = .ok (.bipush 40, 2) := by decide +kernel
theorem dX9_sinking_40 : decode cX9_sinking 40 = .ok (.invokevirtual 282, 3) := by decide +kernel
theorem dX9_sinking_43 : decode cX9_sinking 43 = .ok (.iload_n 2, 1) := by decide +kernel
theorem dX9_sinking_44 : decode cX9_sinking 44 = .ok (.iconst 1, 1) := by decide +kernel
theorem dX9_sinking_45 : decode cX9_sinking 45 = .ok (.iadd, 1) := by decide +kernel
theorem dX9_sinking_46 : decode cX9_sinking 46 = .ok (.istore 4, 2) := by decide +kernel
theorem dX9_sinking_48 : decode cX9_sinking 48 = .ok (.iload_n 3, 1) := by decide +kernel
theorem dX9_sinking_49 : decode cX9_sinking 49 = .ok (.iconst 2, 1) := by decide +kernel
theorem dX9_sinking_50 : decode cX9_sinking 50 = .ok (.if_icmp .eq 8, 3) := by decide +kernel
theorem dX9_sinking_53 : decode cX9_sinking 53 = .ok (.iload_n 3, 1) := by decide +kernel
theorem dX9_sinking_54 : decode cX9_sinking 54 = .ok (.iconst 5, 1) := by decide +kernel
theorem dX9_sinking_55 : decode cX9_sinking 55 = .ok (.if_icmp .ne 7, 3) := by decide +kernel
theorem dX9_sinking_58 : decode cX9_sinking 58 = .ok (.iconst 1, 1) := by decide +kernel
theorem dX9_sinking_59 : decode cX9_sinking 59 = .ok (.goto 4, 3) := by decide +kernel
theorem dX9_sinking_62 : decode cX9_sinking 62 = .ok (.iconst 0, 1) := by decide +kernel
theorem dX9_sinking_63 : decode cX9_sinking 63 = .ok (.istore 5, 2) := by decide +kernel
theorem dX9_sinking_65 : decode cX9_sinking 65 = .ok (.iload 5, 2) := by decide +kernel
theorem dX9_sinking_67 : decode cX9_sinking 67 = .ok (.ifCond .eq 9, 3) := by decide +kernel
theorem dX9_sinking_70 : decode cX9_sinking 70 = .ok (.aload_n 0, 1) := by decide +kernel
theorem dX9_sinking_71 : decode cX9_sinking 71 = .ok (.bipush 30, 2) := by decide +kernel
theorem dX9_sinking_73 : decode cX9_sinking 73 = .ok (.invokevirtual 282, 3) := by decide +kernel
theorem dX9_sinking_76 : decode cX9_sinking 76 = .ok (.aload_n 0, 1) := by decide +kernel
theorem dX9_sinking_77 : decode cX9_sinking 77 = .ok (.bipush 11, 2) := by decide +kernel
theorem dX9_sinking_79 : decode cX9_sinking 79 = .ok (.invokevirtual 282, 3) := by decide +kernel
theorem dX9_sinking_82 : decode cX9_sinking 82 = .ok (.aload_n 0, 1) := by decide +kernel
theorem dX9_sinking_83 : decode cX9_sinking 83 = .ok (.iload_n 1, 1) := by decide +kernel
theorem dX9_sinking_84 : decode cX9_sinking 84 = .ok (.iload 4, 2) := by decide +kernel
theorem dX9_sinking_86 : decode cX9_sinking 86 = .ok (.invokevirtual 286, 3) := by decide +kernel
theorem dX9_sinking_89 : decode cX9_sinking 89 = .ok (.iconst 2, 1) := by decide +kernel
theorem dX9_sinking_90 : decode cX9_sinking 90 = .ok (.imul, 1) := by decide +kernel
theorem dX9_sinking_91 : decode cX9_sinking 91 = .ok (.istore 6, 2) := by decide +kernel
theorem dX9_sinking_93 : decode cX9_sinking 93 = .ok (.iload 5, 2) := by decide +kernel
theorem dX9_sinking_95 : decode cX9_sinking 95 = .ok (.ifCond .eq 10, 3) := by decide +kernel
theorem dX9_sinking_98 : decode cX9_sinking 98 = .ok (.iload 6, 2) := by decide +kernel
theorem dX9_sinking_100 : decode cX9_sinking 100 = .ok (.iconst 3, 1) := by decide +kernel
theorem dX9_sinking_101 : decode cX9_sinking 101 = .ok (.imul, 1) := by decide +kernel
theorem dX9_sinking_102 : decode cX9_sinking 102 = .ok (.goto 5, 3) := by decide +kernel
theorem dX9_sinking_105 : decode cX9_sinking 105 = .ok (.iload 6, 2) := by decide +kernel
theorem dX9_sinking_107 : decode cX9_sinking 107 = .ok (.ireturn, 1) := by decide +kernel
set_option maxRecDepth 20000 in
theorem ggX9_closing_X9_body : GoodIn wsX9_closing wsX9_body := goodIn_r _ [7, 8, 9, 18, 19, 20, 21, 22, 23, 24, 25, 26, 27, 28, 29, 30, 31, 32, 33, 34, 35, 36, 37, 38, 39, 40, 41, 42, 43, 44, 45, 46, 47, 48, 49, 50, 51, 52, 53, 54, 55, 56, 57] (by decide +kernel) (by decide +kernel)
set_option maxRecDepth 20000 in
theorem gX9_closing_X9_body : GoodIn wsX9_closing (wsV RX9 282 RX9 yX9_body wsX9_body) := goodIn_app (goodIn_of _ (by decide +kernel)) ggX9_closing_X9_body
set_option maxRecDepth 20000 in
theorem ggX9_closing_X9_sinking : GoodIn wsX9_closing wsX9_sinking := goodIn_r _ [13, 1, 2, 3, 4, 5, 6, 7, 8, 9, 14, 15, 16, 17, 18, 19, 20, 21, 22, 23, 24, 25, 26, 27, 28, 29, 30, 31, 32, 33, 34, 35, 36, 37, 38, 39, 40, 41, 42, 43, 44, 45, 46, 47, 48, 49, 50, 51, 52, 53, 54, 55, 56, 57] (by decide +kernel) (by decide +kernel)
set_option maxRecDepth 20000 in
theorem gX9_closing_X9_sinking : GoodIn wsX9_closing (wsV RX9 289 RX9 yX9_sinking wsX9_sinking) := goodIn_app (goodIn_of _ (by decide +kernel)) ggX9_closing_X9_sinking
set_option maxRecDepth 20000 in
theorem ggX9_closing_X9_reading : GoodIn wsX9_closing wsX9_reading := goodIn_r _ [17, 1, 2, 3, 4, 5, 6, 7, 8, 9, 18, 19, 20, 21, 22, 23, 24, 25, 26, 27, 28, 29, 30, 31, 32, 33, 34, 35, 36, 37, 38, 39, 40, 41, 42, 43, 44, 45, 46, 47, 48, 49, 50, 51, 52, 53, 54, 55, 56, 57] (by decide +kernel) (by decide +kernel)
set_option maxRecDepth 20000 in
theorem gX9_closing_X9_reading : GoodIn wsX9_closing (wsV RX9 286 RX9 yX9_reading wsX9_reading) := goodIn_app (goodIn_of _ (by decide +kernel)) ggX9_closing_X9_reading
theorem dX9_closing_0 : decode cX9_closing 0 = .ok (.aload_n 0, 1) := by decide +kernel
theorem dX9_closing_1 : decode cX9_closing 1 = .ok (.getfield 26, 3) := by decide +kernel
theorem dX9_closing_4 : decode cX9_closing 4 = .ok (.iload_n 1, 1) := by decide +kernel
theorem dX9_closing_5 : decode cX9_closing 5 = .ok (.iaload, 1) := by decide +kernel
theorem dX9_closing_6 : decode cX9_closing 6 = .ok (.istore_n 3, 1) := by decide +kernel
theorem dX9_closing_7 : decode cX9_closing 7 = .ok (.iload_n 3, 1) := by decide +kernel
theorem dX9_closing_8 : decode cX9_closing 8 = .ok (.iconst 4, 1) := by decide +kernel
theorem dX9_closing_9 : decode cX9_closing 9 = .ok (.if_icmp .eq 9, 3) := by decide +kernel
theorem dX9_closing_12 : decode cX9_closing 12 = .ok (.iload_n 3, 1) := by decide +kernel
theorem dX9_closing_13 : decode cX9_closing 13 = .ok (.bipush 6, 2) := by decide +kernel
theorem dX9_closing_15 : decode cX9_closing 15 = .ok (.if_icmp .ne 9, 3) := by decide +kernel
theorem dX9_closing_18 : decode cX9_closing 18 = .ok (.aload_n 0, 1) := by decide +kernel
theorem dX9_closing_19 : decode cX9_closing 19 = .ok (.bipush 50, 2) := by decide +kernel
theorem dX9_closing_21 : decode cX9_closing 21 = .ok (.invokevirtual 282, 3) := by decide +kernel
theorem dX9_closing_24 : decode cX9_closing 24 = .ok (.iload_n 3, 1) := by decide +kernel
theorem dX9_closing_25 : decode cX9_closing 25 = .ok (.iconst 5, 1) := by decide +kernel
theorem dX9_closing_26 : decode cX9_closing 26 = .ok (.if_icmp .ne 9, 3) := by decide +kernel
theorem dX9_closing_29 : decode cX9_closing 29 = .ok (.aload_n 0, 1) := by decide +kernel
theorem dX9_closing_30 : decode cX9_closing 30 = .ok (.bipush 60, 2) := by decide +kernel
theorem dX9_closing_32 : decode cX9_closing 32 = .ok (.invokevirtual 282, 3) := by decide +kernel
theorem dX9_closing_35 : decode cX9_closing 35 = .ok (.aload_n 0, 1) := by decide +kernel
theorem dX9_closing_36 : decode cX9_closing 36 = .ok (.bipush 12, 2) := by decide +kernel
theorem dX9_closing_38 : decode cX9_closing 38 = .ok (.invokevirtual 282, 3) := by decide +kernel
theorem dX9_closing_41 : decode cX9_closing 41 = .ok (.aload_n 0, 1) := by decide +kernel
theorem dX9_closing_42 : decode cX9_closing 42 = .ok (.iload_n 1, 1) := by decide +kernel
theorem dX9_closing_43 : decode cX9_closing 43 = .ok (.iload_n 2, 1) := by decide +kernel
theorem dX9_closing_44 : decode cX9_closing 44 = .ok (.invokevirtual 289, 3) := by decide +kernel
theorem dX9_closing_47 : decode cX9_closing 47 = .ok (.istore 4, 2) := by decide +kernel
theorem dX9_closing_49 : decode cX9_closing 49 = .ok (.iload 4, 2) := by decide +kernel
theorem dX9_closing_51 : decode cX9_closing 51 = .ok (.aload_n 0, 1) := by decide +kernel
theorem dX9_closing_52 : decode cX9_closing 52 = .ok (.iload_n 1, 1) := by decide +kernel
theorem dX9_closing_53 : decode cX9_closing 53 = .ok (.iload_n 2, 1) := by decide +kernel
theorem dX9_closing_54 : decode cX9_closing 54 = .ok (.aload_n 0, 1) := by decide +kernel
theorem dX9_closing_55 : decode cX9_closing 55 = .ok (.getfield 29, 3) := by decide +kernel
theorem dX9_closing_58 : decode cX9_closing 58 = .ok (.iload_n 1, 1) := by decide +kernel
theorem dX9_closing_59 : decode cX9_closing 59 = .ok (.iaload, 1) := by decide +kernel
theorem dX9_closing_60 : decode cX9_closing 60 = .ok (.isub, 1) := by decide +kernel
theorem dX9_closing_61 : decode cX9_closing 61 = .ok (.invokevirtual 286, 3) := by decide +kernel
theorem dX9_closing_64 : decode cX9_closing 64 = .ok (.ixor, 1) := by decide +kernel
theorem dX9_closing_65 : decode cX9_closing 65 = .ok (.istore 4, 2) := by decide +kernel
theorem dX9_closing_67 : decode cX9_closing 67 = .ok (.iload_n 3, 1) := by decide +kernel
theorem dX9_closing_68 : decode cX9_closing 68 = .ok (.iconst 4, 1) := by decide +kernel
theorem dX9_closing_69 : decode cX9_closing 69 = .ok (.if_icmp .eq 9, 3) := by decide +kernel
theorem dX9_closing_72 : decode cX9_closing 72 = .ok (.iload_n 3, 1) := by decide +kernel
theorem dX9_closing_73 : decode cX9_closing 73 = .ok (.bipush 6, 2) := by decide +kernel
theorem dX9_closing_75 : decode cX9_closing 75 = .ok (.if_icmp .ne 9, 3) := by decide +kernel
theorem dX9_closing_78 : decode cX9_closing 78 = .ok (.iload 4, 2) := by decide +kernel
theorem dX9_closing_80 : decode cX9_closing 80 = .ok (.ineg, 1) := by decide +kernel
theorem dX9_closing_81 : decode cX9_closing 81 = .ok (.goto 17, 3) := by decide +kernel
theorem dX9_closing_84 : decode cX9_closing 84 = .ok (.iload_n 3, 1) := by decide +kernel
theorem dX9_closing_85 : decode cX9_closing 85 = .ok (.iconst 5, 1) := by decide +kernel
theorem dX9_closing_86 : decode cX9_closing 86 = .ok (.if_icmp .ne 10, 3) := by decide +kernel
theorem dX9_closing_89 : decode cX9_closing 89 = .ok (.iload 4, 2) := by decide +kernel
theorem dX9_closing_91 : decode cX9_closing 91 = .ok (.iconst 5, 1) := by decide +kernel
theorem dX9_closing_92 : decode cX9_closing 92 = .ok (.ixor, 1) := by decide +kernel
theorem dX9_closing_93 : decode cX9_closing 93 = .ok (.goto 5, 3) := by decide +kernel
theorem dX9_closing_96 : decode cX9_closing 96 = .ok (.iload 4, 2) := by decide +kernel
theorem dX9_closing_98 : decode cX9_closing 98 = .ok (.ireturn, 1) := by decide +kernel
set_option maxRecDepth 20000 in
theorem ggX9_act_X9_isSetup : GoodIn wsX9_act wsX9_isSetup := goodIn_r _ [6, 7, 27, 28, 29, 30, 31, 32, 33, 34, 35, 36, 37, 38, 39, 40, 41, 42, 43, 44, 45, 46, 47, 48, 49, 50, 51, 52, 53, 54, 55, 56, 57, 58, 59, 60, 61, 62, 63, 64, 65, 66] (by decide +kernel) (by decide +kernel)
set_option maxRecDepth 20000 in
theorem gX9_act_X9_isSetup : GoodIn wsX9_act (wsV RX9 102 RX9 yX9_isSetup wsX9_isSetup) := goodIn_app (goodIn_of _ (by decide +kernel)) ggX9_act_X9_isSetup
set_option maxRecDepth 20000 in
theorem ggX9_act_X9_reading : GoodIn wsX9_act wsX9_reading := goodIn_r _ [11, 12, 13, 14, 15, 16, 5, 17, 1, 18, 27, 28, 29, 30, 31, 32, 33, 34, 35, 36, 37, 38, 39, 40, 41, 42, 43, 44, 45, 46, 47, 48, 49, 50, 51, 52, 53, 54, 55, 56, 57, 58, 59, 60, 61, 62, 63, 64, 65, 66] (by decide +kernel) (by decide +kernel)
set_option maxRecDepth 20000 in
theorem gX9_act_X9_reading : GoodIn wsX9_act (wsV RX9 286 RX9 yX9_reading wsX9_reading) := goodIn_app (goodIn_of _ (by decide +kernel)) ggX9_act_X9_reading
set_option maxRecDepth 20000 in
theorem ggX9_act_X9_sinking : GoodIn wsX9_act wsX9_sinking := goodIn_r _ [22, 12, 13, 14, 15, 16, 5, 17, 1, 18, 8, 9, 10, 11, 27, 28, 29, 30, 31, 32, 33, 34, 35, 36, 37, 38, 39, 40, 41, 42, 43, 44, 45, 46, 47, 48, 49, 50, 51, 52, 53, 54, 55, 56, 57, 58, 59, 60, 61, 62, 63, 64, 65, 66] (by decide +kernel) (by decide +kernel)
set_option maxRecDepth 20000 in
theorem gX9_act_X9_sinking : GoodIn wsX9_act (wsV RX9 289 RX9 yX9_sinking wsX9_sinking) := goodIn_app (goodIn_of _ (by decide +kernel)) ggX9_act_X9_sinking
set_option maxRecDepth 20000 in
theorem ggX9_act_X9_closing : GoodIn wsX9_act wsX9_closing := goodIn_r _ [26, 12, 13, 14, 15, 16, 5, 17, 1, 18, 19, 20, 21, 22, 8, 9, 10, 11, 27, 28, 29, 30, 31, 32, 33, 34, 35, 36, 37, 38, 39, 40, 41, 42, 43, 44, 45, 46, 47, 48, 49, 50, 51, 52, 53, 54, 55, 56, 57, 58, 59, 60, 61, 62, 63, 64, 65, 66] (by decide +kernel) (by decide +kernel)
set_option maxRecDepth 20000 in
theorem gX9_act_X9_closing : GoodIn wsX9_act (wsV RX9 292 RX9 yX9_closing wsX9_closing) := goodIn_app (goodIn_of _ (by decide +kernel)) ggX9_act_X9_closing
theorem dX9_act_0 : decode cX9_act 0 = .ok (.aload_n 0, 1) := by decide +kernel
theorem dX9_act_1 : decode cX9_act 1 = .ok (.iconst 0, 1) := by decide +kernel
theorem dX9_act_2 : decode cX9_act 2 = .ok (.putfield 279, 3) := by decide +kernel
theorem dX9_act_5 : decode cX9_act 5 = .ok (.aload_n 0, 1) := by decide +kernel
theorem dX9_act_6 : decode cX9_act 6 = .ok (.iload_n 1, 1) := by decide +kernel
theorem dX9_act_7 : decode cX9_act 7 = .ok (.invokevirtual 102, 3) := by decide +kernel
theorem dX9_act_10 : decode cX9_act 10 = .ok (.ifCond .eq 12, 3) := by decide +kernel
theorem dX9_act_13 : decode cX9_act 13 = .ok (.iload_n 2, 1) := by decide +kernel
theorem dX9_act_14 : decode cX9_act 14 = .ok (.ifCond .lt 8, 3) := by decide +kernel
theorem dX9_act_17 : decode cX9_act 17 = .ok (.iload_n 2, 1) := by decide +kernel
theorem dX9_act_18 : decode cX9_act 18 = .ok (.iconst 2, 1) := by decide +kernel
theorem dX9_act_19 : decode cX9_act 19 = .ok (.if_icmp .le 5, 3) := by decide +kernel
theorem dX9_act_22 : decode cX9_act 22 = .ok (.iconst 0, 1) := by decide +kernel
theorem dX9_act_23 : decode cX9_act 23 = .ok (.ireturn, 1) := by decide +kernel
theorem dX9_act_24 : decode cX9_act 24 = .ok (.iload_n 2, 1) := by decide +kernel
theorem dX9_act_25 : decode cX9_act 25 = .ok (.ifCond .ne 12, 3) := by decide +kernel
theorem dX9_act_28 : decode cX9_act 28 = .ok (.aload_n 0, 1) := by decide +kernel
theorem dX9_act_29 : decode cX9_act 29 = .ok (.iload_n 1, 1) := by decide +kernel
theorem dX9_act_30 : decode cX9_act 30 = .ok (.iload_n 3, 1) := by decide +kernel
theorem dX9_act_31 : decode cX9_act 31 = .ok (.invokevirtual 286, 3) := by decide +kernel
theorem dX9_act_34 : decode cX9_act 34 = .ok (.goto 23, 3) := by decide +kernel
theorem dX9_act_37 : decode cX9_act 37 = .ok (.iload_n 2, 1) := by decide +kernel
theorem dX9_act_38 : decode cX9_act 38 = .ok (.iconst 1, 1) := by decide +kernel
theorem dX9_act_39 : decode cX9_act 39 = .ok (.if_icmp .ne 12, 3) := by decide +kernel
theorem dX9_act_42 : decode cX9_act 42 = .ok (.aload_n 0, 1) := by decide +kernel
theorem dX9_act_43 : decode cX9_act 43 = .ok (.iload_n 1, 1) := by decide +kernel
theorem dX9_act_44 : decode cX9_act 44 = .ok (.iload_n 3, 1) := by decide +kernel
theorem dX9_act_45 : decode cX9_act 45 = .ok (.invokevirtual 289, 3) := by decide +kernel
theorem dX9_act_48 : decode cX9_act 48 = .ok (.goto 9, 3) := by decide +kernel
theorem dX9_act_51 : decode cX9_act 51 = .ok (.aload_n 0, 1) := by decide +kernel
theorem dX9_act_52 : decode cX9_act 52 = .ok (.iload_n 1, 1) := by decide +kernel
theorem dX9_act_53 : decode cX9_act 53 = .ok (.iload_n 3, 1) := by decide +kernel
theorem dX9_act_54 : decode cX9_act 54 = .ok (.invokevirtual 292, 3) := by decide +kernel
theorem dX9_act_57 : decode cX9_act 57 = .ok (.ireturn, 1) := by decide +kernel
theorem dX9_trace_0 : decode cX9_trace 0 = .ok (.iload_n 1, 1) := by decide +kernel
theorem dX9_trace_1 : decode cX9_trace 1 = .ok (.ifCond .lt 26, 3) := by decide +kernel
theorem dX9_trace_4 : decode cX9_trace 4 = .ok (.iload_n 1, 1) := by decide +kernel
theorem dX9_trace_5 : decode cX9_trace 5 = .ok (.bipush 20, 2) := by decide +kernel
theorem dX9_trace_7 : decode cX9_trace 7 = .ok (.if_icmp .ge 20, 3) := by decide +kernel
theorem dX9_trace_10 : decode cX9_trace 10 = .ok (.iload_n 1, 1) := by decide +kernel
theorem dX9_trace_11 : decode cX9_trace 11 = .ok (.aload_n 0, 1) := by decide +kernel
theorem dX9_trace_12 : decode cX9_trace 12 = .ok (.getfield 279, 3) := by decide +kernel
theorem dX9_trace_15 : decode cX9_trace 15 = .ok (.if_icmp .ge 12, 3) := by decide +kernel
theorem dX9_trace_18 : decode cX9_trace 18 = .ok (.aload_n 0, 1) := by decide +kernel
theorem dX9_trace_19 : decode cX9_trace 19 = .ok (.getfield 87, 3) := by decide +kernel
theorem dX9_trace_22 : decode cX9_trace 22 = .ok (.iload_n 1, 1) := by decide +kernel
theorem dX9_trace_23 : decode cX9_trace 23 = .ok (.iaload, 1) := by decide +kernel
theorem dX9_trace_24 : decode cX9_trace 24 = .ok (.goto 4, 3) := by decide +kernel
theorem dX9_trace_27 : decode cX9_trace 27 = .ok (.iconst (-1), 1) := by decide +kernel
theorem dX9_trace_28 : decode cX9_trace 28 = .ok (.ireturn, 1) := by decide +kernel
set_option maxRecDepth 20000 in
theorem ggX9_image_X9_all : GoodIn wsX9_image wsX9_all := goodIn_r _ [8, 9, 10, 11, 12, 13, 14, 15, 16, 3, 17, 18, 19, 20, 21, 22, 23, 7, 24, 25, 26, 27, 28, 29, 30, 31, 32, 33, 34, 35, 36, 37, 38, 39, 40, 41, 42, 43, 44, 45, 46, 47, 48, 49, 50, 51, 52, 53, 54, 55, 56, 57, 58, 59, 60, 61, 62, 63, 64] (by decide +kernel) (by decide +kernel)
set_option maxRecDepth 20000 in
theorem gX9_image_X9_all : GoodIn wsX9_image (wsV RX9 186 RX9 yX9_all wsX9_all) := goodIn_app (goodIn_of _ (by decide +kernel)) ggX9_image_X9_all
theorem dX9_image_0 : decode cX9_image 0 = .ok (.aload_n 0, 1) := by decide +kernel
theorem dX9_image_1 : decode cX9_image 1 = .ok (.iconst 1, 1) := by decide +kernel
theorem dX9_image_2 : decode cX9_image 2 = .ok (.putfield 295, 3) := by decide +kernel
theorem dX9_image_5 : decode cX9_image 5 = .ok (.aload_n 0, 1) := by decide +kernel
theorem dX9_image_6 : decode cX9_image 6 = .ok (.aload_n 0, 1) := by decide +kernel
theorem dX9_image_7 : decode cX9_image 7 = .ok (.getfield 81, 3) := by decide +kernel
theorem dX9_image_10 : decode cX9_image 10 = .ok (.iconst 0, 1) := by decide +kernel
theorem dX9_image_11 : decode cX9_image 11 = .ok (.invokevirtual 186, 3) := by decide +kernel
theorem dX9_image_14 : decode cX9_image 14 = .ok (.aload_n 0, 1) := by decide +kernel
theorem dX9_image_15 : decode cX9_image 15 = .ok (.getfield 91, 3) := by decide +kernel
theorem dX9_image_18 : decode cX9_image 18 = .ok (.ireturn, 1) := by decide +kernel
set_option maxRecDepth 20000 in
theorem ggX9_restore_X9_no : GoodIn wsX9_restore wsX9_no := goodIn_r _ [8, 9, 36, 37, 38, 39, 40, 41, 42, 43, 44, 45, 46, 47, 48, 49, 50, 51, 52, 53, 54, 55, 56, 57, 58, 59, 60, 61, 62, 63, 64, 65, 66, 67, 68, 69, 70, 71, 72, 73, 74, 75] (by decide +kernel) (by decide +kernel)
set_option maxRecDepth 20000 in
theorem gX9_restore_X9_no : GoodIn wsX9_restore (wsV RX9 98 RX9 yX9_no wsX9_no) := goodIn_app (goodIn_of _ (by decide +kernel)) ggX9_restore_X9_no
set_option maxRecDepth 20000 in
theorem ggX9_restore_X9_all : GoodIn wsX9_restore wsX9_all := goodIn_r _ [13, 14, 15, 16, 17, 18, 19, 20, 21, 3, 22, 23, 24, 25, 26, 27, 28, 7, 29, 36, 37, 38, 39, 40, 41, 42, 43, 44, 45, 46, 47, 48, 49, 50, 51, 52, 53, 54, 55, 56, 57, 58, 59, 60, 61, 62, 63, 64, 65, 66, 67, 68, 69, 70, 71, 72, 73, 74, 75] (by decide +kernel) (by decide +kernel)
set_option maxRecDepth 20000 in
theorem gX9_restore_X9_all : GoodIn wsX9_restore (wsV RX9 186 RX9 yX9_all wsX9_all) := goodIn_app (goodIn_of _ (by decide +kernel)) ggX9_restore_X9_all
set_option maxRecDepth 20000 in
theorem ggX9_restore_X9_forgets : GoodIn wsX9_restore wsX9_forgets := goodIn_r _ [33, 34, 35, 3, 36, 37, 38, 39, 40, 41, 42, 43, 44, 45, 46, 47, 48, 49, 50, 51, 52, 53, 54, 55, 56, 57, 58, 59, 60, 61, 62, 63, 64, 65, 66, 67, 68, 69, 70, 71, 72, 73, 74, 75] (by decide +kernel) (by decide +kernel)
set_option maxRecDepth 20000 in
theorem gX9_restore_X9_forgets : GoodIn wsX9_restore (wsV RX9 264 RX9 yX9_forgets wsX9_forgets) := goodIn_app (goodIn_of _ (by decide +kernel)) ggX9_restore_X9_forgets
theorem dX9_restore_0 : decode cX9_restore 0 = .ok (.aload_n 0, 1) := by decide +kernel
theorem dX9_restore_1 : decode cX9_restore 1 = .ok (.getfield 295, 3) := by decide +kernel
theorem dX9_restore_4 : decode cX9_restore 4 = .ok (.ifCond .ne 10, 3) := by decide +kernel
theorem dX9_restore_7 : decode cX9_restore 7 = .ok (.aload_n 0, 1) := by decide +kernel
theorem dX9_restore_8 : decode cX9_restore 8 = .ok (.bipush (-6), 2) := by decide +kernel
theorem dX9_restore_10 : decode cX9_restore 10 = .ok (.invokevirtual 98, 3) := by decide +kernel
theorem dX9_restore_13 : decode cX9_restore 13 = .ok (.ireturn, 1) := by decide +kernel
theorem dX9_restore_14 : decode cX9_restore 14 = .ok (.aload_n 0, 1) := by decide +kernel
theorem dX9_restore_15 : decode cX9_restore 15 = .ok (.aload_n 0, 1) := by decide +kernel
theorem dX9_restore_16 : decode cX9_restore 16 = .ok (.getfield 81, 3) := by decide +kernel
theorem dX9_restore_19 : decode cX9_restore 19 = .ok (.iconst 1, 1) := by decide +kernel
theorem dX9_restore_20 : decode cX9_restore 20 = .ok (.invokevirtual 186, 3) := by decide +kernel
theorem dX9_restore_23 : decode cX9_restore 23 = .ok (.aload_n 0, 1) := by decide +kernel
theorem dX9_restore_24 : decode cX9_restore 24 = .ok (.invokevirtual 264, 3) := by decide +kernel
theorem dX9_restore_27 : decode cX9_restore 27 = .ok (.aload_n 0, 1) := by decide +kernel
theorem dX9_restore_28 : decode cX9_restore 28 = .ok (.getfield 91, 3) := by decide +kernel
theorem dX9_restore_31 : decode cX9_restore 31 = .ok (.ireturn, 1) := by decide +kernel
set_option maxRecDepth 20000 in
theorem ggX9_status_X9_yards : GoodIn wsX9_status wsX9_yards := goodIn_r _ [12, 13, 14, 15, 16, 17, 18, 19, 20, 21, 22, 23, 24, 25, 26, 27, 28, 29, 30, 31, 32, 33, 34, 35, 36, 37, 38, 39, 40, 41, 42, 43, 44, 45, 46, 47, 48, 49, 50, 51, 52, 53, 54] (by decide +kernel) (by decide +kernel)
set_option maxRecDepth 20000 in
theorem gX9_status_X9_yards : GoodIn wsX9_status (wsV RX9 241 RX9 yX9_yards wsX9_yards) := goodIn_app (goodIn_of _ (by decide +kernel)) ggX9_status_X9_yards
theorem dX9_status_0 : decode cX9_status 0 = .ok (.iload_n 1, 1) := by decide +kernel
theorem dX9_status_1 : decode cX9_status 1 = .ok (.bipush 11, 2) := by decide +kernel
theorem dX9_status_3 : decode cX9_status 3 = .ok (.if_icmp .lt 19, 3) := by decide +kernel
theorem dX9_status_6 : decode cX9_status 6 = .ok (.iload_n 1, 1) := by decide +kernel
theorem dX9_status_7 : decode cX9_status 7 = .ok (.bipush 17, 2) := by decide +kernel
theorem dX9_status_9 : decode cX9_status 9 = .ok (.if_icmp .gt 13, 3) := by decide +kernel
theorem dX9_status_12 : decode cX9_status 12 = .ok (.aload_n 0, 1) := by decide +kernel
theorem dX9_status_13 : decode cX9_status 13 = .ok (.getfield 22, 3) := by decide +kernel
theorem dX9_status_16 : decode cX9_status 16 = .ok (.iload_n 1, 1) := by decide +kernel
theorem dX9_status_17 : decode cX9_status 17 = .ok (.bipush 10, 2) := by decide +kernel
theorem dX9_status_19 : decode cX9_status 19 = .ok (.isub, 1) := by decide +kernel
theorem dX9_status_20 : decode cX9_status 20 = .ok (.iaload, 1) := by decide +kernel
theorem dX9_status_21 : decode cX9_status 21 = .ok (.ireturn, 1) := by decide +kernel
theorem dX9_status_22 : decode cX9_status 22 = .ok (.iload_n 1, 1) := by decide +kernel
theorem dX9_status_23 : decode cX9_status 23 = .ok (.tableswitch 81 0 6 #[41, 46, 56, 61, 66, 71, 76], 41) := by decide +kernel
theorem dX9_status_64 : decode cX9_status 64 = .ok (.aload_n 0, 1) := by decide +kernel
theorem dX9_status_65 : decode cX9_status 65 = .ok (.getfield 91, 3) := by decide +kernel
theorem dX9_status_68 : decode cX9_status 68 = .ok (.ireturn, 1) := by decide +kernel
theorem dX9_status_69 : decode cX9_status 69 = .ok (.aload_n 0, 1) := by decide +kernel
theorem dX9_status_70 : decode cX9_status 70 = .ok (.iconst 0, 1) := by decide +kernel
theorem dX9_status_71 : decode cX9_status 71 = .ok (.aload_n 0, 1) := by decide +kernel
theorem dX9_status_72 : decode cX9_status 72 = .ok (.getfield 91, 3) := by decide +kernel
theorem dX9_status_75 : decode cX9_status 75 = .ok (.invokevirtual 241, 3) := by decide +kernel
theorem dX9_status_78 : decode cX9_status 78 = .ok (.ireturn, 1) := by decide +kernel
theorem dX9_status_79 : decode cX9_status 79 = .ok (.aload_n 0, 1) := by decide +kernel
theorem dX9_status_80 : decode cX9_status 80 = .ok (.getfield 134, 3) := by decide +kernel
theorem dX9_status_83 : decode cX9_status 83 = .ok (.ireturn, 1) := by decide +kernel
theorem dX9_status_84 : decode cX9_status 84 = .ok (.aload_n 0, 1) := by decide +kernel
theorem dX9_status_85 : decode cX9_status 85 = .ok (.getfield 7, 3) := by decide +kernel
theorem dX9_status_88 : decode cX9_status 88 = .ok (.ireturn, 1) := by decide +kernel
theorem dX9_status_89 : decode cX9_status 89 = .ok (.aload_n 0, 1) := by decide +kernel
theorem dX9_status_90 : decode cX9_status 90 = .ok (.getfield 13, 3) := by decide +kernel
theorem dX9_status_93 : decode cX9_status 93 = .ok (.ireturn, 1) := by decide +kernel
theorem dX9_status_94 : decode cX9_status 94 = .ok (.aload_n 0, 1) := by decide +kernel
theorem dX9_status_95 : decode cX9_status 95 = .ok (.getfield 16, 3) := by decide +kernel
theorem dX9_status_98 : decode cX9_status 98 = .ok (.ireturn, 1) := by decide +kernel
theorem dX9_status_99 : decode cX9_status 99 = .ok (.aload_n 0, 1) := by decide +kernel
theorem dX9_status_100 : decode cX9_status 100 = .ok (.getfield 279, 3) := by decide +kernel
theorem dX9_status_103 : decode cX9_status 103 = .ok (.ireturn, 1) := by decide +kernel
theorem dX9_status_104 : decode cX9_status 104 = .ok (.iconst (-1), 1) := by decide +kernel
theorem dX9_status_105 : decode cX9_status 105 = .ok (.ireturn, 1) := by decide +kernel
