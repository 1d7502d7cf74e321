theorem dX9_readRow_163 : decode cX9_readRow 163 = .ok (.putfield 86, 3) := by decide +kernel
theorem dX9_readRow_166 : decode cX9_readRow 166 = .ok (.aload_n 0, 1) := by decide +kernel
theorem dX9_readRow_167 : decode cX9_readRow 167 = .ok (.iconst 0, 1) := by decide +kernel
theorem dX9_readRow_168 : decode cX9_readRow 168 = .ok (.putfield 124, 3) := by decide +kernel
theorem dX9_readRow_171 : decode cX9_readRow 171 = .ok (.aload_n 0, 1) := by decide +kernel
theorem dX9_readRow_172 : decode cX9_readRow 172 = .ok (.iconst 0, 1) := by decide +kernel
theorem dX9_readRow_173 : decode cX9_readRow 173 = .ok (.putfield 133, 3) := by decide +kernel
theorem dX9_readRow_176 : decode cX9_readRow 176 = .ok (.aload_n 0, 1) := by decide +kernel
theorem dX9_readRow_177 : decode cX9_readRow 177 = .ok (.getfield 29, 3) := by decide +kernel
theorem dX9_readRow_180 : decode cX9_readRow 180 = .ok (.iload_n 1, 1) := by decide +kernel
theorem dX9_readRow_181 : decode cX9_readRow 181 = .ok (.aload_n 0, 1) := by decide +kernel
theorem dX9_readRow_182 : decode cX9_readRow 182 = .ok (.invokevirtual 127, 3) := by decide +kernel
theorem dX9_readRow_185 : decode cX9_readRow 185 = .ok (.iastore, 1) := by decide +kernel
theorem dX9_readRow_186 : decode cX9_readRow 186 = .ok (.aload_n 0, 1) := by decide +kernel
theorem dX9_readRow_187 : decode cX9_readRow 187 = .ok (.getfield 29, 3) := by decide +kernel
theorem dX9_readRow_190 : decode cX9_readRow 190 = .ok (.iload_n 1, 1) := by decide +kernel
theorem dX9_readRow_191 : decode cX9_readRow 191 = .ok (.iaload, 1) := by decide +kernel
theorem dX9_readRow_192 : decode cX9_readRow 192 = .ok (.ifCond .ge 5, 3) := by decide +kernel
theorem dX9_readRow_195 : decode cX9_readRow 195 = .ok (.iconst 0, 1) := by decide +kernel
theorem dX9_readRow_196 : decode cX9_readRow 196 = .ok (.ireturn, 1) := by decide +kernel
theorem dX9_readRow_197 : decode cX9_readRow 197 = .ok (.aload_n 0, 1) := by decide +kernel
theorem dX9_readRow_198 : decode cX9_readRow 198 = .ok (.getfield 45, 3) := by decide +kernel
theorem dX9_readRow_201 : decode cX9_readRow 201 = .ok (.iload_n 1, 1) := by decide +kernel
theorem dX9_readRow_202 : decode cX9_readRow 202 = .ok (.aload_n 0, 1) := by decide +kernel
theorem dX9_readRow_203 : decode cX9_readRow 203 = .ok (.getfield 133, 3) := by decide +kernel
theorem dX9_readRow_206 : decode cX9_readRow 206 = .ok (.iastore, 1) := by decide +kernel
theorem dX9_readRow_207 : decode cX9_readRow 207 = .ok (.aload_n 0, 1) := by decide +kernel
theorem dX9_readRow_208 : decode cX9_readRow 208 = .ok (.getfield 38, 3) := by decide +kernel
theorem dX9_readRow_211 : decode cX9_readRow 211 = .ok (.iload_n 1, 1) := by decide +kernel
theorem dX9_readRow_212 : decode cX9_readRow 212 = .ok (.iconst 0, 1) := by decide +kernel
theorem dX9_readRow_213 : decode cX9_readRow 213 = .ok (.iastore, 1) := by decide +kernel
theorem dX9_readRow_214 : decode cX9_readRow 214 = .ok (.aload_n 0, 1) := by decide +kernel
theorem dX9_readRow_215 : decode cX9_readRow 215 = .ok (.bipush 102, 2) := by decide +kernel
theorem dX9_readRow_217 : decode cX9_readRow 217 = .ok (.bipush 111, 2) := by decide +kernel
theorem dX9_readRow_219 : decode cX9_readRow 219 = .ok (.bipush 114, 2) := by decide +kernel
theorem dX9_readRow_221 : decode cX9_readRow 221 = .ok (.iconst 0, 1) := by decide +kernel
theorem dX9_readRow_222 : decode cX9_readRow 222 = .ok (.iconst 0, 1) := by decide +kernel
theorem dX9_readRow_223 : decode cX9_readRow 223 = .ok (.iconst 0, 1) := by decide +kernel
theorem dX9_readRow_224 : decode cX9_readRow 224 = .ok (.iconst 0, 1) := by decide +kernel
theorem dX9_readRow_225 : decode cX9_readRow 225 = .ok (.iconst 3, 1) := by decide +kernel
theorem dX9_readRow_226 : decode cX9_readRow 226 = .ok (.invokevirtual 110, 3) := by decide +kernel
theorem dX9_readRow_229 : decode cX9_readRow 229 = .ok (.ifCond .eq 48, 3) := by decide +kernel
theorem dX9_readRow_232 : decode cX9_readRow 232 = .ok (.aload_n 0, 1) := by decide +kernel
theorem dX9_readRow_233 : decode cX9_readRow 233 = .ok (.dup, 1) := by decide +kernel
theorem dX9_readRow_234 : decode cX9_readRow 234 = .ok (.getfield 86, 3) := by decide +kernel
theorem dX9_readRow_237 : decode cX9_readRow 237 = .ok (.iconst 1, 1) := by decide +kernel
theorem dX9_readRow_238 : decode cX9_readRow 238 = .ok (.iadd, 1) := by decide +kernel
theorem dX9_readRow_239 : decode cX9_readRow 239 = .ok (.putfield 86, 3) := by decide +kernel
theorem dX9_readRow_242 : decode cX9_readRow 242 = .ok (.aload_n 0, 1) := by decide +kernel
theorem dX9_readRow_243 : decode cX9_readRow 243 = .ok (.iconst 0, 1) := by decide +kernel
theorem dX9_readRow_244 : decode cX9_readRow 244 = .ok (.sipush 3600, 3) := by decide +kernel
theorem dX9_readRow_247 : decode cX9_readRow 247 = .ok (.invokevirtual 97, 3) := by decide +kernel
theorem dX9_readRow_250 : decode cX9_readRow 250 = .ok (.istore 4, 2) := by decide +kernel
theorem dX9_readRow_252 : decode cX9_readRow 252 = .ok (.iload 4, 2) := by decide +kernel
theorem dX9_readRow_254 : decode cX9_readRow 254 = .ok (.ifCond .ge 5, 3) := by decide +kernel
theorem dX9_readRow_257 : decode cX9_readRow 257 = .ok (.iconst 0, 1) := by decide +kernel
theorem dX9_readRow_258 : decode cX9_readRow 258 = .ok (.ireturn, 1) := by decide +kernel
theorem dX9_readRow_259 : decode cX9_readRow 259 = .ok (.aload_n 0, 1) := by decide +kernel
theorem dX9_readRow_260 : decode cX9_readRow 260 = .ok (.getfield 38, 3) := by decide +kernel
theorem dX9_readRow_263 : decode cX9_readRow 263 = .ok (.iload_n 1, 1) := by decide +kernel
theorem dX9_readRow_264 : decode cX9_readRow 264 = .ok (.iload 4, 2) := by decide +kernel
theorem dX9_readRow_266 : decode cX9_readRow 266 = .ok (.iastore, 1) := by decide +kernel
theorem dX9_readRow_267 : decode cX9_readRow 267 = .ok (.aload_n 0, 1) := by decide +kernel
theorem dX9_readRow_268 : decode cX9_readRow 268 = .ok (.dup, 1) := by decide +kernel
theorem dX9_readRow_269 : decode cX9_readRow 269 = .ok (.getfield 86, 3) := by decide +kernel
theorem dX9_readRow_272 : decode cX9_readRow 272 = .ok (.iconst 1, 1) := by decide +kernel
theorem dX9_readRow_273 : decode cX9_readRow 273 = .ok (.iadd, 1) := by decide +kernel
theorem dX9_readRow_274 : decode cX9_readRow 274 = .ok (.putfield 86, 3) := by decide +kernel
theorem dX9_readRow_277 : decode cX9_readRow 277 = .ok (.aload_n 0, 1) := by decide +kernel
theorem dX9_readRow_278 : decode cX9_readRow 278 = .ok (.getfield 41, 3) := by decide +kernel
theorem dX9_readRow_281 : decode cX9_readRow 281 = .ok (.iload_n 1, 1) := by decide +kernel
theorem dX9_readRow_282 : decode cX9_readRow 282 = .ok (.aload_n 0, 1) := by decide +kernel
theorem dX9_readRow_283 : decode cX9_readRow 283 = .ok (.bipush 108, 2) := by decide +kernel
theorem dX9_readRow_285 : decode cX9_readRow 285 = .ok (.bipush 97, 2) := by decide +kernel
theorem dX9_readRow_287 : decode cX9_readRow 287 = .ok (.bipush 116, 2) := by decide +kernel
theorem dX9_readRow_289 : decode cX9_readRow 289 = .ok (.bipush 99, 2) := by decide +kernel
theorem dX9_readRow_291 : decode cX9_readRow 291 = .ok (.bipush 104, 2) := by decide +kernel
theorem dX9_readRow_293 : decode cX9_readRow 293 = .ok (.bipush 101, 2) := by decide +kernel
theorem dX9_readRow_295 : decode cX9_readRow 295 = .ok (.bipush 100, 2) := by decide +kernel
theorem dX9_readRow_297 : decode cX9_readRow 297 = .ok (.bipush 7, 2) := by decide +kernel
theorem dX9_readRow_299 : decode cX9_readRow 299 = .ok (.invokevirtual 110, 3) := by decide +kernel
theorem dX9_readRow_302 : decode cX9_readRow 302 = .ok (.bastore, 1) := by decide +kernel
theorem dX9_readRow_303 : decode cX9_readRow 303 = .ok (.aload_n 0, 1) := by decide +kernel
theorem dX9_readRow_304 : decode cX9_readRow 304 = .ok (.dup, 1) := by decide +kernel
theorem dX9_readRow_305 : decode cX9_readRow 305 = .ok (.getfield 86, 3) := by decide +kernel
theorem dX9_readRow_308 : decode cX9_readRow 308 = .ok (.aload_n 0, 1) := by decide +kernel
theorem dX9_readRow_309 : decode cX9_readRow 309 = .ok (.getfield 41, 3) := by decide +kernel
theorem dX9_readRow_312 : decode cX9_readRow 312 = .ok (.iload_n 1, 1) := by decide +kernel
theorem dX9_readRow_313 : decode cX9_readRow 313 = .ok (.baload, 1) := by decide +kernel
theorem dX9_readRow_314 : decode cX9_readRow 314 = .ok (.ifCond .eq 7, 3) := by decide +kernel
theorem dX9_readRow_317 : decode cX9_readRow 317 = .ok (.iconst 1, 1) := by decide +kernel
theorem dX9_readRow_318 : decode cX9_readRow 318 = .ok (.goto 4, 3) := by decide +kernel
theorem dX9_readRow_321 : decode cX9_readRow 321 = .ok (.iconst 0, 1) := by decide +kernel
theorem dX9_readRow_322 : decode cX9_readRow 322 = .ok (.iadd, 1) := by decide +kernel
theorem dX9_readRow_323 : decode cX9_readRow 323 = .ok (.putfield 86, 3) := by decide +kernel
theorem dX9_readRow_326 : decode cX9_readRow 326 = .ok (.aload_n 0, 1) := by decide +kernel
theorem dX9_readRow_327 : decode cX9_readRow 327 = .ok (.bipush 59, 2) := by decide +kernel
theorem dX9_readRow_329 : decode cX9_readRow 329 = .ok (.invokevirtual 121, 3) := by decide +kernel
theorem dX9_readRow_332 : decode cX9_readRow 332 = .ok (.ifCond .ne 5, 3) := by decide +kernel
theorem dX9_readRow_335 : decode cX9_readRow 335 = .ok (.iconst 0, 1) := by decide +kernel
theorem dX9_readRow_336 : decode cX9_readRow 336 = .ok (.ireturn, 1) := by decide +kernel
theorem dX9_readRow_337 : decode cX9_readRow 337 = .ok (.aload_n 0, 1) := by decide +kernel
theorem dX9_readRow_338 : decode cX9_readRow 338 = .ok (.dup, 1) := by decide +kernel
theorem dX9_readRow_339 : decode cX9_readRow 339 = .ok (.getfield 86, 3) := by decide +kernel
theorem dX9_readRow_342 : decode cX9_readRow 342 = .ok (.iconst 1, 1) := by decide +kernel
theorem dX9_readRow_343 : decode cX9_readRow 343 = .ok (.iadd, 1) := by decide +kernel
theorem dX9_readRow_344 : decode cX9_readRow 344 = .ok (.putfield 86, 3) := by decide +kernel
theorem dX9_readRow_347 : decode cX9_readRow 347 = .ok (.aload_n 0, 1) := by decide +kernel
theorem dX9_readRow_348 : decode cX9_readRow 348 = .ok (.dup, 1) := by decide +kernel
theorem dX9_readRow_349 : decode cX9_readRow 349 = .ok (.getfield 136, 3) := by decide +kernel
theorem dX9_readRow_352 : decode cX9_readRow 352 = .ok (.iconst 1, 1) := by decide +kernel
theorem dX9_readRow_353 : decode cX9_readRow 353 = .ok (.iadd, 1) := by decide +kernel
theorem dX9_readRow_354 : decode cX9_readRow 354 = .ok (.putfield 136, 3) := by decide +kernel
theorem dX9_readRow_357 : decode cX9_readRow 357 = .ok (.iconst 1, 1) := by decide +kernel
theorem dX9_readRow_358 : decode cX9_readRow 358 = .ok (.ireturn, 1) := by decide +kernel
set_option maxRecDepth 20000 in
theorem ggX9_read_X9_cut : GoodIn wsX9_read wsX9_cut := goodIn_r _ [16, 5, 1, 17, 18, 19, 20, 21, 15, 22, 82, 83, 84, 85, 86, 87, 88, 89, 90, 91, 92, 93, 94, 95, 96, 97, 98, 99, 100, 101, 102, 103, 104, 105, 106, 107, 108, 109, 110, 111, 112, 113] (by decide +kernel) (by decide +kernel)
set_option maxRecDepth 20000 in
theorem gX9_read_X9_cut : GoodIn wsX9_read (wsV RX9 142 RX9 yX9_cut wsX9_cut) := goodIn_app (goodIn_of _ (by decide +kernel)) ggX9_read_X9_cut
set_option maxRecDepth 20000 in
theorem ggX9_read_X9_is : GoodIn wsX9_read wsX9_is := goodIn_r _ [26, 27, 28, 29, 15, 30, 2, 5, 19, 18, 31, 32, 33, 34, 17, 82, 83, 84, 85, 86, 87, 88, 89, 90, 91, 92, 93, 94, 95, 96, 97, 98, 99, 100, 101, 102, 103, 104, 105, 106, 107, 108, 109, 110, 111, 112, 113] (by decide +kernel) (by decide +kernel)
set_option maxRecDepth 20000 in
theorem gX9_read_X9_is : GoodIn wsX9_read (wsV RX9 110 RX9 yX9_is wsX9_is) := goodIn_app (goodIn_of _ (by decide +kernel)) ggX9_read_X9_is
set_option maxRecDepth 20000 in
theorem ggX9_read_X9_readRow : GoodIn wsX9_read wsX9_readRow := goodIn_r _ [38, 6, 4, 2, 39, 40, 41, 42, 43, 44, 45, 46, 47, 48, 49, 15, 50, 31, 32, 33, 34, 5, 18, 19, 17, 51, 52, 53, 54, 27, 28, 29, 30, 23, 24, 25, 26, 55, 56, 57, 58, 59, 60, 61, 62, 63, 64, 65, 3, 66, 67, 68, 69, 70, 71, 72, 73, 74, 75, 76, 77, 78, 79, 80, 81, 82, 83, 84, 85, 86, 87, 88, 89, 90, 91, 92, 93, 94, 95, 96, 97, 98, 99, 100, 101, 102, 103, 104, 105, 106, 107, 108, 109, 110, 111, 112, 113] (by decide +kernel) (by decide +kernel)
set_option maxRecDepth 20000 in
theorem gX9_read_X9_readRow : GoodIn wsX9_read (wsV RX9 145 RX9 yX9_readRow wsX9_readRow) := goodIn_app (goodIn_of _ (by decide +kernel)) ggX9_read_X9_readRow
theorem dX9_read_0 : decode cX9_read 0 = .ok (.aload_n 0, 1) := by decide +kernel
theorem dX9_read_1 : decode cX9_read 1 = .ok (.invokevirtual 142, 3) := by decide +kernel
theorem dX9_read_4 : decode cX9_read 4 = .ok (.aload_n 0, 1) := by decide +kernel
theorem dX9_read_5 : decode cX9_read 5 = .ok (.iconst 0, 1) := by decide +kernel
theorem dX9_read_6 : decode cX9_read 6 = .ok (.putfield 75, 3) := by decide +kernel
theorem dX9_read_9 : decode cX9_read 9 = .ok (.aload_n 0, 1) := by decide +kernel
theorem dX9_read_10 : decode cX9_read 10 = .ok (.iconst 0, 1) := by decide +kernel
theorem dX9_read_11 : decode cX9_read 11 = .ok (.putfield 86, 3) := by decide +kernel
theorem dX9_read_14 : decode cX9_read 14 = .ok (.aload_n 0, 1) := by decide +kernel
theorem dX9_read_15 : decode cX9_read 15 = .ok (.iconst 0, 1) := by decide +kernel
theorem dX9_read_16 : decode cX9_read 16 = .ok (.putfield 104, 3) := by decide +kernel
theorem dX9_read_19 : decode cX9_read 19 = .ok (.aload_n 0, 1) := by decide +kernel
theorem dX9_read_20 : decode cX9_read 20 = .ok (.iconst 0, 1) := by decide +kernel
theorem dX9_read_21 : decode cX9_read 21 = .ok (.putfield 136, 3) := by decide +kernel
theorem dX9_read_24 : decode cX9_read 24 = .ok (.iconst 1, 1) := by decide +kernel
theorem dX9_read_25 : decode cX9_read 25 = .ok (.istore_n 1, 1) := by decide +kernel
theorem dX9_read_26 : decode cX9_read 26 = .ok (.iload_n 1, 1) := by decide +kernel
theorem dX9_read_27 : decode cX9_read 27 = .ok (.ifCond .eq 57, 3) := by decide +kernel
theorem dX9_read_30 : decode cX9_read 30 = .ok (.aload_n 0, 1) := by decide +kernel
theorem dX9_read_31 : decode cX9_read 31 = .ok (.getfield 86, 3) := by decide +kernel
theorem dX9_read_34 : decode cX9_read 34 = .ok (.aload_n 0, 1) := by decide +kernel
theorem dX9_read_35 : decode cX9_read 35 = .ok (.getfield 79, 3) := by decide +kernel
theorem dX9_read_38 : decode cX9_read 38 = .ok (.if_icmp .ge 46, 3) := by decide +kernel
theorem dX9_read_41 : decode cX9_read 41 = .ok (.aload_n 0, 1) := by decide +kernel
theorem dX9_read_42 : decode cX9_read 42 = .ok (.bipush 98, 2) := by decide +kernel
theorem dX9_read_44 : decode cX9_read 44 = .ok (.bipush 97, 2) := by decide +kernel
theorem dX9_read_46 : decode cX9_read 46 = .ok (.bipush 114, 2) := by decide +kernel
theorem dX9_read_48 : decode cX9_read 48 = .ok (.iconst 0, 1) := by decide +kernel
theorem dX9_read_49 : decode cX9_read 49 = .ok (.iconst 0, 1) := by decide +kernel
theorem dX9_read_50 : decode cX9_read 50 = .ok (.iconst 0, 1) := by decide +kernel
theorem dX9_read_51 : decode cX9_read 51 = .ok (.iconst 0, 1) := by decide +kernel
theorem dX9_read_52 : decode cX9_read 52 = .ok (.iconst 3, 1) := by decide +kernel
theorem dX9_read_53 : decode cX9_read 53 = .ok (.invokevirtual 110, 3) := by decide +kernel
theorem dX9_read_56 : decode cX9_read 56 = .ok (.ifCond .eq 23, 3) := by decide +kernel
theorem dX9_read_59 : decode cX9_read 59 = .ok (.aload_n 0, 1) := by decide +kernel
theorem dX9_read_60 : decode cX9_read 60 = .ok (.getfield 136, 3) := by decide +kernel
theorem dX9_read_63 : decode cX9_read 63 = .ok (.bipush 40, 2) := by decide +kernel
theorem dX9_read_65 : decode cX9_read 65 = .ok (.if_icmp .ge 14, 3) := by decide +kernel
theorem dX9_read_68 : decode cX9_read 68 = .ok (.aload_n 0, 1) := by decide +kernel
theorem dX9_read_69 : decode cX9_read 69 = .ok (.invokevirtual 145, 3) := by decide +kernel
theorem dX9_read_72 : decode cX9_read 72 = .ok (.ifCond .eq 7, 3) := by decide +kernel
theorem dX9_read_75 : decode cX9_read 75 = .ok (.iconst 1, 1) := by decide +kernel
theorem dX9_read_76 : decode cX9_read 76 = .ok (.goto 4, 3) := by decide +kernel
theorem dX9_read_79 : decode cX9_read 79 = .ok (.iconst 0, 1) := by decide +kernel
theorem dX9_read_80 : decode cX9_read 80 = .ok (.istore_n 1, 1) := by decide +kernel
theorem dX9_read_81 : decode cX9_read 81 = .ok (.goto (-55), 3) := by decide +kernel
theorem dX9_read_84 : decode cX9_read 84 = .ok (.iload_n 1, 1) := by decide +kernel
theorem dX9_read_85 : decode cX9_read 85 = .ok (.ifCond .ne 10, 3) := by decide +kernel
theorem dX9_read_88 : decode cX9_read 88 = .ok (.iconst (-1), 1) := by decide +kernel
theorem dX9_read_89 : decode cX9_read 89 = .ok (.aload_n 0, 1) := by decide +kernel
theorem dX9_read_90 : decode cX9_read 90 = .ok (.getfield 86, 3) := by decide +kernel
theorem dX9_read_93 : decode cX9_read 93 = .ok (.isub, 1) := by decide +kernel
theorem dX9_read_94 : decode cX9_read 94 = .ok (.ireturn, 1) := by decide +kernel
theorem dX9_read_95 : decode cX9_read 95 = .ok (.aload_n 0, 1) := by decide +kernel
theorem dX9_read_96 : decode cX9_read 96 = .ok (.iconst 1, 1) := by decide +kernel
theorem dX9_read_97 : decode cX9_read 97 = .ok (.aload_n 0, 1) := by decide +kernel
theorem dX9_read_98 : decode cX9_read 98 = .ok (.getfield 101, 3) := by decide +kernel
theorem dX9_read_101 : decode cX9_read 101 = .ok (.isub, 1) := by decide +kernel
theorem dX9_read_102 : decode cX9_read 102 = .ok (.putfield 101, 3) := by decide +kernel
theorem dX9_read_105 : decode cX9_read 105 = .ok (.aload_n 0, 1) := by decide +kernel
theorem dX9_read_106 : decode cX9_read 106 = .ok (.aload_n 0, 1) := by decide +kernel
theorem dX9_read_107 : decode cX9_read 107 = .ok (.getfield 136, 3) := by decide +kernel
theorem dX9_read_110 : decode cX9_read 110 = .ok (.putfield 149, 3) := by decide +kernel
theorem dX9_read_113 : decode cX9_read 113 = .ok (.aload_n 0, 1) := by decide +kernel
theorem dX9_read_114 : decode cX9_read 114 = .ok (.iconst 0, 1) := by decide +kernel
theorem dX9_read_115 : decode cX9_read 115 = .ok (.putfield 152, 3) := by decide +kernel
theorem dX9_read_118 : decode cX9_read 118 = .ok (.iconst 0, 1) := by decide +kernel
theorem dX9_read_119 : decode cX9_read 119 = .ok (.istore_n 2, 1) := by decide +kernel
theorem dX9_read_120 : decode cX9_read 120 = .ok (.iload_n 2, 1) := by decide +kernel
theorem dX9_read_121 : decode cX9_read 121 = .ok (.aload_n 0, 1) := by decide +kernel
theorem dX9_read_122 : decode cX9_read 122 = .ok (.getfield 149, 3) := by decide +kernel
theorem dX9_read_125 : decode cX9_read 125 = .ok (.if_icmp .ge 30, 3) := by decide +kernel
theorem dX9_read_128 : decode cX9_read 128 = .ok (.aload_n 0, 1) := by decide +kernel
theorem dX9_read_129 : decode cX9_read 129 = .ok (.getfield 48, 3) := by decide +kernel
theorem dX9_read_132 : decode cX9_read 132 = .ok (.iload_n 2, 1) := by decide +kernel
theorem dX9_read_133 : decode cX9_read 133 = .ok (.iconst 0, 1) := by decide +kernel
theorem dX9_read_134 : decode cX9_read 134 = .ok (.iastore, 1) := by decide +kernel
theorem dX9_read_135 : decode cX9_read 135 = .ok (.aload_n 0, 1) := by decide +kernel
theorem dX9_read_136 : decode cX9_read 136 = .ok (.getfield 51, 3) := by decide +kernel
theorem dX9_read_139 : decode cX9_read 139 = .ok (.iload_n 2, 1) := by decide +kernel
theorem dX9_read_140 : decode cX9_read 140 = .ok (.iconst 0, 1) := by decide +kernel
theorem dX9_read_141 : decode cX9_read 141 = .ok (.bastore, 1) := by decide +kernel
theorem dX9_read_142 : decode cX9_read 142 = .ok (.aload_n 0, 1) := by decide +kernel
theorem dX9_read_143 : decode cX9_read 143 = .ok (.getfield 54, 3) := by decide +kernel
theorem dX9_read_146 : decode cX9_read 146 = .ok (.iload_n 2, 1) := by decide +kernel
theorem dX9_read_147 : decode cX9_read 147 = .ok (.iconst 0, 1) := by decide +kernel
theorem dX9_read_148 : decode cX9_read 148 = .ok (.iastore, 1) := by decide +kernel
theorem dX9_read_149 : decode cX9_read 149 = .ok (.iinc 2 1, 3) := by decide +kernel
theorem dX9_read_152 : decode cX9_read 152 = .ok (.goto (-32), 3) := by decide +kernel
theorem dX9_read_155 : decode cX9_read 155 = .ok (.aload_n 0, 1) := by decide +kernel
theorem dX9_read_156 : decode cX9_read 156 = .ok (.getfield 149, 3) := by decide +kernel
theorem dX9_read_159 : decode cX9_read 159 = .ok (.ireturn, 1) := by decide +kernel
theorem dX9_condition_0 : decode cX9_condition 0 = .ok (.iload_n 1, 1) := by decide +kernel
theorem dX9_condition_1 : decode cX9_condition 1 = .ok (.ifCond .lt 30, 3) := by decide +kernel
theorem dX9_condition_4 : decode cX9_condition 4 = .ok (.iload_n 1, 1) := by decide +kernel
theorem dX9_condition_5 : decode cX9_condition 5 = .ok (.bipush 15, 2) := by decide +kernel
theorem dX9_condition_7 : decode cX9_condition 7 = .ok (.if_icmp .gt 24, 3) := by decide +kernel
theorem dX9_condition_10 : decode cX9_condition 10 = .ok (.aload_n 0, 1) := by decide +kernel
theorem dX9_condition_11 : decode cX9_condition 11 = .ok (.getfield 156, 3) := by decide +kernel
theorem dX9_condition_14 : decode cX9_condition 14 = .ok (.iload_n 1, 1) := by decide +kernel
theorem dX9_condition_15 : decode cX9_condition 15 = .ok (.ishr, 1) := by decide +kernel
theorem dX9_condition_16 : decode cX9_condition 16 = .ok (.iconst 1, 1) := by decide +kernel
theorem dX9_condition_17 : decode cX9_condition 17 = .ok (.iand, 1) := by decide +kernel
theorem dX9_condition_18 : decode cX9_condition 18 = .ok (.iconst 1, 1) := by decide +kernel
theorem dX9_condition_19 : decode cX9_condition 19 = .ok (.if_icmp .ne 7, 3) := by decide +kernel
theorem dX9_condition_22 : decode cX9_condition 22 = .ok (.iconst 1, 1) := by decide +kernel
theorem dX9_condition_23 : decode cX9_condition 23 = .ok (.goto 4, 3) := by decide +kernel
theorem dX9_condition_26 : decode cX9_condition 26 = .ok (.iconst 0, 1) := by decide +kernel
theorem dX9_condition_27 : decode cX9_condition 27 = .ok (.iload_n 2, 1) := by decide +kernel
theorem dX9_condition_28 : decode cX9_condition 28 = .ok (.if_icmp .ne 5, 3) := by decide +kernel
theorem dX9_condition_31 : decode cX9_condition 31 = .ok (.iconst 0, 1) := by decide +kernel
theorem dX9_condition_32 : decode cX9_condition 32 = .ok (.ireturn, 1) := by decide +kernel
theorem dX9_condition_33 : decode cX9_condition 33 = .ok (.aload_n 0, 1) := by decide +kernel
theorem dX9_condition_34 : decode cX9_condition 34 = .ok (.dup, 1) := by decide +kernel
theorem dX9_condition_35 : decode cX9_condition 35 = .ok (.getfield 156, 3) := by decide +kernel
theorem dX9_condition_38 : decode cX9_condition 38 = .ok (.iconst 1, 1) := by decide +kernel
theorem dX9_condition_39 : decode cX9_condition 39 = .ok (.iload_n 1, 1) := by decide +kernel
theorem dX9_condition_40 : decode cX9_condition 40 = .ok (.ishl, 1) := by decide +kernel
theorem dX9_condition_41 : decode cX9_condition 41 = .ok (.ixor, 1) := by decide +kernel
theorem dX9_condition_42 : decode cX9_condition 42 = .ok (.putfield 156, 3) := by decide +kernel
theorem dX9_condition_45 : decode cX9_condition 45 = .ok (.iconst 1, 1) := by decide +kernel
theorem dX9_condition_46 : decode cX9_condition 46 = .ok (.ireturn, 1) := by decide +kernel
set_option maxRecDepth 20000 in
theorem ggX9_value_X9_value : GoodIn wsX9_value wsX9_value := goodIn_r _ [0, 1, 2, 3, 4, 5, 6, 7, 8, 9, 10, 11, 12, 13, 14, 15, 16, 17, 18, 19, 20, 21, 22, 23, 24, 25, 26, 27, 28, 29, 30, 31, 32, 33, 34, 35, 36, 37, 38, 39, 40] (by decide +kernel) (by decide +kernel)
set_option maxRecDepth 20000 in
theorem gX9_value_X9_value : GoodIn wsX9_value (wsV RX9 159 RX9 yX9_value wsX9_value) := goodIn_app (goodIn_of _ (by decide +kernel)) ggX9_value_X9_value
theorem dX9_value_0 : decode cX9_value 0 = .ok (.aload_n 0, 1) := by decide +kernel
theorem dX9_value_1 : decode cX9_value 1 = .ok (.getfield 20, 3) := by decide +kernel
theorem dX9_value_4 : decode cX9_value 4 = .ok (.iload_n 1, 1) := by decide +kernel
theorem dX9_value_5 : decode cX9_value 5 = .ok (.iaload, 1) := by decide +kernel
theorem dX9_value_6 : decode cX9_value 6 = .ok (.tableswitch 109 16 18 #[26, 45, 77], 26) := by decide +kernel
theorem dX9_value_32 : decode cX9_value 32 = .ok (.aload_n 0, 1) := by decide +kernel
theorem dX9_value_33 : decode cX9_value 33 = .ok (.aload_n 0, 1) := by decide +kernel
theorem dX9_value_34 : decode cX9_value 34 = .ok (.getfield 23, 3) := by decide +kernel
theorem dX9_value_37 : decode cX9_value 37 = .ok (.iload_n 1, 1) := by decide +kernel
theorem dX9_value_38 : decode cX9_value 38 = .ok (.iaload, 1) := by decide +kernel
theorem dX9_value_39 : decode cX9_value 39 = .ok (.invokevirtual 159, 3) := by decide +kernel
theorem dX9_value_42 : decode cX9_value 42 = .ok (.ifCond .ne 7, 3) := by decide +kernel
theorem dX9_value_45 : decode cX9_value 45 = .ok (.iconst 1, 1) := by decide +kernel
theorem dX9_value_46 : decode cX9_value 46 = .ok (.goto 4, 3) := by decide +kernel
theorem dX9_value_49 : decode cX9_value 49 = .ok (.iconst 0, 1) := by decide +kernel
theorem dX9_value_50 : decode cX9_value 50 = .ok (.ireturn, 1) := by decide +kernel
theorem dX9_value_51 : decode cX9_value 51 = .ok (.aload_n 0, 1) := by decide +kernel
theorem dX9_value_52 : decode cX9_value 52 = .ok (.aload_n 0, 1) := by decide +kernel
theorem dX9_value_53 : decode cX9_value 53 = .ok (.getfield 23, 3) := by decide +kernel
theorem dX9_value_56 : decode cX9_value 56 = .ok (.iload_n 1, 1) := by decide +kernel
theorem dX9_value_57 : decode cX9_value 57 = .ok (.iaload, 1) := by decide +kernel
theorem dX9_value_58 : decode cX9_value 58 = .ok (.invokevirtual 159, 3) := by decide +kernel
theorem dX9_value_61 : decode cX9_value 61 = .ok (.ifCond .eq 20, 3) := by decide +kernel
theorem dX9_value_64 : decode cX9_value 64 = .ok (.aload_n 0, 1) := by decide +kernel
theorem dX9_value_65 : decode cX9_value 65 = .ok (.aload_n 0, 1) := by decide +kernel
theorem dX9_value_66 : decode cX9_value 66 = .ok (.getfield 26, 3) := by decide +kernel
theorem dX9_value_69 : decode cX9_value 69 = .ok (.iload_n 1, 1) := by decide +kernel
theorem dX9_value_70 : decode cX9_value 70 = .ok (.iaload, 1) := by decide +kernel
theorem dX9_value_71 : decode cX9_value 71 = .ok (.invokevirtual 159, 3) := by decide +kernel
theorem dX9_value_74 : decode cX9_value 74 = .ok (.ifCond .eq 7, 3) := by decide +kernel
theorem dX9_value_77 : decode cX9_value 77 = .ok (.iconst 1, 1) := by decide +kernel
theorem dX9_value_78 : decode cX9_value 78 = .ok (.goto 4, 3) := by decide +kernel
theorem dX9_value_81 : decode cX9_value 81 = .ok (.iconst 0, 1) := by decide +kernel
theorem dX9_value_82 : decode cX9_value 82 = .ok (.ireturn, 1) := by decide +kernel
theorem dX9_value_83 : decode cX9_value 83 = .ok (.aload_n 0, 1) := by decide +kernel
theorem dX9_value_84 : decode cX9_value 84 = .ok (.aload_n 0, 1) := by decide +kernel
theorem dX9_value_85 : decode cX9_value 85 = .ok (.getfield 23, 3) := by decide +kernel
theorem dX9_value_88 : decode cX9_value 88 = .ok (.iload_n 1, 1) := by decide +kernel
theorem dX9_value_89 : decode cX9_value 89 = .ok (.iaload, 1) := by decide +kernel
theorem dX9_value_90 : decode cX9_value 90 = .ok (.invokevirtual 159, 3) := by decide +kernel
theorem dX9_value_93 : decode cX9_value 93 = .ok (.ifCond .ne 16, 3) := by decide +kernel
theorem dX9_value_96 : decode cX9_value 96 = .ok (.aload_n 0, 1) := by decide +kernel
theorem dX9_value_97 : decode cX9_value 97 = .ok (.aload_n 0, 1) := by decide +kernel
theorem dX9_value_98 : decode cX9_value 98 = .ok (.getfield 26, 3) := by decide +kernel
theorem dX9_value_101 : decode cX9_value 101 = .ok (.iload_n 1, 1) := by decide +kernel
theorem dX9_value_102 : decode cX9_value 102 = .ok (.iaload, 1) := by decide +kernel
theorem dX9_value_103 : decode cX9_value 103 = .ok (.invokevirtual 159, 3) := by decide +kernel
theorem dX9_value_106 : decode cX9_value 106 = .ok (.ifCond .eq 7, 3) := by decide +kernel
theorem dX9_value_109 : decode cX9_value 109 = .ok (.iconst 1, 1) := by decide +kernel
theorem dX9_value_110 : decode cX9_value 110 = .ok (.goto 4, 3) := by decide +kernel
theorem dX9_value_113 : decode cX9_value 113 = .ok (.iconst 0, 1) := by decide +kernel
theorem dX9_value_114 : decode cX9_value 114 = .ok (.ireturn, 1) := by decide +kernel
theorem dX9_value_115 : decode cX9_value 115 = .ok (.aload_n 0, 1) := by decide +kernel
theorem dX9_value_116 : decode cX9_value 116 = .ok (.getfield 156, 3) := by decide +kernel
theorem dX9_value_119 : decode cX9_value 119 = .ok (.aload_n 0, 1) := by decide +kernel
theorem dX9_value_120 : decode cX9_value 120 = .ok (.getfield 20, 3) := by decide +kernel
theorem dX9_value_123 : decode cX9_value 123 = .ok (.iload_n 1, 1) := by decide +kernel
theorem dX9_value_124 : decode cX9_value 124 = .ok (.iaload, 1) := by decide +kernel
theorem dX9_value_125 : decode cX9_value 125 = .ok (.ishr, 1) := by decide +kernel
theorem dX9_value_126 : decode cX9_value 126 = .ok (.iconst 1, 1) := by decide +kernel
theorem dX9_value_127 : decode cX9_value 127 = .ok (.iand, 1) := by decide +kernel
theorem dX9_value_128 : decode cX9_value 128 = .ok (.iconst 1, 1) := by decide +kernel
theorem dX9_value_129 : decode cX9_value 129 = .ok (.if_icmp .ne 7, 3) := by decide +kernel
theorem dX9_value_132 : decode cX9_value 132 = .ok (.iconst 1, 1) := by decide +kernel
theorem dX9_value_133 : decode cX9_value 133 = .ok (.goto 4, 3) := by decide +kernel
theorem dX9_value_136 : decode cX9_value 136 = .ok (.iconst 0, 1) := by decide +kernel
theorem dX9_value_137 : decode cX9_value 137 = .ok (.ireturn, 1) := by decide +kernel
set_option maxRecDepth 20000 in
theorem ggX9_isOn_X9_value : GoodIn wsX9_isOn wsX9_value := goodIn_r _ [7, 8, 9, 10, 11, 3, 4, 5, 6, 12, 13, 14, 15, 16, 17, 18, 19, 20, 21, 22, 23, 24, 25, 26, 27, 28, 29, 30, 31, 32, 33, 34, 35, 36, 37, 38, 39, 40, 41, 42, 43] (by decide +kernel) (by decide +kernel)
set_option maxRecDepth 20000 in
theorem gX9_isOn_X9_value : GoodIn wsX9_isOn (wsV RX9 159 RX9 yX9_value wsX9_value) := goodIn_app (goodIn_of _ (by decide +kernel)) ggX9_isOn_X9_value
theorem dX9_isOn_0 : decode cX9_isOn 0 = .ok (.aload_n 0, 1) := by decide +kernel
theorem dX9_isOn_1 : decode cX9_isOn 1 = .ok (.aload_n 0, 1) := by decide +kernel
theorem dX9_isOn_2 : decode cX9_isOn 2 = .ok (.getfield 29, 3) := by decide +kernel
theorem dX9_isOn_5 : decode cX9_isOn 5 = .ok (.bipush 40, 2) := by decide +kernel
theorem dX9_isOn_7 : decode cX9_isOn 7 = .ok (.aload_n 0, 1) := by decide +kernel
theorem dX9_isOn_8 : decode cX9_isOn 8 = .ok (.getfield 101, 3) := by decide +kernel
theorem dX9_isOn_11 : decode cX9_isOn 11 = .ok (.imul, 1) := by decide +kernel
theorem dX9_isOn_12 : decode cX9_isOn 12 = .ok (.iload_n 1, 1) := by decide +kernel
theorem dX9_isOn_13 : decode cX9_isOn 13 = .ok (.iadd, 1) := by decide +kernel
theorem dX9_isOn_14 : decode cX9_isOn 14 = .ok (.iaload, 1) := by decide +kernel
theorem dX9_isOn_15 : decode cX9_isOn 15 = .ok (.invokevirtual 159, 3) := by decide +kernel
theorem dX9_isOn_18 : decode cX9_isOn 18 = .ok (.ireturn, 1) := by decide +kernel
set_option maxRecDepth 20000 in
theorem ggX9_tick_X9_isOn : GoodIn wsX9_tick wsX9_isOn := goodIn_r _ [14, 15, 7, 16, 17, 18, 13, 19, 20, 21, 22, 23, 24, 25, 26, 27, 28, 29, 30, 31, 32, 33, 34, 35, 36, 37, 38, 39, 40, 41, 42, 43, 44, 45, 46, 47, 48, 49, 50, 51, 52, 53, 54, 55] (by decide +kernel) (by decide +kernel)
set_option maxRecDepth 20000 in
theorem gX9_tick_X9_isOn : GoodIn wsX9_tick (wsV RX9 163 RX9 yX9_isOn wsX9_isOn) := goodIn_app (goodIn_of _ (by decide +kernel)) ggX9_tick_X9_isOn
theorem dX9_tick_0 : decode cX9_tick 0 = .ok (.iload_n 1, 1) := by decide +kernel
theorem dX9_tick_1 : decode cX9_tick 1 = .ok (.ifCond .lt 9, 3) := by decide +kernel
theorem dX9_tick_4 : decode cX9_tick 4 = .ok (.iload_n 1, 1) := by decide +kernel
theorem dX9_tick_5 : decode cX9_tick 5 = .ok (.ldc 162, 2) := by decide +kernel
theorem dX9_tick_7 : decode cX9_tick 7 = .ok (.if_icmp .le 5, 3) := by decide +kernel
theorem dX9_tick_10 : decode cX9_tick 10 = .ok (.iconst 0, 1) := by decide +kernel
theorem dX9_tick_11 : decode cX9_tick 11 = .ok (.ireturn, 1) := by decide +kernel
theorem dX9_tick_12 : decode cX9_tick 12 = .ok (.iconst 0, 1) := by decide +kernel
theorem dX9_tick_13 : decode cX9_tick 13 = .ok (.istore_n 2, 1) := by decide +kernel
theorem dX9_tick_14 : decode cX9_tick 14 = .ok (.iload_n 2, 1) := by decide +kernel
theorem dX9_tick_15 : decode cX9_tick 15 = .ok (.aload_n 0, 1) := by decide +kernel
theorem dX9_tick_16 : decode cX9_tick 16 = .ok (.getfield 149, 3) := by decide +kernel
theorem dX9_tick_19 : decode cX9_tick 19 = .ok (.if_icmp .ge 145, 3) := by decide +kernel
theorem dX9_tick_22 : decode cX9_tick 22 = .ok (.iload_n 1, 1) := by decide +kernel
theorem dX9_tick_23 : decode cX9_tick 23 = .ok (.ifCond .le 141, 3) := by decide +kernel
theorem dX9_tick_26 : decode cX9_tick 26 = .ok (.aload_n 0, 1) := by decide +kernel
theorem dX9_tick_27 : decode cX9_tick 27 = .ok (.iload_n 2, 1) := by decide +kernel
theorem dX9_tick_28 : decode cX9_tick 28 = .ok (.invokevirtual 163, 3) := by decide +kernel
theorem dX9_tick_31 : decode cX9_tick 31 = .ok (.istore_n 3, 1) := by decide +kernel
theorem dX9_tick_32 : decode cX9_tick 32 = .ok (.aload_n 0, 1) := by decide +kernel
theorem dX9_tick_33 : decode cX9_tick 33 = .ok (.getfield 48, 3) := by decide +kernel
theorem dX9_tick_36 : decode cX9_tick 36 = .ok (.iload_n 2, 1) := by decide +kernel
theorem dX9_tick_37 : decode cX9_tick 37 = .ok (.iload_n 3, 1) := by decide +kernel
theorem dX9_tick_38 : decode cX9_tick 38 = .ok (.ifCond .ne 7, 3) := by decide +kernel
theorem dX9_tick_41 : decode cX9_tick 41 = .ok (.iconst 0, 1) := by decide +kernel
theorem dX9_tick_42 : decode cX9_tick 42 = .ok (.goto 29, 3) := by decide +kernel
theorem dX9_tick_45 : decode cX9_tick 45 = .ok (.aload_n 0, 1) := by decide +kernel
theorem dX9_tick_46 : decode cX9_tick 46 = .ok (.getfield 48, 3) := by decide +kernel
theorem dX9_tick_49 : decode cX9_tick 49 = .ok (.iload_n 2, 1) := by decide +kernel
theorem dX9_tick_50 : decode cX9_tick 50 = .ok (.iaload, 1) := by decide +kernel
theorem dX9_tick_51 : decode cX9_tick 51 = .ok (.iload_n 1, 1) := by decide +kernel
theorem dX9_tick_52 : decode cX9_tick 52 = .ok (.iadd, 1) := by decide +kernel
theorem dX9_tick_53 : decode cX9_tick 53 = .ok (.ldc 166, 2) := by decide +kernel
theorem dX9_tick_55 : decode cX9_tick 55 = .ok (.if_icmp .le 8, 3) := by decide +kernel
theorem dX9_tick_58 : decode cX9_tick 58 = .ok (.ldc 166, 2) := by decide +kernel
theorem dX9_tick_60 : decode cX9_tick 60 = .ok (.goto 11, 3) := by decide +kernel
theorem dX9_tick_63 : decode cX9_tick 63 = .ok (.aload_n 0, 1) := by decide +kernel
theorem dX9_tick_64 : decode cX9_tick 64 = .ok (.getfield 48, 3) := by decide +kernel
theorem dX9_tick_67 : decode cX9_tick 67 = .ok (.iload_n 2, 1) := by decide +kernel
theorem dX9_tick_68 : decode cX9_tick 68 = .ok (.iaload, 1) := by decide +kernel
theorem dX9_tick_69 : decode cX9_tick 69 = .ok (.iload_n 1, 1) := by decide +kernel
theorem dX9_tick_70 : decode cX9_tick 70 = .ok (.iadd, 1) := by decide +kernel
theorem dX9_tick_71 : decode cX9_tick 71 = .ok (.iastore, 1) := by decide +kernel
theorem dX9_tick_72 : decode cX9_tick 72 = .ok (.aload_n 0, 1) := by decide +kernel
theorem dX9_tick_73 : decode cX9_tick 73 = .ok (.getfield 51, 3) := by decide +kernel
theorem dX9_tick_76 : decode cX9_tick 76 = .ok (.iload_n 2, 1) := by decide +kernel
theorem dX9_tick_77 : decode cX9_tick 77 = .ok (.dup2, 1) := by decide +kernel
theorem dX9_tick_78 : decode cX9_tick 78 = .ok (.baload, 1) := by decide +kernel
theorem dX9_tick_79 : decode cX9_tick 79 = .ok (.iload_n 3, 1) := by decide +kernel
theorem dX9_tick_80 : decode cX9_tick 80 = .ok (.ifCond .eq 47, 3) := by decide +kernel
theorem dX9_tick_83 : decode cX9_tick 83 = .ok (.aload_n 0, 1) := by decide +kernel
theorem dX9_tick_84 : decode cX9_tick 84 = .ok (.getfield 41, 3) := by decide +kernel
theorem dX9_tick_87 : decode cX9_tick 87 = .ok (.bipush 40, 2) := by decide +kernel
theorem dX9_tick_89 : decode cX9_tick 89 = .ok (.aload_n 0, 1) := by decide +kernel
theorem dX9_tick_90 : decode cX9_tick 90 = .ok (.getfield 101, 3) := by decide +kernel
theorem dX9_tick_93 : decode cX9_tick 93 = .ok (.imul, 1) := by decide +kernel
theorem dX9_tick_94 : decode cX9_tick 94 = .ok (.iload_n 2, 1) := by decide +kernel
theorem dX9_tick_95 : decode cX9_tick 95 = .ok (.iadd, 1) := by decide +kernel
theorem dX9_tick_96 : decode cX9_tick 96 = .ok (.baload, 1) := by decide +kernel
theorem dX9_tick_97 : decode cX9_tick 97 = .ok (.ifCond .eq 30, 3) := by decide +kernel
theorem dX9_tick_100 : decode cX9_tick 100 = .ok (.aload_n 0, 1) := by decide +kernel
theorem dX9_tick_101 : decode cX9_tick 101 = .ok (.getfield 48, 3) := by decide +kernel
theorem dX9_tick_104 : decode cX9_tick 104 = .ok (.iload_n 2, 1) := by decide +kernel
theorem dX9_tick_105 : decode cX9_tick 105 = .ok (.iaload, 1) := by decide +kernel
theorem dX9_tick_106 : decode cX9_tick 106 = .ok (.aload_n 0, 1) := by decide +kernel
theorem dX9_tick_107 : decode cX9_tick 107 = .ok (.getfield 38, 3) := by decide +kernel
theorem dX9_tick_110 : decode cX9_tick 110 = .ok (.bipush 40, 2) := by decide +kernel
theorem dX9_tick_112 : decode cX9_tick 112 = .ok (.aload_n 0, 1) := by decide +kernel
theorem dX9_tick_113 : decode cX9_tick 113 = .ok (.getfield 101, 3) := by decide +kernel
theorem dX9_tick_116 : decode cX9_tick 116 = .ok (.imul, 1) := by decide +kernel
theorem dX9_tick_117 : decode cX9_tick 117 = .ok (.iload_n 2, 1) := by decide +kernel
theorem dX9_tick_118 : decode cX9_tick 118 = .ok (.iadd, 1) := by decide +kernel
theorem dX9_tick_119 : decode cX9_tick 119 = .ok (.iaload, 1) := by decide +kernel
theorem dX9_tick_120 : decode cX9_tick 120 = .ok (.if_icmp .lt 7, 3) := by decide +kernel
theorem dX9_tick_123 : decode cX9_tick 123 = .ok (.iconst 1, 1) := by decide +kernel
theorem dX9_tick_124 : decode cX9_tick 124 = .ok (.goto 4, 3) := by decide +kernel
theorem dX9_tick_127 : decode cX9_tick 127 = .ok (.iconst 0, 1) := by decide +kernel
theorem dX9_tick_128 : decode cX9_tick 128 = .ok (.ior, 1) := by decide +kernel
theorem dX9_tick_129 : decode cX9_tick 129 = .ok (.bastore, 1) := by decide +kernel
theorem dX9_tick_130 : decode cX9_tick 130 = .ok (.aload_n 0, 1) := by decide +kernel
theorem dX9_tick_131 : decode cX9_tick 131 = .ok (.getfield 54, 3) := by decide +kernel
theorem dX9_tick_134 : decode cX9_tick 134 = .ok (.iload_n 2, 1) := by decide +kernel
theorem dX9_tick_135 : decode cX9_tick 135 = .ok (.aload_n 0, 1) := by decide +kernel
theorem dX9_tick_136 : decode cX9_tick 136 = .ok (.getfield 54, 3) := by decide +kernel
theorem dX9_tick_139 : decode cX9_tick 139 = .ok (.iload_n 2, 1) := by decide +kernel
theorem dX9_tick_140 : decode cX9_tick 140 = .ok (.iaload, 1) := by decide +kernel
theorem dX9_tick_141 : decode cX9_tick 141 = .ok (.iload_n 1, 1) := by decide +kernel
theorem dX9_tick_142 : decode cX9_tick 142 = .ok (.if_icmp .le 14, 3) := by decide +kernel
theorem dX9_tick_145 : decode cX9_tick 145 = .ok (.aload_n 0, 1) := by decide +kernel
theorem dX9_tick_146 : decode cX9_tick 146 = .ok (.getfield 54, 3) := by decide +kernel
theorem dX9_tick_149 : decode cX9_tick 149 = .ok (.iload_n 2, 1) := by decide +kernel
theorem dX9_tick_150 : decode cX9_tick 150 = .ok (.iaload, 1) := by decide +kernel
theorem dX9_tick_151 : decode cX9_tick 151 = .ok (.iload_n 1, 1) := by decide +kernel
theorem dX9_tick_152 : decode cX9_tick 152 = .ok (.isub, 1) := by decide +kernel
theorem dX9_tick_153 : decode cX9_tick 153 = .ok (.goto 4, 3) := by decide +kernel
theorem dX9_tick_156 : decode cX9_tick 156 = .ok (.iconst 0, 1) := by decide +kernel
theorem dX9_tick_157 : decode cX9_tick 157 = .ok (.iastore, 1) := by decide +kernel
theorem dX9_tick_158 : decode cX9_tick 158 = .ok (.iinc 2 1, 3) := by decide +kernel
theorem dX9_tick_161 : decode cX9_tick 161 = .ok (.goto (-147), 3) := by decide +kernel
theorem dX9_tick_164 : decode cX9_tick 164 = .ok (.iconst 1, 1) := by decide +kernel
theorem dX9_tick_165 : decode cX9_tick 165 = .ok (.ireturn, 1) := by decide +kernel
set_option maxRecDepth 20000 in
theorem ggX9_act__X9_isOn : GoodIn wsX9_act_ wsX9_isOn := goodIn_r _ [11, 12, 6, 13, 14, 15, 10, 16, 17, 18, 19, 20, 27, 28, 29, 30, 31, 32, 33, 34, 35, 36, 37, 38, 39, 40, 41, 42, 43, 44, 45, 46, 47, 48, 49, 50, 51, 52, 53, 54, 55, 56, 57, 58] (by decide +kernel) (by decide +kernel)
set_option maxRecDepth 20000 in
theorem gX9_act__X9_isOn : GoodIn wsX9_act_ (wsV RX9 163 RX9 yX9_isOn wsX9_isOn) := goodIn_app (goodIn_of _ (by decide +kernel)) ggX9_act__X9_isOn
set_option maxRecDepth 20000 in
theorem ggX9_act__X9_hasAct : GoodIn wsX9_act_ wsX9_hasAct := goodIn_r _ [24, 6, 25, 26, 27, 28, 29, 30, 31, 32, 33, 34, 35, 36, 37, 38, 39, 40, 41, 42, 43, 44, 45, 46, 47, 48, 49, 50, 51, 52, 53, 54, 55, 56, 57, 58] (by decide +kernel) (by decide +kernel)
set_option maxRecDepth 20000 in
theorem gX9_act__X9_hasAct : GoodIn wsX9_act_ (wsV RX9 167 RX9 yX9_hasAct wsX9_hasAct) := goodIn_app (goodIn_of _ (by decide +kernel)) ggX9_act__X9_hasAct
theorem dX9_act__0 : decode cX9_act_ 0 = .ok (.iload_n 1, 1) := by decide +kernel
theorem dX9_act__1 : decode cX9_act_ 1 = .ok (.ifCond .lt 9, 3) := by decide +kernel
theorem dX9_act__4 : decode cX9_act_ 4 = .ok (.iload_n 1, 1) := by decide +kernel
theorem dX9_act__5 : decode cX9_act_ 5 = .ok (.bipush 31, 2) := by decide +kernel
theorem dX9_act__7 : decode cX9_act_ 7 = .ok (.if_icmp .le 5, 3) := by decide +kernel
theorem dX9_act__10 : decode cX9_act_ 10 = .ok (.iconst (-1), 1) := by decide +kernel
theorem dX9_act__11 : decode cX9_act_ 11 = .ok (.ireturn, 1) := by decide +kernel
theorem dX9_act__12 : decode cX9_act_ 12 = .ok (.iconst 0, 1) := by decide +kernel
theorem dX9_act__13 : decode cX9_act_ 13 = .ok (.istore_n 2, 1) := by decide +kernel
theorem dX9_act__14 : decode cX9_act_ 14 = .ok (.iload_n 2, 1) := by decide +kernel
theorem dX9_act__15 : decode cX9_act_ 15 = .ok (.aload_n 0, 1) := by decide +kernel
theorem dX9_act__16 : decode cX9_act_ 16 = .ok (.getfield 149, 3) := by decide +kernel
theorem dX9_act__19 : decode cX9_act_ 19 = .ok (.if_icmp .ge 81, 3) := by decide +kernel
theorem dX9_act__22 : decode cX9_act_ 22 = .ok (.aload_n 0, 1) := by decide +kernel
theorem dX9_act__23 : decode cX9_act_ 23 = .ok (.getfield 54, 3) := by decide +kernel
theorem dX9_act__26 : decode cX9_act_ 26 = .ok (.iload_n 2, 1) := by decide +kernel
theorem dX9_act__27 : decode cX9_act_ 27 = .ok (.iaload, 1) := by decide +kernel
theorem dX9_act__28 : decode cX9_act_ 28 = .ok (.ifCond .ne 47, 3) := by decide +kernel
theorem dX9_act__31 : decode cX9_act_ 31 = .ok (.aload_n 0, 1) := by decide +kernel
theorem dX9_act__32 : decode cX9_act_ 32 = .ok (.getfield 51, 3) := by decide +kernel
theorem dX9_act__35 : decode cX9_act_ 35 = .ok (.iload_n 2, 1) := by decide +kernel
theorem dX9_act__36 : decode cX9_act_ 36 = .ok (.baload, 1) := by decide +kernel
theorem dX9_act__37 : decode cX9_act_ 37 = .ok (.ifCond .ne 34, 3) := by decide +kernel
theorem dX9_act__40 : decode cX9_act_ 40 = .ok (.aload_n 0, 1) := by decide +kernel
theorem dX9_act__41 : decode cX9_act_ 41 = .ok (.iload_n 2, 1) := by decide +kernel
theorem dX9_act__42 : decode cX9_act_ 42 = .ok (.invokevirtual 163, 3) := by decide +kernel
theorem dX9_act__45 : decode cX9_act_ 45 = .ok (.ifCond .eq 30, 3) := by decide +kernel
theorem dX9_act__48 : decode cX9_act_ 48 = .ok (.aload_n 0, 1) := by decide +kernel
theorem dX9_act__49 : decode cX9_act_ 49 = .ok (.getfield 48, 3) := by decide +kernel
theorem dX9_act__52 : decode cX9_act_ 52 = .ok (.iload_n 2, 1) := by decide +kernel
theorem dX9_act__53 : decode cX9_act_ 53 = .ok (.iaload, 1) := by decide +kernel
theorem dX9_act__54 : decode cX9_act_ 54 = .ok (.aload_n 0, 1) := by decide +kernel
theorem dX9_act__55 : decode cX9_act_ 55 = .ok (.getfield 38, 3) := by decide +kernel
theorem dX9_act__58 : decode cX9_act_ 58 = .ok (.bipush 40, 2) := by decide +kernel
theorem dX9_act__60 : decode cX9_act_ 60 = .ok (.aload_n 0, 1) := by decide +kernel
theorem dX9_act__61 : decode cX9_act_ 61 = .ok (.getfield 101, 3) := by decide +kernel
theorem dX9_act__64 : decode cX9_act_ 64 = .ok (.imul, 1) := by decide +kernel
theorem dX9_act__65 : decode cX9_act_ 65 = .ok (.iload_n 2, 1) := by decide +kernel
theorem dX9_act__66 : decode cX9_act_ 66 = .ok (.iadd, 1) := by decide +kernel
theorem dX9_act__67 : decode cX9_act_ 67 = .ok (.iaload, 1) := by decide +kernel
theorem dX9_act__68 : decode cX9_act_ 68 = .ok (.if_icmp .lt 7, 3) := by decide +kernel
theorem dX9_act__71 : decode cX9_act_ 71 = .ok (.iconst 1, 1) := by decide +kernel
theorem dX9_act__72 : decode cX9_act_ 72 = .ok (.goto 4, 3) := by decide +kernel
theorem dX9_act__75 : decode cX9_act_ 75 = .ok (.iconst 0, 1) := by decide +kernel
theorem dX9_act__76 : decode cX9_act_ 76 = .ok (.istore_n 3, 1) := by decide +kernel
theorem dX9_act__77 : decode cX9_act_ 77 = .ok (.iload_n 3, 1) := by decide +kernel
theorem dX9_act__78 : decode cX9_act_ 78 = .ok (.ifCond .eq 16, 3) := by decide +kernel
theorem dX9_act__81 : decode cX9_act_ 81 = .ok (.aload_n 0, 1) := by decide +kernel
theorem dX9_act__82 : decode cX9_act_ 82 = .ok (.iload_n 2, 1) := by decide +kernel
theorem dX9_act__83 : decode cX9_act_ 83 = .ok (.iload_n 1, 1) := by decide +kernel
theorem dX9_act__84 : decode cX9_act_ 84 = .ok (.invokevirtual 167, 3) := by decide +kernel
theorem dX9_act__87 : decode cX9_act_ 87 = .ok (.ifCond .eq 7, 3) := by decide +kernel
theorem dX9_act__90 : decode cX9_act_ 90 = .ok (.iload_n 2, 1) := by decide +kernel
theorem dX9_act__91 : decode cX9_act_ 91 = .ok (.iconst 1, 1) := by decide +kernel
theorem dX9_act__92 : decode cX9_act_ 92 = .ok (.iadd, 1) := by decide +kernel
theorem dX9_act__93 : decode cX9_act_ 93 = .ok (.ireturn, 1) := by decide +kernel
theorem dX9_act__94 : decode cX9_act_ 94 = .ok (.iinc 2 1, 3) := by decide +kernel
theorem dX9_act__97 : decode cX9_act_ 97 = .ok (.goto (-83), 3) := by decide +kernel
theorem dX9_act__100 : decode cX9_act_ 100 = .ok (.iconst 0, 1) := by decide +kernel
theorem dX9_act__101 : decode cX9_act_ 101 = .ok (.ireturn, 1) := by decide +kernel
theorem dX9_hasAct_0 : decode cX9_hasAct 0 = .ok (.bipush 40, 2) := by decide +kernel
theorem dX9_hasAct_2 : decode cX9_hasAct 2 = .ok (.aload_n 0, 1) := by decide +kernel
theorem dX9_hasAct_3 : decode cX9_hasAct 3 = .ok (.getfield 101, 3) := by decide +kernel
theorem dX9_hasAct_6 : decode cX9_hasAct 6 = .ok (.imul, 1) := by decide +kernel
theorem dX9_hasAct_7 : decode cX9_hasAct 7 = .ok (.iload_n 1, 1) := by decide +kernel
theorem dX9_hasAct_8 : decode cX9_hasAct 8 = .ok (.iadd, 1) := by decide +kernel
theorem dX9_hasAct_9 : decode cX9_hasAct 9 = .ok (.istore_n 3, 1) := by decide +kernel
theorem dX9_hasAct_10 : decode cX9_hasAct 10 = .ok (.iconst 0, 1) := by decide +kernel
theorem dX9_hasAct_11 : decode cX9_hasAct 11 = .ok (.istore 4, 2) := by decide +kernel
theorem dX9_hasAct_13 : decode cX9_hasAct 13 = .ok (.iconst 0, 1) := by decide +kernel
theorem dX9_hasAct_14 : decode cX9_hasAct 14 = .ok (.istore 5, 2) := by decide +kernel
theorem dX9_hasAct_16 : decode cX9_hasAct 16 = .ok (.iload 5, 2) := by decide +kernel
theorem dX9_hasAct_18 : decode cX9_hasAct 18 = .ok (.aload_n 0, 1) := by decide +kernel
theorem dX9_hasAct_19 : decode cX9_hasAct 19 = .ok (.getfield 32, 3) := by decide +kernel
theorem dX9_hasAct_22 : decode cX9_hasAct 22 = .ok (.iload_n 3, 1) := by decide +kernel
theorem dX9_hasAct_23 : decode cX9_hasAct 23 = .ok (.iaload, 1) := by decide +kernel
theorem dX9_hasAct_24 : decode cX9_hasAct 24 = .ok (.if_icmp .ge 37, 3) := by decide +kernel
theorem dX9_hasAct_27 : decode cX9_hasAct 27 = .ok (.iload 4, 2) := by decide +kernel
theorem dX9_hasAct_29 : decode cX9_hasAct 29 = .ok (.ifCond .ne 19, 3) := by decide +kernel
theorem dX9_hasAct_32 : decode cX9_hasAct 32 = .ok (.aload_n 0, 1) := by decide +kernel
theorem dX9_hasAct_33 : decode cX9_hasAct 33 = .ok (.getfield 35, 3) := by decide +kernel
theorem dX9_hasAct_36 : decode cX9_hasAct 36 = .ok (.bipush 8, 2) := by decide +kernel
theorem dX9_hasAct_38 : decode cX9_hasAct 38 = .ok (.iload_n 3, 1) := by decide +kernel
theorem dX9_hasAct_39 : decode cX9_hasAct 39 = .ok (.imul, 1) := by decide +kernel
theorem dX9_hasAct_40 : decode cX9_hasAct 40 = .ok (.iload 5, 2) := by decide +kernel
theorem dX9_hasAct_42 : decode cX9_hasAct 42 = .ok (.iadd, 1) := by decide +kernel
theorem dX9_hasAct_43 : decode cX9_hasAct 43 = .ok (.iaload, 1) := by decide +kernel
theorem dX9_hasAct_44 : decode cX9_hasAct 44 = .ok (.iload_n 2, 1) := by decide +kernel
theorem dX9_hasAct_45 : decode cX9_hasAct 45 = .ok (.if_icmp .ne 7, 3) := by decide +kernel
theorem dX9_hasAct_48 : decode cX9_hasAct 48 = .ok (.iconst 1, 1) := by decide +kernel
theorem dX9_hasAct_49 : decode cX9_hasAct 49 = .ok (.goto 4, 3) := by decide +kernel
theorem dX9_hasAct_52 : decode cX9_hasAct 52 = .ok (.iconst 0, 1) := by decide +kernel
theorem dX9_hasAct_53 : decode cX9_hasAct 53 = .ok (.istore 4, 2) := by decide +kernel
theorem dX9_hasAct_55 : decode cX9_hasAct 55 = .ok (.iinc 5 1, 3) := by decide +kernel
theorem dX9_hasAct_58 : decode cX9_hasAct 58 = .ok (.goto (-42), 3) := by decide +kernel
theorem dX9_hasAct_61 : decode cX9_hasAct 61 = .ok (.iload 4, 2) := by decide +kernel
theorem dX9_hasAct_63 : decode cX9_hasAct 63 = .ok (.ireturn, 1) := by decide +kernel
theorem dX9_isRow_0 : decode cX9_isRow 0 = .ok (.iload_n 1, 1) := by decide +kernel
theorem dX9_isRow_1 : decode cX9_isRow 1 = .ok (.iconst 1, 1) := by decide +kernel
theorem dX9_isRow_2 : decode cX9_isRow 2 = .ok (.if_icmp .lt 15, 3) := by decide +kernel
theorem dX9_isRow_5 : decode cX9_isRow 5 = .ok (.iload_n 1, 1) := by decide +kernel
theorem dX9_isRow_6 : decode cX9_isRow 6 = .ok (.aload_n 0, 1) := by decide +kernel
theorem dX9_isRow_7 : decode cX9_isRow 7 = .ok (.getfield 149, 3) := by decide +kernel
theorem dX9_isRow_10 : decode cX9_isRow 10 = .ok (.if_icmp .gt 7, 3) := by decide +kernel
theorem dX9_isRow_13 : decode cX9_isRow 13 = .ok (.iconst 1, 1) := by decide +kernel
theorem dX9_isRow_14 : decode cX9_isRow 14 = .ok (.goto 4, 3) := by decide +kernel
theorem dX9_isRow_17 : decode cX9_isRow 17 = .ok (.iconst 0, 1) := by decide +kernel
theorem dX9_isRow_18 : decode cX9_isRow 18 = .ok (.ireturn, 1) := by decide +kernel
set_option maxRecDepth 20000 in
theorem ggX9_pass_X9_isRow : GoodIn wsX9_pass wsX9_isRow := goodIn_r _ [6, 7, 8, 9, 10, 11, 12, 13, 14, 15, 16, 17, 18, 19, 20, 21, 22, 23, 24, 25, 26, 27, 28, 29, 30, 31, 32, 33, 34, 35, 36, 37, 38, 39] (by decide +kernel) (by decide +kernel)
set_option maxRecDepth 20000 in
theorem gX9_pass_X9_isRow : GoodIn wsX9_pass (wsV RX9 171 RX9 yX9_isRow wsX9_isRow) := goodIn_app (goodIn_of _ (by decide +kernel)) ggX9_pass_X9_isRow
theorem dX9_pass_0 : decode cX9_pass 0 = .ok (.aload_n 0, 1) := by decide +kernel
theorem dX9_pass_1 : decode cX9_pass 1 = .ok (.iload_n 1, 1) := by decide +kernel
theorem dX9_pass_2 : decode cX9_pass 2 = .ok (.invokevirtual 171, 3) := by decide +kernel
theorem dX9_pass_5 : decode cX9_pass 5 = .ok (.ifCond .ne 5, 3) := by decide +kernel
theorem dX9_pass_8 : decode cX9_pass 8 = .ok (.iconst (-1), 1) := by decide +kernel
theorem dX9_pass_9 : decode cX9_pass 9 = .ok (.ireturn, 1) := by decide +kernel
theorem dX9_pass_10 : decode cX9_pass 10 = .ok (.iload_n 2, 1) := by decide +kernel
theorem dX9_pass_11 : decode cX9_pass 11 = .ok (.iconst 1, 1) := by decide +kernel
theorem dX9_pass_12 : decode cX9_pass 12 = .ok (.if_icmp .lt 27, 3) := by decide +kernel
theorem dX9_pass_15 : decode cX9_pass 15 = .ok (.iload_n 2, 1) := by decide +kernel
theorem dX9_pass_16 : decode cX9_pass 16 = .ok (.sipush 999, 3) := by decide +kernel
theorem dX9_pass_19 : decode cX9_pass 19 = .ok (.if_icmp .gt 20, 3) := by decide +kernel
theorem dX9_pass_22 : decode cX9_pass 22 = .ok (.iload_n 3, 1) := by decide +kernel
theorem dX9_pass_23 : decode cX9_pass 23 = .ok (.iconst 1, 1) := by decide +kernel
theorem dX9_pass_24 : decode cX9_pass 24 = .ok (.if_icmp .lt 15, 3) := by decide +kernel
theorem dX9_pass_27 : decode cX9_pass 27 = .ok (.iload_n 3, 1) := by decide +kernel
theorem dX9_pass_28 : decode cX9_pass 28 = .ok (.sipush 999, 3) := by decide +kernel
theorem dX9_pass_31 : decode cX9_pass 31 = .ok (.if_icmp .gt 8, 3) := by decide +kernel
theorem dX9_pass_34 : decode cX9_pass 34 = .ok (.iload_n 2, 1) := by decide +kernel
theorem dX9_pass_35 : decode cX9_pass 35 = .ok (.iload_n 3, 1) := by decide +kernel
theorem dX9_pass_36 : decode cX9_pass 36 = .ok (.if_icmp .ne 6, 3) := by decide +kernel
theorem dX9_pass_39 : decode cX9_pass 39 = .ok (.bipush (-2), 2) := by decide +kernel
theorem dX9_pass_41 : decode cX9_pass 41 = .ok (.ireturn, 1) := by decide +kernel
theorem dX9_pass_42 : decode cX9_pass 42 = .ok (.iload 4, 2) := by decide +kernel
theorem dX9_pass_44 : decode cX9_pass 44 = .ok (.iconst 1, 1) := by decide +kernel
theorem dX9_pass_45 : decode cX9_pass 45 = .ok (.if_icmp .lt 11, 3) := by decide +kernel
theorem dX9_pass_48 : decode cX9_pass 48 = .ok (.iload 4, 2) := by decide +kernel
theorem dX9_pass_50 : decode cX9_pass 50 = .ok (.sipush 3600, 3) := by decide +kernel
theorem dX9_pass_53 : decode cX9_pass 53 = .ok (.if_icmp .le 6, 3) := by decide +kernel
theorem dX9_pass_56 : decode cX9_pass 56 = .ok (.bipush (-3), 2) := by decide +kernel
theorem dX9_pass_58 : decode cX9_pass 58 = .ok (.ireturn, 1) := by decide +kernel
theorem dX9_pass_59 : decode cX9_pass 59 = .ok (.aload_n 0, 1) := by decide +kernel
theorem dX9_pass_60 : decode cX9_pass 60 = .ok (.getfield 54, 3) := by decide +kernel
theorem dX9_pass_63 : decode cX9_pass 63 = .ok (.iload_n 1, 1) := by decide +kernel
theorem dX9_pass_64 : decode cX9_pass 64 = .ok (.iconst 1, 1) := by decide +kernel
theorem dX9_pass_65 : decode cX9_pass 65 = .ok (.isub, 1) := by decide +kernel
theorem dX9_pass_66 : decode cX9_pass 66 = .ok (.iaload, 1) := by decide +kernel
theorem dX9_pass_67 : decode cX9_pass 67 = .ok (.ifCond .le 6, 3) := by decide +kernel
theorem dX9_pass_70 : decode cX9_pass 70 = .ok (.bipush (-4), 2) := by decide +kernel
theorem dX9_pass_72 : decode cX9_pass 72 = .ok (.ireturn, 1) := by decide +kernel
theorem dX9_pass_73 : decode cX9_pass 73 = .ok (.aload_n 0, 1) := by decide +kernel
theorem dX9_pass_74 : decode cX9_pass 74 = .ok (.getfield 54, 3) := by decide +kernel
theorem dX9_pass_77 : decode cX9_pass 77 = .ok (.iload_n 1, 1) := by decide +kernel
theorem dX9_pass_78 : decode cX9_pass 78 = .ok (.iconst 1, 1) := by decide +kernel
theorem dX9_pass_79 : decode cX9_pass 79 = .ok (.isub, 1) := by decide +kernel
theorem dX9_pass_80 : decode cX9_pass 80 = .ok (.iload 4, 2) := by decide +kernel
theorem dX9_pass_82 : decode cX9_pass 82 = .ok (.iastore, 1) := by decide +kernel
theorem dX9_pass_83 : decode cX9_pass 83 = .ok (.iconst 0, 1) := by decide +kernel
theorem dX9_pass_84 : decode cX9_pass 84 = .ok (.ireturn, 1) := by decide +kernel
theorem dX9_listed_0 : decode cX9_listed 0 = .ok (.iload_n 1, 1) := by decide +kernel
theorem dX9_listed_1 : decode cX9_listed 1 = .ok (.istore_n 2, 1) := by decide +kernel
theorem dX9_listed_2 : decode cX9_listed 2 = .ok (.iconst 0, 1) := by decide +kernel
theorem dX9_listed_3 : decode cX9_listed 3 = .ok (.istore_n 3, 1) := by decide +kernel
theorem dX9_listed_4 : decode cX9_listed 4 = .ok (.iload_n 3, 1) := by decide +kernel
theorem dX9_listed_5 : decode cX9_listed 5 = .ok (.aload_n 0, 1) := by decide +kernel
theorem dX9_listed_6 : decode cX9_listed 6 = .ok (.getfield 149, 3) := by decide +kernel
theorem dX9_listed_9 : decode cX9_listed 9 = .ok (.if_icmp .ge 33, 3) := by decide +kernel
theorem dX9_listed_12 : decode cX9_listed 12 = .ok (.iload_n 2, 1) := by decide +kernel
theorem dX9_listed_13 : decode cX9_listed 13 = .ok (.ifCond .lt 29, 3) := by decide +kernel
theorem dX9_listed_16 : decode cX9_listed 16 = .ok (.aload_n 0, 1) := by decide +kernel
theorem dX9_listed_17 : decode cX9_listed 17 = .ok (.getfield 54, 3) := by decide +kernel
theorem dX9_listed_20 : decode cX9_listed 20 = .ok (.iload_n 3, 1) := by decide +kernel
theorem dX9_listed_21 : decode cX9_listed 21 = .ok (.iaload, 1) := by decide +kernel
theorem dX9_listed_22 : decode cX9_listed 22 = .ok (.ifCond .le 14, 3) := by decide +kernel
theorem dX9_listed_25 : decode cX9_listed 25 = .ok (.iload_n 2, 1) := by decide +kernel
theorem dX9_listed_26 : decode cX9_listed 26 = .ok (.ifCond .ne 7, 3) := by decide +kernel
theorem dX9_listed_29 : decode cX9_listed 29 = .ok (.iload_n 3, 1) := by decide +kernel
theorem dX9_listed_30 : decode cX9_listed 30 = .ok (.iconst 1, 1) := by decide +kernel
theorem dX9_listed_31 : decode cX9_listed 31 = .ok (.iadd, 1) := by decide +kernel
theorem dX9_listed_32 : decode cX9_listed 32 = .ok (.ireturn, 1) := by decide +kernel
theorem dX9_listed_33 : decode cX9_listed 33 = .ok (.iinc 2 (-1), 3) := by decide +kernel
theorem dX9_listed_36 : decode cX9_listed 36 = .ok (.iinc 3 1, 3) := by decide +kernel
theorem dX9_listed_39 : decode cX9_listed 39 = .ok (.goto (-35), 3) := by decide +kernel
theorem dX9_listed_42 : decode cX9_listed 42 = .ok (.iconst (-1), 1) := by decide +kernel
theorem dX9_listed_43 : decode cX9_listed 43 = .ok (.ireturn, 1) := by decide +kernel
set_option maxRecDepth 20000 in
theorem ggX9_reset_X9_isRow : GoodIn wsX9_reset wsX9_isRow := goodIn_r _ [6, 7, 22, 23, 24, 25, 26, 27, 28, 29, 30, 31, 32, 33, 34, 35, 36, 37, 38, 39, 40, 41, 42, 43, 44, 45, 46, 47, 48, 49, 50, 51, 52, 53] (by decide +kernel) (by decide +kernel)
set_option maxRecDepth 20000 in
theorem gX9_reset_X9_isRow : GoodIn wsX9_reset (wsV RX9 171 RX9 yX9_isRow wsX9_isRow) := goodIn_app (goodIn_of _ (by decide +kernel)) ggX9_reset_X9_isRow
set_option maxRecDepth 20000 in
theorem ggX9_reset_X9_isOn : GoodIn wsX9_reset wsX9_isOn := goodIn_r _ [11, 12, 13, 14, 15, 16, 5, 17, 18, 19, 20, 21, 22, 23, 24, 25, 26, 27, 28, 29, 30, 31, 32, 33, 34, 35, 36, 37, 38, 39, 40, 41, 42, 43, 44, 45, 46, 47, 48, 49, 50, 51, 52, 53] (by decide +kernel) (by decide +kernel)
set_option maxRecDepth 20000 in
theorem gX9_reset_X9_isOn : GoodIn wsX9_reset (wsV RX9 163 RX9 yX9_isOn wsX9_isOn) := goodIn_app (goodIn_of _ (by decide +kernel)) ggX9_reset_X9_isOn
theorem dX9_reset_0 : decode cX9_reset 0 = .ok (.aload_n 0, 1) := by decide +kernel
theorem dX9_reset_1 : decode cX9_reset 1 = .ok (.iload_n 1, 1) := by decide +kernel
theorem dX9_reset_2 : decode cX9_reset 2 = .ok (.invokevirtual 171, 3) := by decide +kernel
theorem dX9_reset_5 : decode cX9_reset 5 = .ok (.ifCond .eq 24, 3) := by decide +kernel
theorem dX9_reset_8 : decode cX9_reset 8 = .ok (.aload_n 0, 1) := by decide +kernel
theorem dX9_reset_9 : decode cX9_reset 9 = .ok (.getfield 51, 3) := by decide +kernel
theorem dX9_reset_12 : decode cX9_reset 12 = .ok (.iload_n 1, 1) := by decide +kernel
theorem dX9_reset_13 : decode cX9_reset 13 = .ok (.iconst 1, 1) := by decide +kernel
theorem dX9_reset_14 : decode cX9_reset 14 = .ok (.isub, 1) := by decide +kernel
theorem dX9_reset_15 : decode cX9_reset 15 = .ok (.baload, 1) := by decide +kernel
theorem dX9_reset_16 : decode cX9_reset 16 = .ok (.ifCond .eq 13, 3) := by decide +kernel
theorem dX9_reset_19 : decode cX9_reset 19 = .ok (.aload_n 0, 1) := by decide +kernel
theorem dX9_reset_20 : decode cX9_reset 20 = .ok (.iload_n 1, 1) := by decide +kernel
theorem dX9_reset_21 : decode cX9_reset 21 = .ok (.iconst 1, 1) := by decide +kernel
theorem dX9_reset_22 : decode cX9_reset 22 = .ok (.isub, 1) := by decide +kernel
theorem dX9_reset_23 : decode cX9_reset 23 = .ok (.invokevirtual 163, 3) := by decide +kernel
theorem dX9_reset_26 : decode cX9_reset 26 = .ok (.ifCond .eq 5, 3) := by decide +kernel
theorem dX9_reset_29 : decode cX9_reset 29 = .ok (.iconst 0, 1) := by decide +kernel
theorem dX9_reset_30 : decode cX9_reset 30 = .ok (.ireturn, 1) := by decide +kernel
theorem dX9_reset_31 : decode cX9_reset 31 = .ok (.aload_n 0, 1) := by decide +kernel
theorem dX9_reset_32 : decode cX9_reset 32 = .ok (.getfield 51, 3) := by decide +kernel
theorem dX9_reset_35 : decode cX9_reset 35 = .ok (.iload_n 1, 1) := by decide +kernel
theorem dX9_reset_36 : decode cX9_reset 36 = .ok (.iconst 1, 1) := by decide +kernel
theorem dX9_reset_37 : decode cX9_reset 37 = .ok (.isub, 1) := by decide +kernel
theorem dX9_reset_38 : decode cX9_reset 38 = .ok (.iconst 0, 1) := by decide +kernel
theorem dX9_reset_39 : decode cX9_reset 39 = .ok (.bastore, 1) := by decide +kernel
theorem dX9_reset_40 : decode cX9_reset 40 = .ok (.iconst 1, 1) := by decide +kernel
theorem dX9_reset_41 : decode cX9_reset 41 = .ok (.ireturn, 1) := by decide +kernel
theorem dX9_bits_0 : decode cX9_bits 0 = .ok (.iload_n 0, 1) := by decide +kernel
theorem dX9_bits_1 : decode cX9_bits 1 = .ok (.tableswitch 63 0 5 #[39, 43, 47, 51, 55, 59], 39) := by decide +kernel
theorem dX9_bits_40 : decode cX9_bits 40 = .ok (.ldc2_w 174, 3) := by decide +kernel
theorem dX9_bits_43 : decode cX9_bits 43 = .ok (.lreturn, 1) := by decide +kernel
theorem dX9_bits_44 : decode cX9_bits 44 = .ok (.ldc2_w 176, 3) := by decide +kernel
theorem dX9_bits_47 : decode cX9_bits 47 = .ok (.lreturn, 1) := by decide +kernel
theorem dX9_bits_48 : decode cX9_bits 48 = .ok (.ldc2_w 178, 3) := by decide +kernel
theorem dX9_bits_51 : decode cX9_bits 51 = .ok (.lreturn, 1) := by decide +kernel
theorem dX9_bits_52 : decode cX9_bits 52 = .ok (.ldc2_w 180, 3) := by decide +kernel
theorem dX9_bits_55 : decode cX9_bits 55 = .ok (.lreturn, 1) := by decide +kernel
theorem dX9_bits_56 : decode cX9_bits 56 = .ok (.ldc2_w 182, 3) := by decide +kernel
theorem dX9_bits_59 : decode cX9_bits 59 = .ok (.lreturn, 1) := by decide +kernel
theorem dX9_bits_60 : decode cX9_bits 60 = .ok (.ldc2_w 184, 3) := by decide +kernel
theorem dX9_bits_63 : decode cX9_bits 63 = .ok (.lreturn, 1) := by decide +kernel
theorem dX9_bits_64 : decode cX9_bits 64 = .ok (.iload_n 1, 1) := by decide +kernel
theorem dX9_bits_65 : decode cX9_bits 65 = .ok (.iload_n 0, 1) := by decide +kernel
theorem dX9_bits_66 : decode cX9_bits 66 = .ok (.bipush 6, 2) := by decide +kernel
theorem dX9_bits_68 : decode cX9_bits 68 = .ok (.isub, 1) := by decide +kernel
theorem dX9_bits_69 : decode cX9_bits 69 = .ok (.ishr, 1) := by decide +kernel
theorem dX9_bits_70 : decode cX9_bits 70 = .ok (.iconst 1, 1) := by decide +kernel
theorem dX9_bits_71 : decode cX9_bits 71 = .ok (.iand, 1) := by decide +kernel
theorem dX9_bits_72 : decode cX9_bits 72 = .ok (.iconst 1, 1) := by decide +kernel
theorem dX9_bits_73 : decode cX9_bits 73 = .ok (.if_icmp .ne 9, 3) := by decide +kernel
theorem dX9_bits_76 : decode cX9_bits 76 = .ok (.ldc2_w 186, 3) := by decide +kernel
theorem dX9_bits_79 : decode cX9_bits 79 = .ok (.goto 4, 3) := by decide +kernel
theorem dX9_bits_82 : decode cX9_bits 82 = .ok (.lconst 0, 1) := by decide +kernel
theorem dX9_bits_83 : decode cX9_bits 83 = .ok (.lreturn, 1) := by decide +kernel
set_option maxRecDepth 20000 in
theorem ggX9_table_X9_table : GoodIn wsX9_table wsX9_table := goodIn_r _ [0, 1, 2, 3, 4, 5, 6, 7, 8, 9, 10, 11, 12, 13, 14, 15, 16, 17, 18, 19, 20, 21, 22, 23, 24, 25, 26, 27, 28, 29, 30, 31, 32, 33, 34, 35, 36, 37, 38, 39, 40, 41, 42, 43, 44, 45, 46, 47, 48, 49, 50] (by decide +kernel) (by decide +kernel)
set_option maxRecDepth 20000 in
theorem gX9_table_X9_table : GoodIn wsX9_table (wsV RX9 188 RX9 yX9_table wsX9_table) := goodIn_app (goodIn_of _ (by decide +kernel)) ggX9_table_X9_table
set_option maxRecDepth 20000 in
theorem ggX9_table_X9_bits : GoodIn wsX9_table wsX9_bits := goodIn_r _ [12, 13, 14, 15, 16, 17, 18, 4] (by decide +kernel) (by decide +kernel)
set_option maxRecDepth 20000 in
theorem gX9_table_X9_bits : GoodIn wsX9_table (va_wsS RX9 192 yX9_bits wsX9_bits) := goodIn_app (goodIn_of _ (by decide +kernel)) ggX9_table_X9_bits
theorem dX9_table_0 : decode cX9_table 0 = .ok (.aload_n 0, 1) := by decide +kernel
theorem dX9_table_1 : decode cX9_table 1 = .ok (.getfield 20, 3) := by decide +kernel
theorem dX9_table_4 : decode cX9_table 4 = .ok (.iload_n 1, 1) := by decide +kernel
theorem dX9_table_5 : decode cX9_table 5 = .ok (.iaload, 1) := by decide +kernel
theorem dX9_table_6 : decode cX9_table 6 = .ok (.istore_n 3, 1) := by decide +kernel
theorem dX9_table_7 : decode cX9_table 7 = .ok (.iload_n 3, 1) := by decide +kernel
theorem dX9_table_8 : decode cX9_table 8 = .ok (.bipush 16, 2) := by decide +kernel
theorem dX9_table_10 : decode cX9_table 10 = .ok (.if_icmp .ne 64, 3) := by decide +kernel
theorem dX9_table_13 : decode cX9_table 13 = .ok (.aload_n 0, 1) := by decide +kernel
theorem dX9_table_14 : decode cX9_table 14 = .ok (.aload_n 0, 1) := by decide +kernel
theorem dX9_table_15 : decode cX9_table 15 = .ok (.getfield 23, 3) := by decide +kernel
theorem dX9_table_18 : decode cX9_table 18 = .ok (.iload_n 1, 1) := by decide +kernel
theorem dX9_table_19 : decode cX9_table 19 = .ok (.iaload, 1) := by decide +kernel
theorem dX9_table_20 : decode cX9_table 20 = .ok (.iload_n 2, 1) := by decide +kernel
theorem dX9_table_21 : decode cX9_table 21 = .ok (.invokevirtual 188, 3) := by decide +kernel
theorem dX9_table_24 : decode cX9_table 24 = .ok (.iconst 0, 1) := by decide +kernel
theorem dX9_table_25 : decode cX9_table 25 = .ok (.istore 4, 2) := by decide +kernel
theorem dX9_table_27 : decode cX9_table 27 = .ok (.iload 4, 2) := by decide +kernel
theorem dX9_table_29 : decode cX9_table 29 = .ok (.sipush 1024, 3) := by decide +kernel
theorem dX9_table_32 : decode cX9_table 32 = .ok (.if_icmp .ge 39, 3) := by decide +kernel
theorem dX9_table_35 : decode cX9_table 35 = .ok (.aload_n 0, 1) := by decide +kernel
theorem dX9_table_36 : decode cX9_table 36 = .ok (.getfield 63, 3) := by decide +kernel
theorem dX9_table_39 : decode cX9_table 39 = .ok (.sipush 1024, 3) := by decide +kernel
theorem dX9_table_42 : decode cX9_table 42 = .ok (.iload_n 2, 1) := by decide +kernel
theorem dX9_table_43 : decode cX9_table 43 = .ok (.imul, 1) := by decide +kernel
theorem dX9_table_44 : decode cX9_table 44 = .ok (.iload 4, 2) := by decide +kernel
theorem dX9_table_46 : decode cX9_table 46 = .ok (.iadd, 1) := by decide +kernel
theorem dX9_table_47 : decode cX9_table 47 = .ok (.aload_n 0, 1) := by decide +kernel
theorem dX9_table_48 : decode cX9_table 48 = .ok (.getfield 63, 3) := by decide +kernel
theorem dX9_table_51 : decode cX9_table 51 = .ok (.sipush 1024, 3) := by decide +kernel
theorem dX9_table_54 : decode cX9_table 54 = .ok (.iload_n 2, 1) := by decide +kernel
theorem dX9_table_55 : decode cX9_table 55 = .ok (.imul, 1) := by decide +kernel
theorem dX9_table_56 : decode cX9_table 56 = .ok (.iload 4, 2) := by decide +kernel
theorem dX9_table_58 : decode cX9_table 58 = .ok (.iadd, 1) := by decide +kernel
theorem dX9_table_59 : decode cX9_table 59 = .ok (.laload, 1) := by decide +kernel
theorem dX9_table_60 : decode cX9_table 60 = .ok (.ldc2_w 186, 3) := by decide +kernel
theorem dX9_table_63 : decode cX9_table 63 = .ok (.lxor, 1) := by decide +kernel
theorem dX9_table_64 : decode cX9_table 64 = .ok (.lastore, 1) := by decide +kernel
theorem dX9_table_65 : decode cX9_table 65 = .ok (.iinc 4 1, 3) := by decide +kernel
theorem dX9_table_68 : decode cX9_table 68 = .ok (.goto (-41), 3) := by decide +kernel
theorem dX9_table_71 : decode cX9_table 71 = .ok (.goto 153, 3) := by decide +kernel
theorem dX9_table_74 : decode cX9_table 74 = .ok (.iload_n 3, 1) := by decide +kernel
theorem dX9_table_75 : decode cX9_table 75 = .ok (.bipush 16, 2) := by decide +kernel
theorem dX9_table_77 : decode cX9_table 77 = .ok (.if_icmp .ge 42, 3) := by decide +kernel
theorem dX9_table_80 : decode cX9_table 80 = .ok (.iconst 0, 1) := by decide +kernel
theorem dX9_table_81 : decode cX9_table 81 = .ok (.istore 4, 2) := by decide +kernel
theorem dX9_table_83 : decode cX9_table 83 = .ok (.iload 4, 2) := by decide +kernel
theorem dX9_table_85 : decode cX9_table 85 = .ok (.sipush 1024, 3) := by decide +kernel
theorem dX9_table_88 : decode cX9_table 88 = .ok (.if_icmp .ge 28, 3) := by decide +kernel
theorem dX9_table_91 : decode cX9_table 91 = .ok (.aload_n 0, 1) := by decide +kernel
theorem dX9_table_92 : decode cX9_table 92 = .ok (.getfield 63, 3) := by decide +kernel
theorem dX9_table_95 : decode cX9_table 95 = .ok (.sipush 1024, 3) := by decide +kernel
theorem dX9_table_98 : decode cX9_table 98 = .ok (.iload_n 2, 1) := by decide +kernel
theorem dX9_table_99 : decode cX9_table 99 = .ok (.imul, 1) := by decide +kernel
theorem dX9_table_100 : decode cX9_table 100 = .ok (.iload 4, 2) := by decide +kernel
theorem dX9_table_102 : decode cX9_table 102 = .ok (.iadd, 1) := by decide +kernel
theorem dX9_table_103 : decode cX9_table 103 = .ok (.iload_n 3, 1) := by decide +kernel
theorem dX9_table_104 : decode cX9_table 104 = .ok (.iload 4, 2) := by decide +kernel
theorem dX9_table_106 : decode cX9_table 106 = .ok (.invokestatic 192, 3) := by decide +kernel
theorem dX9_table_109 : decode cX9_table 109 = .ok (.lastore, 1) := by decide +kernel
theorem dX9_table_110 : decode cX9_table 110 = .ok (.iinc 4 1, 3) := by decide +kernel
theorem dX9_table_113 : decode cX9_table 113 = .ok (.goto (-30), 3) := by decide +kernel
theorem dX9_table_116 : decode cX9_table 116 = .ok (.goto 108, 3) := by decide +kernel
theorem dX9_table_119 : decode cX9_table 119 = .ok (.aload_n 0, 1) := by decide +kernel
theorem dX9_table_120 : decode cX9_table 120 = .ok (.aload_n 0, 1) := by decide +kernel
theorem dX9_table_121 : decode cX9_table 121 = .ok (.getfield 23, 3) := by decide +kernel
theorem dX9_table_124 : decode cX9_table 124 = .ok (.iload_n 1, 1) := by decide +kernel
theorem dX9_table_125 : decode cX9_table 125 = .ok (.iaload, 1) := by decide +kernel
theorem dX9_table_126 : decode cX9_table 126 = .ok (.iload_n 2, 1) := by decide +kernel
theorem dX9_table_127 : decode cX9_table 127 = .ok (.invokevirtual 188, 3) := by decide +kernel
theorem dX9_table_130 : decode cX9_table 130 = .ok (.aload_n 0, 1) := by decide +kernel
theorem dX9_table_131 : decode cX9_table 131 = .ok (.aload_n 0, 1) := by decide +kernel
theorem dX9_table_132 : decode cX9_table 132 = .ok (.getfield 26, 3) := by decide +kernel
theorem dX9_table_135 : decode cX9_table 135 = .ok (.iload_n 1, 1) := by decide +kernel
theorem dX9_table_136 : decode cX9_table 136 = .ok (.iaload, 1) := by decide +kernel
theorem dX9_table_137 : decode cX9_table 137 = .ok (.iload_n 2, 1) := by decide +kernel
theorem dX9_table_138 : decode cX9_table 138 = .ok (.iconst 1, 1) := by decide +kernel
theorem dX9_table_139 : decode cX9_table 139 = .ok (.iadd, 1) := by decide +kernel
theorem dX9_table_140 : decode cX9_table 140 = .ok (.invokevirtual 188, 3) := by decide +kernel
theorem dX9_table_143 : decode cX9_table 143 = .ok (.iconst 0, 1) := by decide +kernel
theorem dX9_table_144 : decode cX9_table 144 = .ok (.istore 4, 2) := by decide +kernel
theorem dX9_table_146 : decode cX9_table 146 = .ok (.iload 4, 2) := by decide +kernel
theorem dX9_table_148 : decode cX9_table 148 = .ok (.sipush 1024, 3) := by decide +kernel
theorem dX9_table_151 : decode cX9_table 151 = .ok (.if_icmp .ge 73, 3) := by decide +kernel
theorem dX9_table_154 : decode cX9_table 154 = .ok (.aload_n 0, 1) := by decide +kernel
theorem dX9_table_155 : decode cX9_table 155 = .ok (.getfield 63, 3) := by decide +kernel
theorem dX9_table_158 : decode cX9_table 158 = .ok (.sipush 1024, 3) := by decide +kernel
theorem dX9_table_161 : decode cX9_table 161 = .ok (.iload_n 2, 1) := by decide +kernel
theorem dX9_table_162 : decode cX9_table 162 = .ok (.imul, 1) := by decide +kernel
theorem dX9_table_163 : decode cX9_table 163 = .ok (.iload 4, 2) := by decide +kernel
theorem dX9_table_165 : decode cX9_table 165 = .ok (.iadd, 1) := by decide +kernel
theorem dX9_table_166 : decode cX9_table 166 = .ok (.laload, 1) := by decide +kernel
theorem dX9_table_167 : decode cX9_table 167 = .ok (.lstore 5, 2) := by decide +kernel
theorem dX9_table_169 : decode cX9_table 169 = .ok (.aload_n 0, 1) := by decide +kernel
theorem dX9_table_170 : decode cX9_table 170 = .ok (.getfield 63, 3) := by decide +kernel
theorem dX9_table_173 : decode cX9_table 173 = .ok (.sipush 1024, 3) := by decide +kernel
theorem dX9_table_176 : decode cX9_table 176 = .ok (.iload_n 2, 1) := by decide +kernel
theorem dX9_table_177 : decode cX9_table 177 = .ok (.iconst 1, 1) := by decide +kernel
theorem dX9_table_178 : decode cX9_table 178 = .ok (.iadd, 1) := by decide +kernel
theorem dX9_table_179 : decode cX9_table 179 = .ok (.imul, 1) := by decide +kernel
theorem dX9_table_180 : decode cX9_table 180 = .ok (.iload 4, 2) := by decide +kernel
theorem dX9_table_182 : decode cX9_table 182 = .ok (.iadd, 1) := by decide +kernel
theorem dX9_table_183 : decode cX9_table 183 = .ok (.laload, 1) := by decide +kernel
theorem dX9_table_184 : decode cX9_table 184 = .ok (.lstore 7, 2) := by decide +kernel
theorem dX9_table_186 : decode cX9_table 186 = .ok (.aload_n 0, 1) := by decide +kernel
theorem dX9_table_187 : decode cX9_table 187 = .ok (.getfield 63, 3) := by decide +kernel
theorem dX9_table_190 : decode cX9_table 190 = .ok (.sipush 1024, 3) := by decide +kernel
theorem dX9_table_193 : decode cX9_table 193 = .ok (.iload_n 2, 1) := by decide +kernel
theorem dX9_table_194 : decode cX9_table 194 = .ok (.imul, 1) := by decide +kernel
theorem dX9_table_195 : decode cX9_table 195 = .ok (.iload 4, 2) := by decide +kernel
theorem dX9_table_197 : decode cX9_table 197 = .ok (.iadd, 1) := by decide +kernel
theorem dX9_table_198 : decode cX9_table 198 = .ok (.iload_n 3, 1) := by decide +kernel
theorem dX9_table_199 : decode cX9_table 199 = .ok (.bipush 17, 2) := by decide +kernel
theorem dX9_table_201 : decode cX9_table 201 = .ok (.if_icmp .ne 11, 3) := by decide +kernel
theorem dX9_table_204 : decode cX9_table 204 = .ok (.lload 5, 2) := by decide +kernel
theorem dX9_table_206 : decode cX9_table 206 = .ok (.lload 7, 2) := by decide +kernel
theorem dX9_table_208 : decode cX9_table 208 = .ok (.land, 1) := by decide +kernel
theorem dX9_table_209 : decode cX9_table 209 = .ok (.goto 8, 3) := by decide +kernel
theorem dX9_table_212 : decode cX9_table 212 = .ok (.lload 5, 2) := by decide +kernel
theorem dX9_table_214 : decode cX9_table 214 = .ok (.lload 7, 2) := by decide +kernel
theorem dX9_table_216 : decode cX9_table 216 = .ok (.lor, 1) := by decide +kernel
theorem dX9_table_217 : decode cX9_table 217 = .ok (.lastore, 1) := by decide +kernel
theorem dX9_table_218 : decode cX9_table 218 = .ok (.iinc 4 1, 3) := by decide +kernel
theorem dX9_table_221 : decode cX9_table 221 = .ok (.goto (-75), 3) := by decide +kernel
theorem dX9_table_224 : decode cX9_table 224 = .ok (.return_, 1) := by decide +kernel
set_option maxRecDepth 20000 in
theorem ggX9_testAll_X9_table : GoodIn wsX9_testAll wsX9_table := goodIn_r _ [20, 21, 22, 4, 13, 23, 16, 17, 18, 19, 24, 25, 26, 27, 28, 29, 30, 31, 32, 37, 38, 39, 40, 41, 42, 43, 44, 45, 46, 47, 48, 49, 50, 51, 52, 53, 54, 55, 56, 57, 58, 59, 60, 61, 62, 63, 64, 65, 66, 67, 68] (by decide +kernel) (by decide +kernel)
set_option maxRecDepth 20000 in
theorem gX9_testAll_X9_table : GoodIn wsX9_testAll (wsV RX9 188 RX9 yX9_table wsX9_table) := goodIn_app (goodIn_of _ (by decide +kernel)) ggX9_testAll_X9_table
set_option maxRecDepth 20000 in
theorem ggX9_testAll_X9_hasAct : GoodIn wsX9_testAll wsX9_hasAct := goodIn_r _ [36, 3, 10, 11, 37, 38, 39, 40, 41, 42, 43, 44, 45, 46, 47, 48, 49, 50, 51, 52, 53, 54, 55, 56, 57, 58, 59, 60, 61, 62, 63, 64, 65, 66, 67, 68] (by decide +kernel) (by decide +kernel)
set_option maxRecDepth 20000 in
theorem gX9_testAll_X9_hasAct : GoodIn wsX9_testAll (wsV RX9 167 RX9 yX9_hasAct wsX9_hasAct) := goodIn_app (goodIn_of _ (by decide +kernel)) ggX9_testAll_X9_hasAct
theorem dX9_testAll_0 : decode cX9_testAll 0 = .ok (.iconst 0, 1) := by decide +kernel
theorem dX9_testAll_1 : decode cX9_testAll 1 = .ok (.istore_n 1, 1) := by decide +kernel
theorem dX9_testAll_2 : decode cX9_testAll 2 = .ok (.iload_n 1, 1) := by decide +kernel
theorem dX9_testAll_3 : decode cX9_testAll 3 = .ok (.aload_n 0, 1) := by decide +kernel
theorem dX9_testAll_4 : decode cX9_testAll 4 = .ok (.getfield 149, 3) := by decide +kernel
theorem dX9_testAll_7 : decode cX9_testAll 7 = .ok (.if_icmp .ge 265, 3) := by decide +kernel
theorem dX9_testAll_10 : decode cX9_testAll 10 = .ok (.aload_n 0, 1) := by decide +kernel
theorem dX9_testAll_11 : decode cX9_testAll 11 = .ok (.aload_n 0, 1) := by decide +kernel
theorem dX9_testAll_12 : decode cX9_testAll 12 = .ok (.getfield 29, 3) := by decide +kernel
theorem dX9_testAll_15 : decode cX9_testAll 15 = .ok (.bipush 40, 2) := by decide +kernel
theorem dX9_testAll_17 : decode cX9_testAll 17 = .ok (.aload_n 0, 1) := by decide +kernel
theorem dX9_testAll_18 : decode cX9_testAll 18 = .ok (.getfield 101, 3) := by decide +kernel
theorem dX9_testAll_21 : decode cX9_testAll 21 = .ok (.imul, 1) := by decide +kernel
theorem dX9_testAll_22 : decode cX9_testAll 22 = .ok (.iload_n 1, 1) := by decide +kernel
theorem dX9_testAll_23 : decode cX9_testAll 23 = .ok (.iadd, 1) := by decide +kernel
theorem dX9_testAll_24 : decode cX9_testAll 24 = .ok (.iaload, 1) := by decide +kernel
theorem dX9_testAll_25 : decode cX9_testAll 25 = .ok (.iconst 0, 1) := by decide +kernel
theorem dX9_testAll_26 : decode cX9_testAll 26 = .ok (.invokevirtual 188, 3) := by decide +kernel
theorem dX9_testAll_29 : decode cX9_testAll 29 = .ok (.aload_n 0, 1) := by decide +kernel
theorem dX9_testAll_30 : decode cX9_testAll 30 = .ok (.getfield 63, 3) := by decide +kernel
theorem dX9_testAll_33 : decode cX9_testAll 33 = .ok (.iconst 0, 1) := by decide +kernel
theorem dX9_testAll_34 : decode cX9_testAll 34 = .ok (.aload_n 0, 1) := by decide +kernel
theorem dX9_testAll_35 : decode cX9_testAll 35 = .ok (.getfield 58, 3) := by decide +kernel
theorem dX9_testAll_38 : decode cX9_testAll 38 = .ok (.sipush 1024, 3) := by decide +kernel
theorem dX9_testAll_41 : decode cX9_testAll 41 = .ok (.iload_n 1, 1) := by decide +kernel
theorem dX9_testAll_42 : decode cX9_testAll 42 = .ok (.imul, 1) := by decide +kernel
theorem dX9_testAll_43 : decode cX9_testAll 43 = .ok (.sipush 1024, 3) := by decide +kernel
theorem dX9_testAll_46 : decode cX9_testAll 46 = .ok (.invokestatic 196, 3) := by decide +kernel
theorem dX9_testAll_49 : decode cX9_testAll 49 = .ok (.iconst 0, 1) := by decide +kernel
theorem dX9_testAll_50 : decode cX9_testAll 50 = .ok (.istore_n 2, 1) := by decide +kernel
theorem dX9_testAll_51 : decode cX9_testAll 51 = .ok (.iconst 0, 1) := by decide +kernel
theorem dX9_testAll_52 : decode cX9_testAll 52 = .ok (.istore_n 3, 1) := by decide +kernel
theorem dX9_testAll_53 : decode cX9_testAll 53 = .ok (.iload_n 3, 1) := by decide +kernel
theorem dX9_testAll_54 : decode cX9_testAll 54 = .ok (.aload_n 0, 1) := by decide +kernel
theorem dX9_testAll_55 : decode cX9_testAll 55 = .ok (.getfield 32, 3) := by decide +kernel
theorem dX9_testAll_58 : decode cX9_testAll 58 = .ok (.bipush 40, 2) := by decide +kernel
theorem dX9_testAll_60 : decode cX9_testAll 60 = .ok (.aload_n 0, 1) := by decide +kernel
theorem dX9_testAll_61 : decode cX9_testAll 61 = .ok (.getfield 101, 3) := by decide +kernel
theorem dX9_testAll_64 : decode cX9_testAll 64 = .ok (.imul, 1) := by decide +kernel
theorem dX9_testAll_65 : decode cX9_testAll 65 = .ok (.iload_n 1, 1) := by decide +kernel
theorem dX9_testAll_66 : decode cX9_testAll 66 = .ok (.iadd, 1) := by decide +kernel
theorem dX9_testAll_67 : decode cX9_testAll 67 = .ok (.iaload, 1) := by decide +kernel
theorem dX9_testAll_68 : decode cX9_testAll 68 = .ok (.if_icmp .ge 183, 3) := by decide +kernel
theorem dX9_testAll_71 : decode cX9_testAll 71 = .ok (.iload_n 2, 1) := by decide +kernel
theorem dX9_testAll_72 : decode cX9_testAll 72 = .ok (.ifCond .ne 179, 3) := by decide +kernel
theorem dX9_testAll_75 : decode cX9_testAll 75 = .ok (.aload_n 0, 1) := by decide +kernel
theorem dX9_testAll_76 : decode cX9_testAll 76 = .ok (.getfield 35, 3) := by decide +kernel
theorem dX9_testAll_79 : decode cX9_testAll 79 = .ok (.bipush 8, 2) := by decide +kernel
theorem dX9_testAll_81 : decode cX9_testAll 81 = .ok (.bipush 40, 2) := by decide +kernel
theorem dX9_testAll_83 : decode cX9_testAll 83 = .ok (.aload_n 0, 1) := by decide +kernel
theorem dX9_testAll_84 : decode cX9_testAll 84 = .ok (.getfield 101, 3) := by decide +kernel
theorem dX9_testAll_87 : decode cX9_testAll 87 = .ok (.imul, 1) := by decide +kernel
theorem dX9_testAll_88 : decode cX9_testAll 88 = .ok (.iload_n 1, 1) := by decide +kernel
theorem dX9_testAll_89 : decode cX9_testAll 89 = .ok (.iadd, 1) := by decide +kernel
theorem dX9_testAll_90 : decode cX9_testAll 90 = .ok (.imul, 1) := by decide +kernel
theorem dX9_testAll_91 : decode cX9_testAll 91 = .ok (.iload_n 3, 1) := by decide +kernel
theorem dX9_testAll_92 : decode cX9_testAll 92 = .ok (.iadd, 1) := by decide +kernel
theorem dX9_testAll_93 : decode cX9_testAll 93 = .ok (.iaload, 1) := by decide +kernel
theorem dX9_testAll_94 : decode cX9_testAll 94 = .ok (.istore 4, 2) := by decide +kernel
theorem dX9_testAll_96 : decode cX9_testAll 96 = .ok (.iconst 0, 1) := by decide +kernel
theorem dX9_testAll_97 : decode cX9_testAll 97 = .ok (.istore 5, 2) := by decide +kernel
theorem dX9_testAll_99 : decode cX9_testAll 99 = .ok (.iload 5, 2) := by decide +kernel
theorem dX9_testAll_101 : decode cX9_testAll 101 = .ok (.sipush 1024, 3) := by decide +kernel
theorem dX9_testAll_104 : decode cX9_testAll 104 = .ok (.if_icmp .ge 17, 3) := by decide +kernel
theorem dX9_testAll_107 : decode cX9_testAll 107 = .ok (.aload_n 0, 1) := by decide +kernel
theorem dX9_testAll_108 : decode cX9_testAll 108 = .ok (.getfield 66, 3) := by decide +kernel
theorem dX9_testAll_111 : decode cX9_testAll 111 = .ok (.iload 5, 2) := by decide +kernel
theorem dX9_testAll_113 : decode cX9_testAll 113 = .ok (.lconst 0, 1) := by decide +kernel
theorem dX9_testAll_114 : decode cX9_testAll 114 = .ok (.lastore, 1) := by decide +kernel
theorem dX9_testAll_115 : decode cX9_testAll 115 = .ok (.iinc 5 1, 3) := by decide +kernel
theorem dX9_testAll_118 : decode cX9_testAll 118 = .ok (.goto (-19), 3) := by decide +kernel
theorem dX9_testAll_121 : decode cX9_testAll 121 = .ok (.iconst 0, 1) := by decide +kernel
theorem dX9_testAll_122 : decode cX9_testAll 122 = .ok (.istore 5, 2) := by decide +kernel
theorem dX9_testAll_124 : decode cX9_testAll 124 = .ok (.iload 5, 2) := by decide +kernel
theorem dX9_testAll_126 : decode cX9_testAll 126 = .ok (.iload_n 1, 1) := by decide +kernel
theorem dX9_testAll_127 : decode cX9_testAll 127 = .ok (.if_icmp .ge 61, 3) := by decide +kernel
theorem dX9_testAll_130 : decode cX9_testAll 130 = .ok (.iconst 0, 1) := by decide +kernel
theorem dX9_testAll_131 : decode cX9_testAll 131 = .ok (.istore 6, 2) := by decide +kernel
theorem dX9_testAll_133 : decode cX9_testAll 133 = .ok (.iload 6, 2) := by decide +kernel
theorem dX9_testAll_135 : decode cX9_testAll 135 = .ok (.sipush 1024, 3) := by decide +kernel
theorem dX9_testAll_138 : decode cX9_testAll 138 = .ok (.if_icmp .ge 44, 3) := by decide +kernel
theorem dX9_testAll_141 : decode cX9_testAll 141 = .ok (.aload_n 0, 1) := by decide +kernel
theorem dX9_testAll_142 : decode cX9_testAll 142 = .ok (.iload 5, 2) := by decide +kernel
theorem dX9_testAll_144 : decode cX9_testAll 144 = .ok (.iload 4, 2) := by decide +kernel
theorem dX9_testAll_146 : decode cX9_testAll 146 = .ok (.invokevirtual 167, 3) := by decide +kernel
theorem dX9_testAll_149 : decode cX9_testAll 149 = .ok (.ifCond .eq 33, 3) := by decide +kernel
theorem dX9_testAll_152 : decode cX9_testAll 152 = .ok (.aload_n 0, 1) := by decide +kernel
theorem dX9_testAll_153 : decode cX9_testAll 153 = .ok (.getfield 66, 3) := by decide +kernel
theorem dX9_testAll_156 : decode cX9_testAll 156 = .ok (.iload 6, 2) := by decide +kernel
theorem dX9_testAll_158 : decode cX9_testAll 158 = .ok (.dup2, 1) := by decide +kernel
theorem dX9_testAll_159 : decode cX9_testAll 159 = .ok (.laload, 1) := by decide +kernel
theorem dX9_testAll_160 : decode cX9_testAll 160 = .ok (.aload_n 0, 1) := by decide +kernel
theorem dX9_testAll_161 : decode cX9_testAll 161 = .ok (.getfield 58, 3) := by decide +kernel
theorem dX9_testAll_164 : decode cX9_testAll 164 = .ok (.sipush 1024, 3) := by decide +kernel
theorem dX9_testAll_167 : decode cX9_testAll 167 = .ok (.iload 5, 2) := by decide +kernel
theorem dX9_testAll_169 : decode cX9_testAll 169 = .ok (.imul, 1) := by decide +kernel
theorem dX9_testAll_170 : decode cX9_testAll 170 = .ok (.iload 6, 2) := by decide +kernel
theorem dX9_testAll_172 : decode cX9_testAll 172 = .ok (.iadd, 1) := by decide +kernel
theorem dX9_testAll_173 : decode cX9_testAll 173 = .ok (.laload, 1) := by decide +kernel
theorem dX9_testAll_174 : decode cX9_testAll 174 = .ok (.lor, 1) := by decide +kernel
theorem dX9_testAll_175 : decode cX9_testAll 175 = .ok (.lastore, 1) := by decide +kernel
theorem dX9_testAll_176 : decode cX9_testAll 176 = .ok (.iinc 6 1, 3) := by decide +kernel
theorem dX9_testAll_179 : decode cX9_testAll 179 = .ok (.goto (-46), 3) := by decide +kernel
theorem dX9_testAll_182 : decode cX9_testAll 182 = .ok (.iinc 5 1, 3) := by decide +kernel
theorem dX9_testAll_185 : decode cX9_testAll 185 = .ok (.goto (-61), 3) := by decide +kernel
theorem dX9_testAll_188 : decode cX9_testAll 188 = .ok (.iconst 0, 1) := by decide +kernel
theorem dX9_testAll_189 : decode cX9_testAll 189 = .ok (.istore 5, 2) := by decide +kernel
theorem dX9_testAll_191 : decode cX9_testAll 191 = .ok (.iload 5, 2) := by decide +kernel
theorem dX9_testAll_193 : decode cX9_testAll 193 = .ok (.sipush 1024, 3) := by decide +kernel
theorem dX9_testAll_196 : decode cX9_testAll 196 = .ok (.if_icmp .ge 49, 3) := by decide +kernel
theorem dX9_testAll_199 : decode cX9_testAll 199 = .ok (.iload_n 2, 1) := by decide +kernel
theorem dX9_testAll_200 : decode cX9_testAll 200 = .ok (.ifCond .ne 45, 3) := by decide +kernel
theorem dX9_testAll_203 : decode cX9_testAll 203 = .ok (.aload_n 0, 1) := by decide +kernel
theorem dX9_testAll_204 : decode cX9_testAll 204 = .ok (.getfield 58, 3) := by decide +kernel
theorem dX9_testAll_207 : decode cX9_testAll 207 = .ok (.sipush 1024, 3) := by decide +kernel
theorem dX9_testAll_210 : decode cX9_testAll 210 = .ok (.iload_n 1, 1) := by decide +kernel
theorem dX9_testAll_211 : decode cX9_testAll 211 = .ok (.imul, 1) := by decide +kernel
theorem dX9_testAll_212 : decode cX9_testAll 212 = .ok (.iload 5, 2) := by decide +kernel
theorem dX9_testAll_214 : decode cX9_testAll 214 = .ok (.iadd, 1) := by decide +kernel
theorem dX9_testAll_215 : decode cX9_testAll 215 = .ok (.laload, 1) := by decide +kernel
theorem dX9_testAll_216 : decode cX9_testAll 216 = .ok (.aload_n 0, 1) := by decide +kernel
theorem dX9_testAll_217 : decode cX9_testAll 217 = .ok (.getfield 66, 3) := by decide +kernel
theorem dX9_testAll_220 : decode cX9_testAll 220 = .ok (.iload 5, 2) := by decide +kernel
theorem dX9_testAll_222 : decode cX9_testAll 222 = .ok (.laload, 1) := by decide +kernel
theorem dX9_testAll_223 : decode cX9_testAll 223 = .ok (.ldc2_w 186, 3) := by decide +kernel
theorem dX9_testAll_226 : decode cX9_testAll 226 = .ok (.lxor, 1) := by decide +kernel
theorem dX9_testAll_227 : decode cX9_testAll 227 = .ok (.land, 1) := by decide +kernel
theorem dX9_testAll_228 : decode cX9_testAll 228 = .ok (.lconst 0, 1) := by decide +kernel
theorem dX9_testAll_229 : decode cX9_testAll 229 = .ok (.lcmp, 1) := by decide +kernel
theorem dX9_testAll_230 : decode cX9_testAll 230 = .ok (.ifCond .eq 7, 3) := by decide +kernel
theorem dX9_testAll_233 : decode cX9_testAll 233 = .ok (.iconst 1, 1) := by decide +kernel
theorem dX9_testAll_234 : decode cX9_testAll 234 = .ok (.goto 4, 3) := by decide +kernel
theorem dX9_testAll_237 : decode cX9_testAll 237 = .ok (.iconst 0, 1) := by decide +kernel
theorem dX9_testAll_238 : decode cX9_testAll 238 = .ok (.istore_n 2, 1) := by decide +kernel
theorem dX9_testAll_239 : decode cX9_testAll 239 = .ok (.iinc 5 1, 3) := by decide +kernel
theorem dX9_testAll_242 : decode cX9_testAll 242 = .ok (.goto (-51), 3) := by decide +kernel
theorem dX9_testAll_245 : decode cX9_testAll 245 = .ok (.iinc 3 1, 3) := by decide +kernel
theorem dX9_testAll_248 : decode cX9_testAll 248 = .ok (.goto (-195), 3) := by decide +kernel
theorem dX9_testAll_251 : decode cX9_testAll 251 = .ok (.aload_n 0, 1) := by decide +kernel
theorem dX9_testAll_252 : decode cX9_testAll 252 = .ok (.getfield 69, 3) := by decide +kernel
theorem dX9_testAll_255 : decode cX9_testAll 255 = .ok (.iload_n 1, 1) := by decide +kernel
theorem dX9_testAll_256 : decode cX9_testAll 256 = .ok (.iload_n 2, 1) := by decide +kernel
theorem dX9_testAll_257 : decode cX9_testAll 257 = .ok (.ifCond .ne 7, 3) := by decide +kernel
theorem dX9_testAll_260 : decode cX9_testAll 260 = .ok (.iconst 1, 1) := by decide +kernel
theorem dX9_testAll_261 : decode cX9_testAll 261 = .ok (.goto 4, 3) := by decide +kernel
theorem dX9_testAll_264 : decode cX9_testAll 264 = .ok (.iconst 0, 1) := by decide +kernel
theorem dX9_testAll_265 : decode cX9_testAll 265 = .ok (.bastore, 1) := by decide +kernel
theorem dX9_testAll_266 : decode cX9_testAll 266 = .ok (.iinc 1 1, 3) := by decide +kernel
theorem dX9_testAll_269 : decode cX9_testAll 269 = .ok (.goto (-267), 3) := by decide +kernel
theorem dX9_testAll_272 : decode cX9_testAll 272 = .ok (.aload_n 0, 1) := by decide +kernel
theorem dX9_testAll_273 : decode cX9_testAll 273 = .ok (.iconst 1, 1) := by decide +kernel
theorem dX9_testAll_274 : decode cX9_testAll 274 = .ok (.putfield 152, 3) := by decide +kernel
theorem dX9_testAll_277 : decode cX9_testAll 277 = .ok (.return_, 1) := by decide +kernel
set_option maxRecDepth 20000 in
theorem ggX9_test_X9_testAll : GoodIn wsX9_test wsX9_testAll := goodIn_r _ [8, 2, 9, 10, 11, 12, 13, 14, 15, 16, 17, 18, 19, 20, 3, 1, 21, 22, 23, 7, 24, 25, 26, 27, 28, 29, 30, 31, 32, 33, 34, 35, 36, 37, 38, 39, 40, 41, 42, 43, 44, 45, 46, 47, 48, 49, 50, 51, 52, 53, 54, 55, 56, 57, 58, 59, 60, 61, 62, 63, 64, 65, 66, 67, 68, 69, 70, 71, 72] (by decide +kernel) (by decide +kernel)
set_option maxRecDepth 20000 in
theorem gX9_test_X9_testAll : GoodIn wsX9_test (wsV RX9 202 RX9 yX9_testAll wsX9_testAll) := goodIn_app (goodIn_of _ (by decide +kernel)) ggX9_test_X9_testAll
theorem dX9_test_0 : decode cX9_test 0 = .ok (.aload_n 0, 1) := by decide +kernel
theorem dX9_test_1 : decode cX9_test 1 = .ok (.getfield 152, 3) := by decide +kernel
theorem dX9_test_4 : decode cX9_test 4 = .ok (.ifCond .ne 7, 3) := by decide +kernel
theorem dX9_test_7 : decode cX9_test 7 = .ok (.aload_n 0, 1) := by decide +kernel
theorem dX9_test_8 : decode cX9_test 8 = .ok (.invokevirtual 202, 3) := by decide +kernel
theorem dX9_test_11 : decode cX9_test 11 = .ok (.iload_n 1, 1) := by decide +kernel
theorem dX9_test_12 : decode cX9_test 12 = .ok (.istore_n 2, 1) := by decide +kernel
theorem dX9_test_13 : decode cX9_test 13 = .ok (.iconst 0, 1) := by decide +kernel
theorem dX9_test_14 : decode cX9_test 14 = .ok (.istore_n 3, 1) := by decide +kernel
theorem dX9_test_15 : decode cX9_test 15 = .ok (.iload_n 3, 1) := by decide +kernel
theorem dX9_test_16 : decode cX9_test 16 = .ok (.aload_n 0, 1) := by decide +kernel
theorem dX9_test_17 : decode cX9_test 17 = .ok (.getfield 149, 3) := by decide +kernel
theorem dX9_test_20 : decode cX9_test 20 = .ok (.if_icmp .ge 33, 3) := by decide +kernel
theorem dX9_test_23 : decode cX9_test 23 = .ok (.iload_n 2, 1) := by decide +kernel
theorem dX9_test_24 : decode cX9_test 24 = .ok (.ifCond .lt 29, 3) := by decide +kernel
theorem dX9_test_27 : decode cX9_test 27 = .ok (.aload_n 0, 1) := by decide +kernel
theorem dX9_test_28 : decode cX9_test 28 = .ok (.getfield 69, 3) := by decide +kernel
theorem dX9_test_31 : decode cX9_test 31 = .ok (.iload_n 3, 1) := by decide +kernel
theorem dX9_test_32 : decode cX9_test 32 = .ok (.baload, 1) := by decide +kernel
theorem dX9_test_33 : decode cX9_test 33 = .ok (.ifCond .eq 14, 3) := by decide +kernel
theorem dX9_test_36 : decode cX9_test 36 = .ok (.iload_n 2, 1) := by decide +kernel
theorem dX9_test_37 : decode cX9_test 37 = .ok (.ifCond .ne 7, 3) := by decide +kernel
theorem dX9_test_40 : decode cX9_test 40 = .ok (.iload_n 3, 1) := by decide +kernel
theorem dX9_test_41 : decode cX9_test 41 = .ok (.iconst 1, 1) := by decide +kernel
theorem dX9_test_42 : decode cX9_test 42 = .ok (.iadd, 1) := by decide +kernel
theorem dX9_test_43 : decode cX9_test 43 = .ok (.ireturn, 1) := by decide +kernel
theorem dX9_test_44 : decode cX9_test 44 = .ok (.iinc 2 (-1), 3) := by decide +kernel
theorem dX9_test_47 : decode cX9_test 47 = .ok (.iinc 3 1, 3) := by decide +kernel
theorem dX9_test_50 : decode cX9_test 50 = .ok (.goto (-35), 3) := by decide +kernel
theorem dX9_test_53 : decode cX9_test 53 = .ok (.iconst (-1), 1) := by decide +kernel
theorem dX9_test_54 : decode cX9_test 54 = .ok (.ireturn, 1) := by decide +kernel
set_option maxRecDepth 20000 in
theorem ggX9_row_X9_isRow : GoodIn wsX9_row wsX9_isRow := goodIn_r _ [13, 14, 28, 29, 30, 31, 32, 33, 34, 35, 36, 37, 38, 39, 40, 41, 42, 43, 44, 45, 46, 47, 48, 49, 50, 51, 52, 53, 54, 55, 56, 57, 58, 59] (by decide +kernel) (by decide +kernel)
set_option maxRecDepth 20000 in
theorem gX9_row_X9_isRow : GoodIn wsX9_row (wsV RX9 171 RX9 yX9_isRow wsX9_isRow) := goodIn_app (goodIn_of _ (by decide +kernel)) ggX9_row_X9_isRow
set_option maxRecDepth 20000 in
theorem ggX9_row_X9_isOn : GoodIn wsX9_row wsX9_isOn := goodIn_r _ [18, 19, 1, 20, 21, 22, 12, 23, 24, 25, 26, 27, 28, 29, 30, 31, 32, 33, 34, 35, 36, 37, 38, 39, 40, 41, 42, 43, 44, 45, 46, 47, 48, 49, 50, 51, 52, 53, 54, 55, 56, 57, 58, 59] (by decide +kernel) (by decide +kernel)
set_option maxRecDepth 20000 in
theorem gX9_row_X9_isOn : GoodIn wsX9_row (wsV RX9 163 RX9 yX9_isOn wsX9_isOn) := goodIn_app (goodIn_of _ (by decide +kernel)) ggX9_row_X9_isOn
theorem dX9_row_0 : decode cX9_row 0 = .ok (.aload_n 0, 1) := by decide +kernel
theorem dX9_row_1 : decode cX9_row 1 = .ok (.iload_n 1, 1) := by decide +kernel
theorem dX9_row_2 : decode cX9_row 2 = .ok (.invokevirtual 171, 3) := by decide +kernel
theorem dX9_row_5 : decode cX9_row 5 = .ok (.ifCond .ne 5, 3) := by decide +kernel
theorem dX9_row_8 : decode cX9_row 8 = .ok (.iconst (-1), 1) := by decide +kernel
theorem dX9_row_9 : decode cX9_row 9 = .ok (.ireturn, 1) := by decide +kernel
theorem dX9_row_10 : decode cX9_row 10 = .ok (.bipush 40, 2) := by decide +kernel
theorem dX9_row_12 : decode cX9_row 12 = .ok (.aload_n 0, 1) := by decide +kernel
theorem dX9_row_13 : decode cX9_row 13 = .ok (.getfield 101, 3) := by decide +kernel
theorem dX9_row_16 : decode cX9_row 16 = .ok (.imul, 1) := by decide +kernel
theorem dX9_row_17 : decode cX9_row 17 = .ok (.iload_n 1, 1) := by decide +kernel
theorem dX9_row_18 : decode cX9_row 18 = .ok (.iadd, 1) := by decide +kernel
theorem dX9_row_19 : decode cX9_row 19 = .ok (.iconst 1, 1) := by decide +kernel
theorem dX9_row_20 : decode cX9_row 20 = .ok (.isub, 1) := by decide +kernel
theorem dX9_row_21 : decode cX9_row 21 = .ok (.istore_n 3, 1) := by decide +kernel
theorem dX9_row_22 : decode cX9_row 22 = .ok (.iload_n 2, 1) := by decide +kernel
theorem dX9_row_23 : decode cX9_row 23 = .ok (.tableswitch 132 0 7 #[45, 52, 59, 74, 83, 100, 109, 116], 45) := by decide +kernel
theorem dX9_row_68 : decode cX9_row 68 = .ok (.aload_n 0, 1) := by decide +kernel
theorem dX9_row_69 : decode cX9_row 69 = .ok (.getfield 32, 3) := by decide +kernel
theorem dX9_row_72 : decode cX9_row 72 = .ok (.iload_n 3, 1) := by decide +kernel
theorem dX9_row_73 : decode cX9_row 73 = .ok (.iaload, 1) := by decide +kernel
theorem dX9_row_74 : decode cX9_row 74 = .ok (.ireturn, 1) := by decide +kernel
theorem dX9_row_75 : decode cX9_row 75 = .ok (.aload_n 0, 1) := by decide +kernel
theorem dX9_row_76 : decode cX9_row 76 = .ok (.getfield 38, 3) := by decide +kernel
theorem dX9_row_79 : decode cX9_row 79 = .ok (.iload_n 3, 1) := by decide +kernel
theorem dX9_row_80 : decode cX9_row 80 = .ok (.iaload, 1) := by decide +kernel
theorem dX9_row_81 : decode cX9_row 81 = .ok (.ireturn, 1) := by decide +kernel
theorem dX9_row_82 : decode cX9_row 82 = .ok (.aload_n 0, 1) := by decide +kernel
theorem dX9_row_83 : decode cX9_row 83 = .ok (.getfield 41, 3) := by decide +kernel
theorem dX9_row_86 : decode cX9_row 86 = .ok (.iload_n 3, 1) := by decide +kernel
theorem dX9_row_87 : decode cX9_row 87 = .ok (.baload, 1) := by decide +kernel
theorem dX9_row_88 : decode cX9_row 88 = .ok (.ifCond .eq 7, 3) := by decide +kernel
theorem dX9_row_91 : decode cX9_row 91 = .ok (.iconst 1, 1) := by decide +kernel
theorem dX9_row_92 : decode cX9_row 92 = .ok (.goto 4, 3) := by decide +kernel
theorem dX9_row_95 : decode cX9_row 95 = .ok (.iconst 0, 1) := by decide +kernel
theorem dX9_row_96 : decode cX9_row 96 = .ok (.ireturn, 1) := by decide +kernel
theorem dX9_row_97 : decode cX9_row 97 = .ok (.aload_n 0, 1) := by decide +kernel
theorem dX9_row_98 : decode cX9_row 98 = .ok (.getfield 48, 3) := by decide +kernel
theorem dX9_row_101 : decode cX9_row 101 = .ok (.iload_n 1, 1) := by decide +kernel
theorem dX9_row_102 : decode cX9_row 102 = .ok (.iconst 1, 1) := by decide +kernel
theorem dX9_row_103 : decode cX9_row 103 = .ok (.isub, 1) := by decide +kernel
theorem dX9_row_104 : decode cX9_row 104 = .ok (.iaload, 1) := by decide +kernel
theorem dX9_row_105 : decode cX9_row 105 = .ok (.ireturn, 1) := by decide +kernel
theorem dX9_row_106 : decode cX9_row 106 = .ok (.aload_n 0, 1) := by decide +kernel
theorem dX9_row_107 : decode cX9_row 107 = .ok (.getfield 51, 3) := by decide +kernel
theorem dX9_row_110 : decode cX9_row 110 = .ok (.iload_n 1, 1) := by decide +kernel
theorem dX9_row_111 : decode cX9_row 111 = .ok (.iconst 1, 1) := by decide +kernel
theorem dX9_row_112 : decode cX9_row 112 = .ok (.isub, 1) := by decide +kernel
theorem dX9_row_113 : decode cX9_row 113 = .ok (.baload, 1) := by decide +kernel
theorem dX9_row_114 : decode cX9_row 114 = .ok (.ifCond .eq 7, 3) := by decide +kernel
theorem dX9_row_117 : decode cX9_row 117 = .ok (.iconst 1, 1) := by decide +kernel
theorem dX9_row_118 : decode cX9_row 118 = .ok (.goto 4, 3) := by decide +kernel
